/-! HALFTABLES, the methods that read: printed by wip/whole/gen/spec_ht.py -/
theorem xi_X3_demandRange : ∀ w ∈ (vx_atS RX3 184 xIAE xUp).filter goodWord, w ∈ wsX3_demandRange := by decide +kernel
abbrev rm_X3_demandRange : Room := { frames := 6, cells := 1, slots := 6, locals := 82 }
set_option maxRecDepth 100000 in
set_option maxHeartbeats 4000000 in
theorem c_X3_demandRange (l : Launch) (hflags : l.stackTraces = false) (g : GT) (nb : Int32) (lo : Int32) (hi : Int32) : cXv 1 6 l g yX3_demandRange wsX3_demandRange rm_X3_demandRange [.int nb, .int lo, .int hi] [] (okR lo hi nb) (fun E => E = xIAE ∧ ¬ okR lo hi nb) := by
  refine enX (y := yX3_demandRange) (ws := wsX3_demandRange) (av := [.int nb, .int lo, .int hi]) (cc := cX3_demandRange) (maxL := 3) (ret := none) (by decide) rfl (Nat.le_of_ble_eq_true rfl) rfl ?_
  intro p e s m below meth c ls hx hb hr hml hown hts hlocks hE hP hD hZ hT hl
  have hK := hE.1
  have hS : va_S noA s.heap s.heap [] := va_S.rf
  generalize hQ : vx_MQ below _ _ _ s _ _ _ = Q9
  have hl : lv_has ls 3 [(0, .int nb), (1, .int lo), (2, .int hi)] := hl
  refine lv_iload_n hx hb dX3_demandRange_0 rfl (lv_at hl 0 rfl) ?_
  refine lv_iload_n hx hb dX3_demandRange_1 rfl (lv_at hl 1 rfl) ?_
  refine lv_icmp_lt (tgt := 10) hx hb dX3_demandRange_2 (by decide) (fun c2 => ?_) (fun c2 => ?_)
  · subst hQ
    exact vx_throwS (names := xUp) hx hb hflags hown xF_IAE xF_up (hts _ (List.mem_of_getElem? (i := 1) rfl)) (hts _ (List.mem_of_getElem? (i := 2) rfl)) hE.2.2.2.2.2.2.2.2 (vx_hat (fun w hw => hts w (xi_X3_demandRange w hw)) xB_IAE (xBw_IAE hE)) xG_IAE hZ.1 hZ.2 hS (hl.1.trans hml.symm) dX3_demandRange_10 dX3_demandRange_13 dX3_demandRange_14 dX3_demandRange_16 dX3_demandRange_19 (fun x hx => (hT x hx).elim) (Nat.le_of_ble_eq_true rfl) (Nat.le_of_ble_eq_true rfl) (Nat.le_of_ble_eq_true rfl) (Nat.le_of_ble_eq_true rfl) hlocks (fun t hvm hsz hq => ⟨(), trivial, ⟨rfl, by first | exact fun h => absurd h.1 (Int32.not_le.mpr c2) | exact fun h => c7 h.2⟩, ⟨Nat.le_trans hS.1 hsz, fun q h1 _ => (hq q (Nat.lt_of_lt_of_le h1 hS.1)).trans (hS.2.1 q h1 (fun h => h))⟩⟩) (fun z hz => (hS.2.2 z hz).elim) (Nat.le_of_ble_eq_true rfl) (Nat.le_of_ble_eq_true rfl)
  · refine lv_iload_n hx hb dX3_demandRange_5 rfl (lv_at hl 0 rfl) ?_
    refine lv_iload_n hx hb dX3_demandRange_6 rfl (lv_at hl 2 rfl) ?_
    refine lv_icmp_le (tgt := 20) hx hb dX3_demandRange_7 (by decide) (fun c7 => ?_) (fun c7 => ?_)
    · subst hQ
      refine vx_ret ?_
      refine W.widen (k := 1) (n := 6) (Nat.le_of_ble_eq_true rfl) (Nat.le_of_ble_eq_true rfl) ?_
      exact W.vret hx hb hr (fun t ht hW => ⟨⟨(), rfl, ⟨Int32.not_lt.mp c2, c7⟩, trivial⟩, hS.F ht⟩) hS.2.2 dX3_demandRange_20
    · subst hQ
      exact vx_throwS (names := xUp) hx hb hflags hown xF_IAE xF_up (hts _ (List.mem_of_getElem? (i := 1) rfl)) (hts _ (List.mem_of_getElem? (i := 2) rfl)) hE.2.2.2.2.2.2.2.2 (vx_hat (fun w hw => hts w (xi_X3_demandRange w hw)) xB_IAE (xBw_IAE hE)) xG_IAE hZ.1 hZ.2 hS (hl.1.trans hml.symm) dX3_demandRange_10 dX3_demandRange_13 dX3_demandRange_14 dX3_demandRange_16 dX3_demandRange_19 (fun x hx => (hT x hx).elim) (Nat.le_of_ble_eq_true rfl) (Nat.le_of_ble_eq_true rfl) (Nat.le_of_ble_eq_true rfl) (Nat.le_of_ble_eq_true rfl) hlocks (fun t hvm hsz hq => ⟨(), trivial, ⟨rfl, by first | exact fun h => absurd h.1 (Int32.not_le.mpr c2) | exact fun h => c7 h.2⟩, ⟨Nat.le_trans hS.1 hsz, fun q h1 _ => (hq q (Nat.lt_of_lt_of_le h1 hS.1)).trans (hS.2.1 q h1 (fun h => h))⟩⟩) (fun z hz => (hS.2.2 z hz).elim) (Nat.le_of_ble_eq_true rfl) (Nat.le_of_ble_eq_true rfl)
theorem xi_X3_demandRegister : ∀ w ∈ (vx_atS RX3 177 xIOB xUp).filter goodWord, w ∈ wsX3_demandRegister := by decide +kernel
abbrev rm_X3_demandRegister : Room := { frames := 6, cells := 1, slots := 6, locals := 82 }
set_option maxRecDepth 100000 in
set_option maxHeartbeats 4000000 in
theorem c_X3_demandRegister (l : Launch) (hflags : l.stackTraces = false) (g : GT) (nb : Int32) : cXv 1 6 l g yX3_demandRegister wsX3_demandRegister rm_X3_demandRegister [.int nb] [] (okG nb) (fun E => E = xIOB ∧ ¬ okG nb) := by
  refine enX (y := yX3_demandRegister) (ws := wsX3_demandRegister) (av := [.int nb]) (cc := cX3_demandRegister) (maxL := 1) (ret := none) (by decide) rfl (Nat.le_of_ble_eq_true rfl) rfl ?_
  intro p e s m below meth c ls hx hb hr hml hown hts hlocks hE hP hD hZ hT hl
  have hK := hE.1
  have hS : va_S noA s.heap s.heap [] := va_S.rf
  generalize hQ : vx_MQ below _ _ _ s _ _ _ = Q9
  have hl : lv_has ls 1 [(0, .int nb)] := hl
  refine lv_iload_n hx hb dX3_demandRegister_0 rfl (lv_at hl 0 rfl) ?_
  refine lv_if_lt (tgt := 10) hx hb dX3_demandRegister_1 (by decide) (fun c1 => ?_) (fun c1 => ?_)
  · subst hQ
    exact vx_throwS (names := xUp) hx hb hflags hown xF_IOB xF_up (hts _ (List.mem_of_getElem? (i := 1) rfl)) (hts _ (List.mem_of_getElem? (i := 2) rfl)) hE.2.2.2.2.2.2.2.1 (vx_hat (fun w hw => hts w (xi_X3_demandRegister w hw)) xB_IOB (xBw_IOB hE)) xG_IOB hZ.1 hZ.2 hS (hl.1.trans hml.symm) dX3_demandRegister_10 dX3_demandRegister_13 dX3_demandRegister_14 dX3_demandRegister_16 dX3_demandRegister_19 (fun x hx => (hT x hx).elim) (Nat.le_of_ble_eq_true rfl) (Nat.le_of_ble_eq_true rfl) (Nat.le_of_ble_eq_true rfl) (Nat.le_of_ble_eq_true rfl) hlocks (fun t hvm hsz hq => ⟨(), trivial, ⟨rfl, by first | exact fun h => absurd h.1 (Int32.not_le.mpr c1) | exact fun h => c7 h.2⟩, ⟨Nat.le_trans hS.1 hsz, fun q h1 _ => (hq q (Nat.lt_of_lt_of_le h1 hS.1)).trans (hS.2.1 q h1 (fun h => h))⟩⟩) (fun z hz => (hS.2.2 z hz).elim) (Nat.le_of_ble_eq_true rfl) (Nat.le_of_ble_eq_true rfl)
  · refine lv_iload_n hx hb dX3_demandRegister_4 rfl (lv_at hl 0 rfl) ?_
    refine lv_bipush (v := 8) hx hb dX3_demandRegister_5 (by decide) ?_
    refine lv_icmp_lt (tgt := 20) hx hb dX3_demandRegister_7 (by decide) (fun c7 => ?_) (fun c7 => ?_)
    · subst hQ
      refine vx_ret ?_
      refine W.widen (k := 1) (n := 6) (Nat.le_of_ble_eq_true rfl) (Nat.le_of_ble_eq_true rfl) ?_
      exact W.vret hx hb hr (fun t ht hW => ⟨⟨(), rfl, ⟨Int32.not_lt.mp c1, c7⟩, trivial⟩, hS.F ht⟩) hS.2.2 dX3_demandRegister_20
    · subst hQ
      exact vx_throwS (names := xUp) hx hb hflags hown xF_IOB xF_up (hts _ (List.mem_of_getElem? (i := 1) rfl)) (hts _ (List.mem_of_getElem? (i := 2) rfl)) hE.2.2.2.2.2.2.2.1 (vx_hat (fun w hw => hts w (xi_X3_demandRegister w hw)) xB_IOB (xBw_IOB hE)) xG_IOB hZ.1 hZ.2 hS (hl.1.trans hml.symm) dX3_demandRegister_10 dX3_demandRegister_13 dX3_demandRegister_14 dX3_demandRegister_16 dX3_demandRegister_19 (fun x hx => (hT x hx).elim) (Nat.le_of_ble_eq_true rfl) (Nat.le_of_ble_eq_true rfl) (Nat.le_of_ble_eq_true rfl) (Nat.le_of_ble_eq_true rfl) hlocks (fun t hvm hsz hq => ⟨(), trivial, ⟨rfl, by first | exact fun h => absurd h.1 (Int32.not_le.mpr c1) | exact fun h => c7 h.2⟩, ⟨Nat.le_trans hS.1 hsz, fun q h1 _ => (hq q (Nat.lt_of_lt_of_le h1 hS.1)).trans (hS.2.1 q h1 (fun h => h))⟩⟩) (fun z hz => (hS.2.2 z hz).elim) (Nat.le_of_ble_eq_true rfl) (Nat.le_of_ble_eq_true rfl)
abbrev rm_X3_demandMethod : Room := { frames := 7, cells := 1, slots := 6, locals := 104 }
set_option maxRecDepth 100000 in
set_option maxHeartbeats 4000000 in
theorem c_X3_demandMethod (l : Launch) (hflags : l.stackTraces = false) (g : GT) (nb : Int32) : cXv 1 6 l g yX3_demandMethod wsX3_demandMethod rm_X3_demandMethod [.int nb] [] (okR 0 2 nb) (fun E => E = xIAE ∧ ¬ okR 0 2 nb) := by
  refine enX (y := yX3_demandMethod) (ws := wsX3_demandMethod) (av := [.int nb]) (cc := cX3_demandMethod) (maxL := 1) (ret := none) (by decide) rfl (Nat.le_of_ble_eq_true rfl) rfl ?_
  intro p e s m below meth c ls hx hb hr hml hown hts hlocks hE hP hD hZ hT hl
  have hK := hE.1
  have hS : va_S noA s.heap s.heap [] := va_S.rf
  generalize hQ : vx_MQ below _ _ _ s _ _ _ = Q9
  have hl : lv_has ls 1 [(0, .int nb)] := hl
  refine lv_iload_n hx hb dX3_demandMethod_0 rfl (lv_at hl 0 rfl) ?_
  refine lv_iconst (v := 0) hx hb dX3_demandMethod_1 (by decide) ?_
  refine lv_iconst (v := 2) hx hb dX3_demandMethod_2 (by decide) ?_
  subst hQ
  refine kXv (vx_runS (As := [.int nb, .int 0, .int 2]) (rest := []) ⟨hx, hb, hml, hown, hts⟩ (c_X3_demandRange l hflags g nb 0 2) (va_cwS 3 hts gX3_demandMethod_X3_demandRange rfl rfl rfl (by decide +kernel) ⟨(Nat.le_of_ble_eq_true rfl), (Nat.le_of_ble_eq_true rfl)⟩) (preSx hE hZ hS hP hD [] (by decide) rfl) rfl rfl hl.1 rfl (lv_room (Nat.le_of_ble_eq_true rfl)) dX3_demandMethod_3 ⟨(Nat.le_of_ble_eq_true rfl), (Nat.le_of_ble_eq_true rfl)⟩) hP hS hT hlocks (Nat.le_of_ble_eq_true rfl) (Nat.le_of_ble_eq_true rfl) (fun E hE9 => by first | exact hE9 | exact Or.inl hE9 | exact Or.inr hE9) (fun H locs x3 hP hS => ?_)
  generalize hQ : vx_MQ below _ _ _ s _ _ _ = Q9
  have x3 : okR 0 2 nb := x3
  refine W.widen (k := 1) (n := 6) (Nat.le_of_ble_eq_true rfl) (Nat.le_of_ble_eq_true rfl) ?_
  subst hQ
  refine vx_ret ?_
  refine W.widen (k := 1) (n := 6) (Nat.le_of_ble_eq_true rfl) (Nat.le_of_ble_eq_true rfl) ?_
  exact W.vret hx hb hr (fun t ht hW => ⟨⟨(), rfl, x3, trivial⟩, hS.F ht⟩) hS.2.2 dX3_demandMethod_6
theorem in_X3_demandOperand_X3 : ∀ w ∈ wsX30, w ∈ wsX3_demandOperand := by decide +kernel
abbrev rm_X3_demandOperand : Room := { frames := 7, cells := 1, slots := 6, locals := 104 }
set_option maxRecDepth 100000 in
set_option maxHeartbeats 4000000 in
theorem c_X3_demandOperand (l : Launch) (hflags : l.stackTraces = false) (g : GT) (x0 : Nat) (h0 : Nat) (p0 : Nat) (r0 : Nat) (a0 : Nat) (a1 : Nat) (a2 : Nat) (a3 : Nat) (w : Nat) (ac : Int64) (fc : Nat → Int32) (fs : Nat → Int32) (fr : Nat → Int32) (nb : Int32) (hw8 : w ≤ 8) : cXv 1 6 l g yX3_demandOperand wsX3_demandOperand rm_X3_demandOperand [.ref x0, .int nb] [(x0, .inr (3, [.ref a0, .ref h0, .ref p0, .ref r0])), (a0, .inr (2, [.int (nI w), .long ac, .ref a1, .ref a2, .ref a3])), (a1, .inl (g.2.1 0, 3, .inl fc)), (a2, .inl (g.2.1 0, 511, .inl fs)), (a3, .inl (g.2.1 0, 8, .inl fr))] (okR 0 (nI (gr w)) nb) (fun E => E = xIAE ∧ ¬ okR 0 (nI (gr w)) nb) := by
  refine enX (y := yX3_demandOperand) (ws := wsX3_demandOperand) (av := [.ref x0, .int nb]) (cc := cX3_demandOperand) (maxL := 2) (ret := none) (by decide) rfl (Nat.le_of_ble_eq_true rfl) rfl ?_
  intro p e s m below meth c ls hx hb hr hml hown hts hlocks hE hP hD hZ hT hl
  have hK := hE.1
  have hS : va_S noA s.heap s.heap [] := va_S.rf
  generalize hQ : vx_MQ below _ _ _ s _ _ _ = Q9
  have hl : lv_has ls 2 [(0, .ref x0), (1, .int nb)] := hl
  refine lv_iload_n hx hb dX3_demandOperand_0 rfl (lv_at hl 1 rfl) ?_
  refine lv_iconst (v := 0) hx hb dX3_demandOperand_1 (by decide) ?_
  refine lv_aload_n hx hb dX3_demandOperand_2 rfl (lv_at hl 0 rfl) ?_
  refine va_get (D := g.1) (ci := 3) (v := .ref a0) (C := RX3) (T := TX3) (N := 4) hx hb hts in_X3_demandOperand_X3 hown hK hP 0 rfl rfl 0 (by decide) (hts _ (List.mem_of_getElem? (i := 1) rfl)) (fun _ h9 => h9) rfl dX3_demandOperand_3 ?_
  refine kRi (va_runV (As := []) (rest := [.int 0, .int nb]) ⟨hx, hb, hml, hown, hts⟩ (c_X2_greatest l g a0 a1 a2 a3 w ac fc fs fr (by first | assumption | omega | exact Nat.le_of_ble_eq_true rfl)) (cwV 0 hts gX3_demandOperand_X2_greatest rfl rfl rfl (by decide +kernel) ⟨(Nat.le_of_ble_eq_true rfl), (Nat.le_of_ble_eq_true rfl)⟩) (preV (RX2, TX2, 5) hE hP [1, 2, 3, 4] rfl rfl) rfl rfl hl.1 rfl (lv_room (Nat.le_of_ble_eq_true rfl)) dX3_demandOperand_6 ⟨(Nat.le_of_ble_eq_true rfl), (Nat.le_of_ble_eq_true rfl)⟩) hP hS (fun r9 H locs hr9 hP hS => ?_)
  subst hr9
  subst hQ
  refine kXv (vx_runS (As := [.int nb, .int 0, .int (nI (gr w))]) (rest := []) ⟨hx, hb, hml, hown, hts⟩ (c_X3_demandRange l hflags g nb 0 (nI (gr w))) (va_cwS 3 hts gX3_demandOperand_X3_demandRange rfl rfl rfl (by decide +kernel) ⟨(Nat.le_of_ble_eq_true rfl), (Nat.le_of_ble_eq_true rfl)⟩) (preSx hE hZ hS hP hD [] (by decide) rfl) rfl rfl hl.1 rfl (lv_room (Nat.le_of_ble_eq_true rfl)) dX3_demandOperand_9 ⟨(Nat.le_of_ble_eq_true rfl), (Nat.le_of_ble_eq_true rfl)⟩) hP hS hT hlocks (Nat.le_of_ble_eq_true rfl) (Nat.le_of_ble_eq_true rfl) (fun E hE9 => by first | exact hE9 | exact Or.inl hE9 | exact Or.inr hE9) (fun H locs x9 hP hS => ?_)
  generalize hQ : vx_MQ below _ _ _ s _ _ _ = Q9
  have x9 : okR 0 (nI (gr w)) nb := x9
  refine W.widen (k := 1) (n := 6) (Nat.le_of_ble_eq_true rfl) (Nat.le_of_ble_eq_true rfl) ?_
  subst hQ
  refine vx_ret ?_
  refine W.widen (k := 1) (n := 6) (Nat.le_of_ble_eq_true rfl) (Nat.le_of_ble_eq_true rfl) ?_
  exact W.vret hx hb hr (fun t ht hW => ⟨⟨(), rfl, x9, trivial⟩, hS.F ht⟩) hS.2.2 dX3_demandOperand_12
theorem xi_X3_demandEntry : ∀ w ∈ (vx_atS RX3 177 xIOB xUp).filter goodWord, w ∈ wsX3_demandEntry := by decide +kernel
theorem in_X3_demandEntry_X3 : ∀ w ∈ wsX30, w ∈ wsX3_demandEntry := by decide +kernel
abbrev rm_X3_demandEntry : Room := { frames := 6, cells := 1, slots := 6, locals := 82 }
set_option maxRecDepth 100000 in
set_option maxHeartbeats 4000000 in
theorem c_X3_demandEntry (l : Launch) (hflags : l.stackTraces = false) (g : GT) (x0 : Nat) (h0 : Nat) (p0 : Nat) (r0 : Nat) (a0 : Nat) (a1 : Nat) (a2 : Nat) (a3 : Nat) (w : Nat) (ac : Int64) (fc : Nat → Int32) (fs : Nat → Int32) (fr : Nat → Int32) (nb : Int32) (hw8 : w ≤ 8) : cXv 1 6 l g yX3_demandEntry wsX3_demandEntry rm_X3_demandEntry [.ref x0, .int nb] [(x0, .inr (3, [.ref a0, .ref h0, .ref p0, .ref r0])), (a0, .inr (2, [.int (nI w), .long ac, .ref a1, .ref a2, .ref a3])), (a1, .inl (g.2.1 0, 3, .inl fc)), (a2, .inl (g.2.1 0, 511, .inl fs)), (a3, .inl (g.2.1 0, 8, .inl fr))] (okE w nb) (fun E => E = xIOB ∧ ¬ okE w nb) := by
  refine enX (y := yX3_demandEntry) (ws := wsX3_demandEntry) (av := [.ref x0, .int nb]) (cc := cX3_demandEntry) (maxL := 2) (ret := none) (by decide) rfl (Nat.le_of_ble_eq_true rfl) rfl ?_
  intro p e s m below meth c ls hx hb hr hml hown hts hlocks hE hP hD hZ hT hl
  have hK := hE.1
  have hS : va_S noA s.heap s.heap [] := va_S.rf
  generalize hQ : vx_MQ below _ _ _ s _ _ _ = Q9
  have hl : lv_has ls 2 [(0, .ref x0), (1, .int nb)] := hl
  refine lv_iload_n hx hb dX3_demandEntry_0 rfl (lv_at hl 1 rfl) ?_
  refine lv_if_lt (tgt := 15) hx hb dX3_demandEntry_1 (by decide) (fun c1 => ?_) (fun c1 => ?_)
  · subst hQ
    exact vx_throwS (names := xUp) hx hb hflags hown xF_IOB xF_up (hts _ (List.mem_of_getElem? (i := 1) rfl)) (hts _ (List.mem_of_getElem? (i := 2) rfl)) hE.2.2.2.2.2.2.1 (vx_hat (fun w hw => hts w (xi_X3_demandEntry w hw)) xB_IOB (xBw_IOB hE)) xG_IOB hZ.1 hZ.2 hS (hl.1.trans hml.symm) dX3_demandEntry_15 dX3_demandEntry_18 dX3_demandEntry_19 dX3_demandEntry_21 dX3_demandEntry_24 (fun x hx => (hT x hx).elim) (Nat.le_of_ble_eq_true rfl) (Nat.le_of_ble_eq_true rfl) (Nat.le_of_ble_eq_true rfl) (Nat.le_of_ble_eq_true rfl) hlocks (fun t hvm hsz hq => ⟨(), trivial, ⟨rfl, by first | exact fun h => absurd h.1 (Int32.not_le.mpr c1) | exact fun h => c12 h.2⟩, ⟨Nat.le_trans hS.1 hsz, fun q h1 _ => (hq q (Nat.lt_of_lt_of_le h1 hS.1)).trans (hS.2.1 q h1 (fun h => h))⟩⟩) (fun z hz => (hS.2.2 z hz).elim) (Nat.le_of_ble_eq_true rfl) (Nat.le_of_ble_eq_true rfl)
  · refine lv_iload_n hx hb dX3_demandEntry_4 rfl (lv_at hl 1 rfl) ?_
    refine lv_aload_n hx hb dX3_demandEntry_5 rfl (lv_at hl 0 rfl) ?_
    refine va_get (D := g.1) (ci := 3) (v := .ref a0) (C := RX3) (T := TX3) (N := 4) hx hb hts in_X3_demandEntry_X3 hown hK hP 0 rfl rfl 0 (by decide) (hts _ (List.mem_of_getElem? (i := 3) rfl)) (fun _ h9 => h9) rfl dX3_demandEntry_6 ?_
    refine kRi (va_runV (As := []) (rest := [.int nb]) ⟨hx, hb, hml, hown, hts⟩ (c_X2_entries l g a0 a1 a2 a3 w ac fc fs fr (by first | assumption | omega | exact Nat.le_of_ble_eq_true rfl)) (cwV 0 hts gX3_demandEntry_X2_entries rfl rfl rfl (by decide +kernel) ⟨(Nat.le_of_ble_eq_true rfl), (Nat.le_of_ble_eq_true rfl)⟩) (preV (RX2, TX2, 5) hE hP [1, 2, 3, 4] rfl rfl) rfl rfl hl.1 rfl (lv_room (Nat.le_of_ble_eq_true rfl)) dX3_demandEntry_9 ⟨(Nat.le_of_ble_eq_true rfl), (Nat.le_of_ble_eq_true rfl)⟩) hP hS (fun r9 H locs hr9 hP hS => ?_)
    subst hr9
    refine lv_icmp_lt (tgt := 25) hx hb dX3_demandEntry_12 (by decide) (fun c12 => ?_) (fun c12 => ?_)
    · subst hQ
      refine vx_ret ?_
      refine W.widen (k := 1) (n := 6) (Nat.le_of_ble_eq_true rfl) (Nat.le_of_ble_eq_true rfl) ?_
      exact W.vret hx hb hr (fun t ht hW => ⟨⟨(), rfl, ⟨Int32.not_lt.mp c1, c12⟩, trivial⟩, hS.F ht⟩) hS.2.2 dX3_demandEntry_25
    · subst hQ
      exact vx_throwS (names := xUp) hx hb hflags hown xF_IOB xF_up (hts _ (List.mem_of_getElem? (i := 1) rfl)) (hts _ (List.mem_of_getElem? (i := 2) rfl)) hE.2.2.2.2.2.2.1 (vx_hat (fun w hw => hts w (xi_X3_demandEntry w hw)) xB_IOB (xBw_IOB hE)) xG_IOB hZ.1 hZ.2 hS (hl.1.trans hml.symm) dX3_demandEntry_15 dX3_demandEntry_18 dX3_demandEntry_19 dX3_demandEntry_21 dX3_demandEntry_24 (fun x hx => (hT x hx).elim) (Nat.le_of_ble_eq_true rfl) (Nat.le_of_ble_eq_true rfl) (Nat.le_of_ble_eq_true rfl) (Nat.le_of_ble_eq_true rfl) hlocks (fun t hvm hsz hq => ⟨(), trivial, ⟨rfl, by first | exact fun h => absurd h.1 (Int32.not_le.mpr c1) | exact fun h => c12 h.2⟩, ⟨Nat.le_trans hS.1 hsz, fun q h1 _ => (hq q (Nat.lt_of_lt_of_le h1 hS.1)).trans (hS.2.1 q h1 (fun h => h))⟩⟩) (fun z hz => (hS.2.2 z hz).elim) (Nat.le_of_ble_eq_true rfl) (Nat.le_of_ble_eq_true rfl)
theorem in_X3_multiply_X3 : ∀ w ∈ wsX30, w ∈ wsX3_multiply := by decide +kernel
abbrev rm_X3_multiply : Room := { frames := 8, cells := 3, slots := 18, locals := 125 }
set_option maxRecDepth 100000 in
set_option maxHeartbeats 4000000 in
theorem c_X3_multiply (l : Launch) (hflags : l.stackTraces = false) (g : GT) (x0 : Nat) (h0 : Nat) (p0 : Nat) (r0 : Nat) (a0 : Nat) (a1 : Nat) (a2 : Nat) (a3 : Nat) (w : Nat) (ac : Int64) (fc : Nat → Int32) (fs : Nat → Int32) (fr : Nat → Int32) (av : Int32) (bv : Int32) (mt : Int32) (hw8 : w ≤ 8) : cXi 3 18 l g yX3_multiply wsX3_multiply rm_X3_multiply [.ref x0, .int av, .int bv, .int mt] [(x0, .inr (3, [.ref a0, .ref h0, .ref p0, .ref r0])), (a0, .inr (2, [.int (nI w), .long ac, .ref a1, .ref a2, .ref a3])), (a1, .inl (g.2.1 0, 3, .inl fc)), (a2, .inl (g.2.1 0, 511, .inl fs)), (a3, .inl (g.2.1 0, 8, .inl fr))] (fun r => (okR 0 (nI (gr w)) av ∧ okR 0 (nI (gr w)) bv ∧ okR 0 2 mt) ∧ r = prF fs (tn av) (tn bv) mt) (fun E => E = xIAE ∧ ¬ (okR 0 (nI (gr w)) av ∧ okR 0 (nI (gr w)) bv ∧ okR 0 2 mt)) := by
  refine enX (y := yX3_multiply) (ws := wsX3_multiply) (av := [.ref x0, .int av, .int bv, .int mt]) (cc := cX3_multiply) (maxL := 4) (ret := (some .int)) (by decide) rfl (Nat.le_of_ble_eq_true rfl) rfl ?_
  intro p e s m below meth c ls hx hb hr hml hown hts hlocks hE hP hD hZ hT hl
  have hK := hE.1
  have hS : va_S noA s.heap s.heap [] := va_S.rf
  generalize hQ : vx_MQ below _ _ _ s _ _ _ = Q9
  have hl : lv_has ls 4 [(0, .ref x0), (1, .int av), (2, .int bv), (3, .int mt)] := hl
  have hgr := gr_le w hw8
  have hen := ents_le w hw8
  refine lv_aload_n hx hb dX3_multiply_0 rfl (lv_at hl 0 rfl) ?_
  refine lv_iload_n hx hb dX3_multiply_1 rfl (lv_at hl 1 rfl) ?_
  subst hQ
  refine kXv (vx_runV (As := [.int av]) (rest := []) ⟨hx, hb, hml, hown, hts⟩ (c_X3_demandOperand l hflags g x0 h0 p0 r0 a0 a1 a2 a3 w ac fc fs fr av (by first | assumption | omega | exact Nat.le_of_ble_eq_true rfl)) (cwV 1 hts gX3_multiply_X3_demandOperand rfl rfl rfl (by decide +kernel) ⟨(Nat.le_of_ble_eq_true rfl), (Nat.le_of_ble_eq_true rfl)⟩) (preVx (RX3, TX3, 4) hE hZ hS hP hD [0, 1, 2, 3, 4] (by decide) rfl rfl) rfl rfl hl.1 rfl (lv_room (Nat.le_of_ble_eq_true rfl)) dX3_multiply_2 ⟨(Nat.le_of_ble_eq_true rfl), (Nat.le_of_ble_eq_true rfl)⟩) hP hS hT hlocks (Nat.le_of_ble_eq_true rfl) (Nat.le_of_ble_eq_true rfl) (fun E hE9 => by exact ⟨hE9.1, fun h9 => hE9.2 (by first | exact h9 | exact h9.1 | exact h9.2 | exact h9.2.1 | exact h9.2.2 | exact h9.2.2.1 | exact h9.2.2.2 | exact h9.2.2.2.1 | exact h9.2.2.2.2)⟩) (fun H locs x2 hP hS => ?_)
  generalize hQ : vx_MQ below _ _ _ s _ _ _ = Q9
  have x2 : okR 0 (nI (gr w)) av := x2
  refine W.widen (k := 1) (n := 6) (Nat.le_of_ble_eq_true rfl) (Nat.le_of_ble_eq_true rfl) ?_
  have y_av := x2
  obtain ⟨ka, hka, rfl⟩ := op_of hw8 y_av
  refine lv_aload_n hx hb dX3_multiply_5 rfl (lv_at hl 0 rfl) ?_
  refine lv_iload_n hx hb dX3_multiply_6 rfl (lv_at hl 2 rfl) ?_
  subst hQ
  refine kXv (vx_runV (As := [.int bv]) (rest := []) ⟨hx, hb, hml, hown, hts⟩ (c_X3_demandOperand l hflags g x0 h0 p0 r0 a0 a1 a2 a3 w ac fc fs fr bv (by first | assumption | omega | exact Nat.le_of_ble_eq_true rfl)) (cwV 1 hts gX3_multiply_X3_demandOperand rfl rfl rfl (by decide +kernel) ⟨(Nat.le_of_ble_eq_true rfl), (Nat.le_of_ble_eq_true rfl)⟩) (preVx (RX3, TX3, 4) hE hZ hS hP hD [0, 1, 2, 3, 4] (by decide) rfl rfl) rfl rfl hl.1 rfl (lv_room (Nat.le_of_ble_eq_true rfl)) dX3_multiply_7 ⟨(Nat.le_of_ble_eq_true rfl), (Nat.le_of_ble_eq_true rfl)⟩) hP hS hT hlocks (Nat.le_of_ble_eq_true rfl) (Nat.le_of_ble_eq_true rfl) (fun E hE9 => by exact ⟨hE9.1, fun h9 => hE9.2 (by first | exact h9 | exact h9.1 | exact h9.2 | exact h9.2.1 | exact h9.2.2 | exact h9.2.2.1 | exact h9.2.2.2 | exact h9.2.2.2.1 | exact h9.2.2.2.2)⟩) (fun H locs x7 hP hS => ?_)
  generalize hQ : vx_MQ below _ _ _ s _ _ _ = Q9
  have x7 : okR 0 (nI (gr w)) bv := x7
  refine W.widen (k := 2) (n := 12) (Nat.le_of_ble_eq_true rfl) (Nat.le_of_ble_eq_true rfl) ?_
  have y_bv := x7
  obtain ⟨kb, hkb, rfl⟩ := op_of hw8 y_bv
  refine lv_iload_n hx hb dX3_multiply_10 rfl (lv_at hl 3 rfl) ?_
  subst hQ
  refine kXv (vx_runS (As := [.int mt]) (rest := []) ⟨hx, hb, hml, hown, hts⟩ (c_X3_demandMethod l hflags g mt) (va_cwS 1 hts gX3_multiply_X3_demandMethod rfl rfl rfl (by decide +kernel) ⟨(Nat.le_of_ble_eq_true rfl), (Nat.le_of_ble_eq_true rfl)⟩) (preSx hE hZ hS hP hD [] (by decide) rfl) rfl rfl hl.1 rfl (lv_room (Nat.le_of_ble_eq_true rfl)) dX3_multiply_11 ⟨(Nat.le_of_ble_eq_true rfl), (Nat.le_of_ble_eq_true rfl)⟩) hP hS hT hlocks (Nat.le_of_ble_eq_true rfl) (Nat.le_of_ble_eq_true rfl) (fun E hE9 => by exact ⟨hE9.1, fun h9 => hE9.2 (by first | exact h9 | exact h9.1 | exact h9.2 | exact h9.2.1 | exact h9.2.2 | exact h9.2.2.1 | exact h9.2.2.2 | exact h9.2.2.2.1 | exact h9.2.2.2.2)⟩) (fun H locs x11 hP hS => ?_)
  generalize hQ : vx_MQ below _ _ _ s _ _ _ = Q9
  have x11 : okR 0 2 mt := x11
  refine W.widen (k := 3) (n := 18) (Nat.le_of_ble_eq_true rfl) (Nat.le_of_ble_eq_true rfl) ?_
  have y_mt := x11
  refine lv_aload_n hx hb dX3_multiply_14 rfl (lv_at hl 0 rfl) ?_
  refine va_get (D := g.1) (ci := 3) (v := .ref a0) (C := RX3) (T := TX3) (N := 4) hx hb hts in_X3_multiply_X3 hown hK hP 0 rfl rfl 0 (by decide) (hts _ (List.mem_of_getElem? (i := 1) rfl)) (fun _ h9 => h9) rfl dX3_multiply_15 ?_
  refine lv_iload_n hx hb dX3_multiply_18 rfl (lv_at hl 1 rfl) ?_
  refine lv_iload_n hx hb dX3_multiply_19 rfl (lv_at hl 2 rfl) ?_
  refine lv_iload_n hx hb dX3_multiply_20 rfl (lv_at hl 3 rfl) ?_
  refine kRi (va_runV (As := [.int (nI ka), .int (nI kb), .int mt]) (rest := []) ⟨hx, hb, hml, hown, hts⟩ (c_X2_product l g a0 a1 a2 a3 w ac fc fs fr ka kb mt (by first | assumption | omega | exact Nat.le_of_ble_eq_true rfl) (by first | assumption | omega | exact Nat.le_of_ble_eq_true rfl)) (cwV 3 hts gX3_multiply_X2_product rfl rfl rfl (by decide +kernel) ⟨(Nat.le_of_ble_eq_true rfl), (Nat.le_of_ble_eq_true rfl)⟩) (preV (RX2, TX2, 5) hE hP [1, 2, 3, 4] rfl rfl) rfl rfl hl.1 rfl (lv_room (Nat.le_of_ble_eq_true rfl)) dX3_multiply_21 ⟨(Nat.le_of_ble_eq_true rfl), (Nat.le_of_ble_eq_true rfl)⟩) hP hS (fun r9 H locs hr9 hP hS => ?_)
  subst hr9
  subst hQ
  refine vx_ret ?_
  refine W.widen (k := 3) (n := 18) (Nat.le_of_ble_eq_true rfl) (Nat.le_of_ble_eq_true rfl) ?_
  exact W.iret (v := (prF fs ka kb mt)) hx hb hr (fun t ht hW => ⟨⟨(prF fs ka kb mt), (), rfl, ⟨⟨y_av, y_bv, y_mt⟩, by rw [tn_nI (n := ka) (by omega), tn_nI (n := kb) (by omega)]⟩, trivial⟩, hS.F ht⟩) hS.2.2 dX3_multiply_24
theorem in_X3_cost_X3 : ∀ w ∈ wsX30, w ∈ wsX3_cost := by decide +kernel
abbrev rm_X3_cost : Room := { frames := 8, cells := 3, slots := 18, locals := 125 }
set_option maxRecDepth 100000 in
set_option maxHeartbeats 4000000 in
theorem c_X3_cost (l : Launch) (hflags : l.stackTraces = false) (g : GT) (x0 : Nat) (h0 : Nat) (p0 : Nat) (r0 : Nat) (a0 : Nat) (a1 : Nat) (a2 : Nat) (a3 : Nat) (w : Nat) (ac : Int64) (fc : Nat → Int32) (fs : Nat → Int32) (fr : Nat → Int32) (av : Int32) (bv : Int32) (mt : Int32) (hw8 : w ≤ 8) : cXi 3 18 l g yX3_cost wsX3_cost rm_X3_cost [.ref x0, .int av, .int bv, .int mt] [(x0, .inr (3, [.ref a0, .ref h0, .ref p0, .ref r0])), (a0, .inr (2, [.int (nI w), .long ac, .ref a1, .ref a2, .ref a3])), (a1, .inl (g.2.1 0, 3, .inl fc)), (a2, .inl (g.2.1 0, 511, .inl fs)), (a3, .inl (g.2.1 0, 8, .inl fr))] (fun r => (okR 0 (nI (gr w)) av ∧ okR 0 (nI (gr w)) bv ∧ okR 0 2 mt) ∧ r = pcF fc (tn bv) mt) (fun E => E = xIAE ∧ ¬ (okR 0 (nI (gr w)) av ∧ okR 0 (nI (gr w)) bv ∧ okR 0 2 mt)) := by
  refine enX (y := yX3_cost) (ws := wsX3_cost) (av := [.ref x0, .int av, .int bv, .int mt]) (cc := cX3_cost) (maxL := 4) (ret := (some .int)) (by decide) rfl (Nat.le_of_ble_eq_true rfl) rfl ?_
  intro p e s m below meth c ls hx hb hr hml hown hts hlocks hE hP hD hZ hT hl
  have hK := hE.1
  have hS : va_S noA s.heap s.heap [] := va_S.rf
  generalize hQ : vx_MQ below _ _ _ s _ _ _ = Q9
  have hl : lv_has ls 4 [(0, .ref x0), (1, .int av), (2, .int bv), (3, .int mt)] := hl
  have hgr := gr_le w hw8
  have hen := ents_le w hw8
  refine lv_aload_n hx hb dX3_cost_0 rfl (lv_at hl 0 rfl) ?_
  refine lv_iload_n hx hb dX3_cost_1 rfl (lv_at hl 1 rfl) ?_
  subst hQ
  refine kXv (vx_runV (As := [.int av]) (rest := []) ⟨hx, hb, hml, hown, hts⟩ (c_X3_demandOperand l hflags g x0 h0 p0 r0 a0 a1 a2 a3 w ac fc fs fr av (by first | assumption | omega | exact Nat.le_of_ble_eq_true rfl)) (cwV 1 hts gX3_cost_X3_demandOperand rfl rfl rfl (by decide +kernel) ⟨(Nat.le_of_ble_eq_true rfl), (Nat.le_of_ble_eq_true rfl)⟩) (preVx (RX3, TX3, 4) hE hZ hS hP hD [0, 1, 2, 3, 4] (by decide) rfl rfl) rfl rfl hl.1 rfl (lv_room (Nat.le_of_ble_eq_true rfl)) dX3_cost_2 ⟨(Nat.le_of_ble_eq_true rfl), (Nat.le_of_ble_eq_true rfl)⟩) hP hS hT hlocks (Nat.le_of_ble_eq_true rfl) (Nat.le_of_ble_eq_true rfl) (fun E hE9 => by exact ⟨hE9.1, fun h9 => hE9.2 (by first | exact h9 | exact h9.1 | exact h9.2 | exact h9.2.1 | exact h9.2.2 | exact h9.2.2.1 | exact h9.2.2.2 | exact h9.2.2.2.1 | exact h9.2.2.2.2)⟩) (fun H locs x2 hP hS => ?_)
  generalize hQ : vx_MQ below _ _ _ s _ _ _ = Q9
  have x2 : okR 0 (nI (gr w)) av := x2
  refine W.widen (k := 1) (n := 6) (Nat.le_of_ble_eq_true rfl) (Nat.le_of_ble_eq_true rfl) ?_
  have y_av := x2
  obtain ⟨ka, hka, rfl⟩ := op_of hw8 y_av
  refine lv_aload_n hx hb dX3_cost_5 rfl (lv_at hl 0 rfl) ?_
  refine lv_iload_n hx hb dX3_cost_6 rfl (lv_at hl 2 rfl) ?_
  subst hQ
  refine kXv (vx_runV (As := [.int bv]) (rest := []) ⟨hx, hb, hml, hown, hts⟩ (c_X3_demandOperand l hflags g x0 h0 p0 r0 a0 a1 a2 a3 w ac fc fs fr bv (by first | assumption | omega | exact Nat.le_of_ble_eq_true rfl)) (cwV 1 hts gX3_cost_X3_demandOperand rfl rfl rfl (by decide +kernel) ⟨(Nat.le_of_ble_eq_true rfl), (Nat.le_of_ble_eq_true rfl)⟩) (preVx (RX3, TX3, 4) hE hZ hS hP hD [0, 1, 2, 3, 4] (by decide) rfl rfl) rfl rfl hl.1 rfl (lv_room (Nat.le_of_ble_eq_true rfl)) dX3_cost_7 ⟨(Nat.le_of_ble_eq_true rfl), (Nat.le_of_ble_eq_true rfl)⟩) hP hS hT hlocks (Nat.le_of_ble_eq_true rfl) (Nat.le_of_ble_eq_true rfl) (fun E hE9 => by exact ⟨hE9.1, fun h9 => hE9.2 (by first | exact h9 | exact h9.1 | exact h9.2 | exact h9.2.1 | exact h9.2.2 | exact h9.2.2.1 | exact h9.2.2.2 | exact h9.2.2.2.1 | exact h9.2.2.2.2)⟩) (fun H locs x7 hP hS => ?_)
  generalize hQ : vx_MQ below _ _ _ s _ _ _ = Q9
  have x7 : okR 0 (nI (gr w)) bv := x7
  refine W.widen (k := 2) (n := 12) (Nat.le_of_ble_eq_true rfl) (Nat.le_of_ble_eq_true rfl) ?_
  have y_bv := x7
  obtain ⟨kb, hkb, rfl⟩ := op_of hw8 y_bv
  refine lv_iload_n hx hb dX3_cost_10 rfl (lv_at hl 3 rfl) ?_
  subst hQ
  refine kXv (vx_runS (As := [.int mt]) (rest := []) ⟨hx, hb, hml, hown, hts⟩ (c_X3_demandMethod l hflags g mt) (va_cwS 1 hts gX3_cost_X3_demandMethod rfl rfl rfl (by decide +kernel) ⟨(Nat.le_of_ble_eq_true rfl), (Nat.le_of_ble_eq_true rfl)⟩) (preSx hE hZ hS hP hD [] (by decide) rfl) rfl rfl hl.1 rfl (lv_room (Nat.le_of_ble_eq_true rfl)) dX3_cost_11 ⟨(Nat.le_of_ble_eq_true rfl), (Nat.le_of_ble_eq_true rfl)⟩) hP hS hT hlocks (Nat.le_of_ble_eq_true rfl) (Nat.le_of_ble_eq_true rfl) (fun E hE9 => by exact ⟨hE9.1, fun h9 => hE9.2 (by first | exact h9 | exact h9.1 | exact h9.2 | exact h9.2.1 | exact h9.2.2 | exact h9.2.2.1 | exact h9.2.2.2 | exact h9.2.2.2.1 | exact h9.2.2.2.2)⟩) (fun H locs x11 hP hS => ?_)
  generalize hQ : vx_MQ below _ _ _ s _ _ _ = Q9
  have x11 : okR 0 2 mt := x11
  refine W.widen (k := 3) (n := 18) (Nat.le_of_ble_eq_true rfl) (Nat.le_of_ble_eq_true rfl) ?_
  have y_mt := x11
  refine lv_aload_n hx hb dX3_cost_14 rfl (lv_at hl 0 rfl) ?_
  refine va_get (D := g.1) (ci := 3) (v := .ref a0) (C := RX3) (T := TX3) (N := 4) hx hb hts in_X3_cost_X3 hown hK hP 0 rfl rfl 0 (by decide) (hts _ (List.mem_of_getElem? (i := 1) rfl)) (fun _ h9 => h9) rfl dX3_cost_15 ?_
  refine lv_iload_n hx hb dX3_cost_18 rfl (lv_at hl 2 rfl) ?_
  refine lv_iload_n hx hb dX3_cost_19 rfl (lv_at hl 3 rfl) ?_
  refine kRi (va_runV (As := [.int (nI kb), .int mt]) (rest := []) ⟨hx, hb, hml, hown, hts⟩ (c_X2_price l g a0 a1 a2 a3 w ac fc fs fr kb mt) (cwV 2 hts gX3_cost_X2_price rfl rfl rfl (by decide +kernel) ⟨(Nat.le_of_ble_eq_true rfl), (Nat.le_of_ble_eq_true rfl)⟩) (preV (RX2, TX2, 5) hE hP [1, 2, 3, 4] rfl rfl) rfl rfl hl.1 rfl (lv_room (Nat.le_of_ble_eq_true rfl)) dX3_cost_20 ⟨(Nat.le_of_ble_eq_true rfl), (Nat.le_of_ble_eq_true rfl)⟩) hP hS (fun r9 H locs hr9 hP hS => ?_)
  subst hr9
  subst hQ
  refine vx_ret ?_
  refine W.widen (k := 3) (n := 18) (Nat.le_of_ble_eq_true rfl) (Nat.le_of_ble_eq_true rfl) ?_
  exact W.iret (v := (pcF fc kb mt)) hx hb hr (fun t ht hW => ⟨⟨(pcF fc kb mt), (), rfl, ⟨⟨y_av, y_bv, y_mt⟩, by rw [tn_nI (n := kb) (by omega)]⟩, trivial⟩, hS.F ht⟩) hS.2.2 dX3_cost_23
theorem in_X3_cheapest_X3 : ∀ w ∈ wsX30, w ∈ wsX3_cheapest := by decide +kernel
abbrev rm_X3_cheapest : Room := { frames := 8, cells := 2, slots := 12, locals := 125 }
set_option maxRecDepth 100000 in
set_option maxHeartbeats 4000000 in
theorem c_X3_cheapest (l : Launch) (hflags : l.stackTraces = false) (g : GT) (x0 : Nat) (h0 : Nat) (p0 : Nat) (r0 : Nat) (a0 : Nat) (a1 : Nat) (a2 : Nat) (a3 : Nat) (w : Nat) (ac : Int64) (fc : Nat → Int32) (fs : Nat → Int32) (fr : Nat → Int32) (av : Int32) (bv : Int32) (hw8 : w ≤ 8) : cXi 2 12 l g yX3_cheapest wsX3_cheapest rm_X3_cheapest [.ref x0, .int av, .int bv] [(x0, .inr (3, [.ref a0, .ref h0, .ref p0, .ref r0])), (a0, .inr (2, [.int (nI w), .long ac, .ref a1, .ref a2, .ref a3])), (a1, .inl (g.2.1 0, 3, .inl fc)), (a2, .inl (g.2.1 0, 511, .inl fs)), (a3, .inl (g.2.1 0, 8, .inl fr))] (fun r => (okR 0 (nI (gr w)) av ∧ okR 0 (nI (gr w)) bv) ∧ r = chF fc fs (tn av) (tn bv)) (fun E => E = xIAE ∧ ¬ (okR 0 (nI (gr w)) av ∧ okR 0 (nI (gr w)) bv)) := by
  refine enX (y := yX3_cheapest) (ws := wsX3_cheapest) (av := [.ref x0, .int av, .int bv]) (cc := cX3_cheapest) (maxL := 5) (ret := (some .int)) (by decide) rfl (Nat.le_of_ble_eq_true rfl) rfl ?_
  intro p e s m below meth c ls hx hb hr hml hown hts hlocks hE hP hD hZ hT hl
  have hK := hE.1
  have hS : va_S noA s.heap s.heap [] := va_S.rf
  generalize hQ : vx_MQ below _ _ _ s _ _ _ = Q9
  have hl : lv_has ls 5 [(0, .ref x0), (1, .int av), (2, .int bv)] := hl
  have hgr := gr_le w hw8
  have hen := ents_le w hw8
  refine lv_aload_n hx hb dX3_cheapest_0 rfl (lv_at hl 0 rfl) ?_
  refine lv_iload_n hx hb dX3_cheapest_1 rfl (lv_at hl 1 rfl) ?_
  subst hQ
  refine kXv (vx_runV (As := [.int av]) (rest := []) ⟨hx, hb, hml, hown, hts⟩ (c_X3_demandOperand l hflags g x0 h0 p0 r0 a0 a1 a2 a3 w ac fc fs fr av (by first | assumption | omega | exact Nat.le_of_ble_eq_true rfl)) (cwV 1 hts gX3_cheapest_X3_demandOperand rfl rfl rfl (by decide +kernel) ⟨(Nat.le_of_ble_eq_true rfl), (Nat.le_of_ble_eq_true rfl)⟩) (preVx (RX3, TX3, 4) hE hZ hS hP hD [0, 1, 2, 3, 4] (by decide) rfl rfl) rfl rfl hl.1 rfl (lv_room (Nat.le_of_ble_eq_true rfl)) dX3_cheapest_2 ⟨(Nat.le_of_ble_eq_true rfl), (Nat.le_of_ble_eq_true rfl)⟩) hP hS hT hlocks (Nat.le_of_ble_eq_true rfl) (Nat.le_of_ble_eq_true rfl) (fun E hE9 => by exact ⟨hE9.1, fun h9 => hE9.2 (by first | exact h9 | exact h9.1 | exact h9.2 | exact h9.2.1 | exact h9.2.2 | exact h9.2.2.1 | exact h9.2.2.2 | exact h9.2.2.2.1 | exact h9.2.2.2.2)⟩) (fun H locs x2 hP hS => ?_)
  generalize hQ : vx_MQ below _ _ _ s _ _ _ = Q9
  have x2 : okR 0 (nI (gr w)) av := x2
  refine W.widen (k := 1) (n := 6) (Nat.le_of_ble_eq_true rfl) (Nat.le_of_ble_eq_true rfl) ?_
  have y_av := x2
  obtain ⟨ka, hka, rfl⟩ := op_of hw8 y_av
  refine lv_aload_n hx hb dX3_cheapest_5 rfl (lv_at hl 0 rfl) ?_
  refine lv_iload_n hx hb dX3_cheapest_6 rfl (lv_at hl 2 rfl) ?_
  subst hQ
  refine kXv (vx_runV (As := [.int bv]) (rest := []) ⟨hx, hb, hml, hown, hts⟩ (c_X3_demandOperand l hflags g x0 h0 p0 r0 a0 a1 a2 a3 w ac fc fs fr bv (by first | assumption | omega | exact Nat.le_of_ble_eq_true rfl)) (cwV 1 hts gX3_cheapest_X3_demandOperand rfl rfl rfl (by decide +kernel) ⟨(Nat.le_of_ble_eq_true rfl), (Nat.le_of_ble_eq_true rfl)⟩) (preVx (RX3, TX3, 4) hE hZ hS hP hD [0, 1, 2, 3, 4] (by decide) rfl rfl) rfl rfl hl.1 rfl (lv_room (Nat.le_of_ble_eq_true rfl)) dX3_cheapest_7 ⟨(Nat.le_of_ble_eq_true rfl), (Nat.le_of_ble_eq_true rfl)⟩) hP hS hT hlocks (Nat.le_of_ble_eq_true rfl) (Nat.le_of_ble_eq_true rfl) (fun E hE9 => by exact ⟨hE9.1, fun h9 => hE9.2 (by first | exact h9 | exact h9.1 | exact h9.2 | exact h9.2.1 | exact h9.2.2 | exact h9.2.2.1 | exact h9.2.2.2 | exact h9.2.2.2.1 | exact h9.2.2.2.2)⟩) (fun H locs x7 hP hS => ?_)
  generalize hQ : vx_MQ below _ _ _ s _ _ _ = Q9
  have x7 : okR 0 (nI (gr w)) bv := x7
  refine W.widen (k := 2) (n := 12) (Nat.le_of_ble_eq_true rfl) (Nat.le_of_ble_eq_true rfl) ?_
  have y_bv := x7
  obtain ⟨kb, hkb, rfl⟩ := op_of hw8 y_bv
  refine lv_iconst (v := 1) hx hb dX3_cheapest_10 (by decide) ?_
  refine lv_istore_n (lv' := [(3, .int 1), (0, .ref x0), (1, .int (nI ka)), (2, .int (nI kb))]) hx hb dX3_cheapest_11 rfl hl (by decide) rfl (fun ls hl => ?_)
  refine lv_aload_n hx hb dX3_cheapest_12 rfl (lv_at hl 1 rfl) ?_
  refine va_get (D := g.1) (ci := 3) (v := .ref a0) (C := RX3) (T := TX3) (N := 4) hx hb hts in_X3_cheapest_X3 hown hK hP 0 rfl rfl 0 (by decide) (hts _ (List.mem_of_getElem? (i := 1) rfl)) (fun _ h9 => h9) rfl dX3_cheapest_13 ?_
  refine lv_iload_n hx hb dX3_cheapest_16 rfl (lv_at hl 3 rfl) ?_
  refine lv_iconst (v := 2) hx hb dX3_cheapest_17 (by decide) ?_
  refine kRi (va_runV (As := [.int (nI kb), .int 2]) (rest := []) ⟨hx, hb, hml, hown, hts⟩ (c_X2_price l g a0 a1 a2 a3 w ac fc fs fr kb 2) (cwV 2 hts gX3_cheapest_X2_price rfl rfl rfl (by decide +kernel) ⟨(Nat.le_of_ble_eq_true rfl), (Nat.le_of_ble_eq_true rfl)⟩) (preV (RX2, TX2, 5) hE hP [1, 2, 3, 4] rfl rfl) rfl rfl hl.1 rfl (lv_room (Nat.le_of_ble_eq_true rfl)) dX3_cheapest_18 ⟨(Nat.le_of_ble_eq_true rfl), (Nat.le_of_ble_eq_true rfl)⟩) hP hS (fun r9 H locs hr9 hP hS => ?_)
  subst hr9
  refine lv_aload_n hx hb dX3_cheapest_21 rfl (lv_at hl 1 rfl) ?_
  refine va_get (D := g.1) (ci := 3) (v := .ref a0) (C := RX3) (T := TX3) (N := 4) hx hb hts in_X3_cheapest_X3 hown hK hP 0 rfl rfl 0 (by decide) (hts _ (List.mem_of_getElem? (i := 1) rfl)) (fun _ h9 => h9) rfl dX3_cheapest_22 ?_
  refine lv_iload_n hx hb dX3_cheapest_25 rfl (lv_at hl 3 rfl) ?_
  refine lv_iload_n hx hb dX3_cheapest_26 rfl (lv_at hl 0 rfl) ?_
  refine kRi (va_runV (As := [.int (nI kb), .int 1]) (rest := [.int (pcF fc kb 2)]) ⟨hx, hb, hml, hown, hts⟩ (c_X2_price l g a0 a1 a2 a3 w ac fc fs fr kb 1) (cwV 2 hts gX3_cheapest_X2_price rfl rfl rfl (by decide +kernel) ⟨(Nat.le_of_ble_eq_true rfl), (Nat.le_of_ble_eq_true rfl)⟩) (preV (RX2, TX2, 5) hE hP [1, 2, 3, 4] rfl rfl) rfl rfl hl.1 rfl (lv_room (Nat.le_of_ble_eq_true rfl)) dX3_cheapest_27 ⟨(Nat.le_of_ble_eq_true rfl), (Nat.le_of_ble_eq_true rfl)⟩) hP hS (fun r9 H locs hr9 hP hS => ?_)
  subst hr9
  refine lv_icmp_ge (tgt := 35) hx hb dX3_cheapest_30 (by decide) (fun c30 => ?_) (fun c30 => ?_)
  · refine lv_aload_n hx hb dX3_cheapest_35 rfl (lv_at hl 1 rfl) ?_
    refine va_get (D := g.1) (ci := 3) (v := .ref a0) (C := RX3) (T := TX3) (N := 4) hx hb hts in_X3_cheapest_X3 hown hK hP 0 rfl rfl 0 (by decide) (hts _ (List.mem_of_getElem? (i := 1) rfl)) (fun _ h9 => h9) rfl dX3_cheapest_36 ?_
    refine lv_iload_n hx hb dX3_cheapest_39 rfl (lv_at hl 3 rfl) ?_
    refine lv_iconst (v := 0) hx hb dX3_cheapest_40 (by decide) ?_
    refine kRi (va_runV (As := [.int (nI kb), .int 0]) (rest := []) ⟨hx, hb, hml, hown, hts⟩ (c_X2_price l g a0 a1 a2 a3 w ac fc fs fr kb 0) (cwV 2 hts gX3_cheapest_X2_price rfl rfl rfl (by decide +kernel) ⟨(Nat.le_of_ble_eq_true rfl), (Nat.le_of_ble_eq_true rfl)⟩) (preV (RX2, TX2, 5) hE hP [1, 2, 3, 4] rfl rfl) rfl rfl hl.1 rfl (lv_room (Nat.le_of_ble_eq_true rfl)) dX3_cheapest_41 ⟨(Nat.le_of_ble_eq_true rfl), (Nat.le_of_ble_eq_true rfl)⟩) hP hS (fun r9 H locs hr9 hP hS => ?_)
    subst hr9
    refine lv_aload_n hx hb dX3_cheapest_44 rfl (lv_at hl 1 rfl) ?_
    refine va_get (D := g.1) (ci := 3) (v := .ref a0) (C := RX3) (T := TX3) (N := 4) hx hb hts in_X3_cheapest_X3 hown hK hP 0 rfl rfl 0 (by decide) (hts _ (List.mem_of_getElem? (i := 1) rfl)) (fun _ h9 => h9) rfl dX3_cheapest_45 ?_
    refine lv_iload_n hx hb dX3_cheapest_48 rfl (lv_at hl 3 rfl) ?_
    refine lv_iload_n hx hb dX3_cheapest_49 rfl (lv_at hl 0 rfl) ?_
    refine kRi (va_runV (As := [.int (nI kb), .int 1]) (rest := [.int (pcF fc kb 0)]) ⟨hx, hb, hml, hown, hts⟩ (c_X2_price l g a0 a1 a2 a3 w ac fc fs fr kb 1) (cwV 2 hts gX3_cheapest_X2_price rfl rfl rfl (by decide +kernel) ⟨(Nat.le_of_ble_eq_true rfl), (Nat.le_of_ble_eq_true rfl)⟩) (preV (RX2, TX2, 5) hE hP [1, 2, 3, 4] rfl rfl) rfl rfl hl.1 rfl (lv_room (Nat.le_of_ble_eq_true rfl)) dX3_cheapest_50 ⟨(Nat.le_of_ble_eq_true rfl), (Nat.le_of_ble_eq_true rfl)⟩) hP hS (fun r9 H locs hr9 hP hS => ?_)
    subst hr9
    refine lv_icmp_gt (tgt := 60) hx hb dX3_cheapest_53 (by decide) (fun c53 => ?_) (fun c53 => ?_)
    · refine lv_iconst (v := 0) hx hb dX3_cheapest_60 (by decide) ?_
      refine lv_istore (lv' := [(4, .int 0), (3, .int 1), (0, .ref x0), (1, .int (nI ka)), (2, .int (nI kb))]) hx hb dX3_cheapest_61 hl (by decide) rfl (fun ls hl => ?_)
      refine lv_iload hx hb dX3_cheapest_63 (lv_at hl 0 rfl) ?_
      refine lv_if_eq (tgt := 84) hx hb dX3_cheapest_65 (by decide) (fun c65 => ?_) (fun c65 => ?_)
      · refine lv_iload_n hx hb dX3_cheapest_84 rfl (lv_at hl 1 rfl) ?_
        subst hQ
        refine vx_ret ?_
        refine W.widen (k := 2) (n := 12) (Nat.le_of_ble_eq_true rfl) (Nat.le_of_ble_eq_true rfl) ?_
        exact W.iret (v := 1) hx hb hr (fun t ht hW => ⟨⟨1, (), rfl, ⟨⟨y_av, y_bv⟩, by rw [tn_nI (n := ka) (by omega), tn_nI (n := kb) (by omega)]; first | (have hB : chB fc kb = 1 := if_neg (Int32.not_lt.mpr c30); rw [chF, hB]; first | exact (if_neg (fun h => absurd h.1 (Int32.not_le.mpr c53))).symm | exact (if_neg (fun h => h.2 b77)).symm | exact (if_pos ⟨Int32.not_lt.mp c53, b77⟩).symm) | (have hB : chB fc kb = 2 := if_pos (Int32.not_le.mp c30); rw [chF, hB]; first | exact (if_neg (fun h => absurd h.1 (Int32.not_le.mpr c53))).symm | exact (if_neg (fun h => h.2 b77)).symm | exact (if_pos ⟨Int32.not_lt.mp c53, b77⟩).symm)⟩, trivial⟩, hS.F ht⟩) hS.2.2 dX3_cheapest_85
      · exact absurd c65 (by decide)
    · refine lv_iconst (v := 1) hx hb dX3_cheapest_56 (by decide) ?_
      refine lv_goto (tgt := 61) hx hb dX3_cheapest_57 (by decide) ?_
      refine lv_istore (lv' := [(4, .int 1), (3, .int 1), (0, .ref x0), (1, .int (nI ka)), (2, .int (nI kb))]) hx hb dX3_cheapest_61 hl (by decide) rfl (fun ls hl => ?_)
      refine lv_iload hx hb dX3_cheapest_63 (lv_at hl 0 rfl) ?_
      refine lv_if_eq (tgt := 84) hx hb dX3_cheapest_65 (by decide) (fun c65 => ?_) (fun c65 => ?_)
      · exact absurd c65 (by decide)
      · refine lv_aload_n hx hb dX3_cheapest_68 rfl (lv_at hl 2 rfl) ?_
        refine va_get (D := g.1) (ci := 3) (v := .ref a0) (C := RX3) (T := TX3) (N := 4) hx hb hts in_X3_cheapest_X3 hown hK hP 0 rfl rfl 0 (by decide) (hts _ (List.mem_of_getElem? (i := 1) rfl)) (fun _ h9 => h9) rfl dX3_cheapest_69 ?_
        refine lv_iload_n hx hb dX3_cheapest_72 rfl (lv_at hl 3 rfl) ?_
        refine lv_iload_n hx hb dX3_cheapest_73 rfl (lv_at hl 4 rfl) ?_
        refine kRi (va_runV (As := [.int (nI ka), .int (nI kb)]) (rest := []) ⟨hx, hb, hml, hown, hts⟩ (c_X2_isWrongPair l g a0 a1 a2 a3 w ac fc fs fr ka kb (by first | assumption | omega | exact Nat.le_of_ble_eq_true rfl) (by first | assumption | omega | exact Nat.le_of_ble_eq_true rfl)) (cwV 2 hts gX3_cheapest_X2_isWrongPair rfl rfl rfl (by decide +kernel) ⟨(Nat.le_of_ble_eq_true rfl), (Nat.le_of_ble_eq_true rfl)⟩) (preV (RX2, TX2, 5) hE hP [1, 2, 3, 4] rfl rfl) rfl rfl hl.1 rfl (lv_room (Nat.le_of_ble_eq_true rfl)) dX3_cheapest_74 ⟨(Nat.le_of_ble_eq_true rfl), (Nat.le_of_ble_eq_true rfl)⟩) hP hS (fun r9 H locs hr9 hP hS => ?_)
        subst hr9
        refine lv_if_ne (tgt := 84) hx hb dX3_cheapest_77 (by decide) (fun c77 => ?_) (fun c77 => ?_)
        · have b77 : wpP fs ka kb := bz_t c77
          refine lv_iload_n hx hb dX3_cheapest_84 rfl (lv_at hl 1 rfl) ?_
          subst hQ
          refine vx_ret ?_
          refine W.widen (k := 2) (n := 12) (Nat.le_of_ble_eq_true rfl) (Nat.le_of_ble_eq_true rfl) ?_
          exact W.iret (v := 1) hx hb hr (fun t ht hW => ⟨⟨1, (), rfl, ⟨⟨y_av, y_bv⟩, by rw [tn_nI (n := ka) (by omega), tn_nI (n := kb) (by omega)]; first | (have hB : chB fc kb = 1 := if_neg (Int32.not_lt.mpr c30); rw [chF, hB]; first | exact (if_neg (fun h => absurd h.1 (Int32.not_le.mpr c53))).symm | exact (if_neg (fun h => h.2 b77)).symm | exact (if_pos ⟨Int32.not_lt.mp c53, b77⟩).symm) | (have hB : chB fc kb = 2 := if_pos (Int32.not_le.mp c30); rw [chF, hB]; first | exact (if_neg (fun h => absurd h.1 (Int32.not_le.mpr c53))).symm | exact (if_neg (fun h => h.2 b77)).symm | exact (if_pos ⟨Int32.not_lt.mp c53, b77⟩).symm)⟩, trivial⟩, hS.F ht⟩) hS.2.2 dX3_cheapest_85
        · have b77 : ¬ (wpP fs ka kb) := bz_f c77
          refine lv_iconst (v := 0) hx hb dX3_cheapest_80 (by decide) ?_
          refine lv_goto (tgt := 85) hx hb dX3_cheapest_81 (by decide) ?_
          subst hQ
          refine vx_ret ?_
          refine W.widen (k := 2) (n := 12) (Nat.le_of_ble_eq_true rfl) (Nat.le_of_ble_eq_true rfl) ?_
          exact W.iret (v := 0) hx hb hr (fun t ht hW => ⟨⟨0, (), rfl, ⟨⟨y_av, y_bv⟩, by rw [tn_nI (n := ka) (by omega), tn_nI (n := kb) (by omega)]; first | (have hB : chB fc kb = 1 := if_neg (Int32.not_lt.mpr c30); rw [chF, hB]; first | exact (if_neg (fun h => absurd h.1 (Int32.not_le.mpr c53))).symm | exact (if_neg (fun h => h.2 b77)).symm | exact (if_pos ⟨Int32.not_lt.mp c53, b77⟩).symm) | (have hB : chB fc kb = 2 := if_pos (Int32.not_le.mp c30); rw [chF, hB]; first | exact (if_neg (fun h => absurd h.1 (Int32.not_le.mpr c53))).symm | exact (if_neg (fun h => h.2 b77)).symm | exact (if_pos ⟨Int32.not_lt.mp c53, b77⟩).symm)⟩, trivial⟩, hS.F ht⟩) hS.2.2 dX3_cheapest_85
  · refine lv_iconst (v := 2) hx hb dX3_cheapest_33 (by decide) ?_
    refine lv_istore_n (lv' := [(3, .int 2), (0, .ref x0), (1, .int (nI ka)), (2, .int (nI kb))]) hx hb dX3_cheapest_34 rfl hl (by decide) rfl (fun ls hl => ?_)
    refine lv_aload_n hx hb dX3_cheapest_35 rfl (lv_at hl 1 rfl) ?_
    refine va_get (D := g.1) (ci := 3) (v := .ref a0) (C := RX3) (T := TX3) (N := 4) hx hb hts in_X3_cheapest_X3 hown hK hP 0 rfl rfl 0 (by decide) (hts _ (List.mem_of_getElem? (i := 1) rfl)) (fun _ h9 => h9) rfl dX3_cheapest_36 ?_
    refine lv_iload_n hx hb dX3_cheapest_39 rfl (lv_at hl 3 rfl) ?_
    refine lv_iconst (v := 0) hx hb dX3_cheapest_40 (by decide) ?_
    refine kRi (va_runV (As := [.int (nI kb), .int 0]) (rest := []) ⟨hx, hb, hml, hown, hts⟩ (c_X2_price l g a0 a1 a2 a3 w ac fc fs fr kb 0) (cwV 2 hts gX3_cheapest_X2_price rfl rfl rfl (by decide +kernel) ⟨(Nat.le_of_ble_eq_true rfl), (Nat.le_of_ble_eq_true rfl)⟩) (preV (RX2, TX2, 5) hE hP [1, 2, 3, 4] rfl rfl) rfl rfl hl.1 rfl (lv_room (Nat.le_of_ble_eq_true rfl)) dX3_cheapest_41 ⟨(Nat.le_of_ble_eq_true rfl), (Nat.le_of_ble_eq_true rfl)⟩) hP hS (fun r9 H locs hr9 hP hS => ?_)
    subst hr9
    refine lv_aload_n hx hb dX3_cheapest_44 rfl (lv_at hl 1 rfl) ?_
    refine va_get (D := g.1) (ci := 3) (v := .ref a0) (C := RX3) (T := TX3) (N := 4) hx hb hts in_X3_cheapest_X3 hown hK hP 0 rfl rfl 0 (by decide) (hts _ (List.mem_of_getElem? (i := 1) rfl)) (fun _ h9 => h9) rfl dX3_cheapest_45 ?_
    refine lv_iload_n hx hb dX3_cheapest_48 rfl (lv_at hl 3 rfl) ?_
    refine lv_iload_n hx hb dX3_cheapest_49 rfl (lv_at hl 0 rfl) ?_
    refine kRi (va_runV (As := [.int (nI kb), .int 2]) (rest := [.int (pcF fc kb 0)]) ⟨hx, hb, hml, hown, hts⟩ (c_X2_price l g a0 a1 a2 a3 w ac fc fs fr kb 2) (cwV 2 hts gX3_cheapest_X2_price rfl rfl rfl (by decide +kernel) ⟨(Nat.le_of_ble_eq_true rfl), (Nat.le_of_ble_eq_true rfl)⟩) (preV (RX2, TX2, 5) hE hP [1, 2, 3, 4] rfl rfl) rfl rfl hl.1 rfl (lv_room (Nat.le_of_ble_eq_true rfl)) dX3_cheapest_50 ⟨(Nat.le_of_ble_eq_true rfl), (Nat.le_of_ble_eq_true rfl)⟩) hP hS (fun r9 H locs hr9 hP hS => ?_)
    subst hr9
    refine lv_icmp_gt (tgt := 60) hx hb dX3_cheapest_53 (by decide) (fun c53 => ?_) (fun c53 => ?_)
    · refine lv_iconst (v := 0) hx hb dX3_cheapest_60 (by decide) ?_
      refine lv_istore (lv' := [(4, .int 0), (3, .int 2), (0, .ref x0), (1, .int (nI ka)), (2, .int (nI kb))]) hx hb dX3_cheapest_61 hl (by decide) rfl (fun ls hl => ?_)
      refine lv_iload hx hb dX3_cheapest_63 (lv_at hl 0 rfl) ?_
      refine lv_if_eq (tgt := 84) hx hb dX3_cheapest_65 (by decide) (fun c65 => ?_) (fun c65 => ?_)
      · refine lv_iload_n hx hb dX3_cheapest_84 rfl (lv_at hl 1 rfl) ?_
        subst hQ
        refine vx_ret ?_
        refine W.widen (k := 2) (n := 12) (Nat.le_of_ble_eq_true rfl) (Nat.le_of_ble_eq_true rfl) ?_
        exact W.iret (v := 2) hx hb hr (fun t ht hW => ⟨⟨2, (), rfl, ⟨⟨y_av, y_bv⟩, by rw [tn_nI (n := ka) (by omega), tn_nI (n := kb) (by omega)]; first | (have hB : chB fc kb = 1 := if_neg (Int32.not_lt.mpr c30); rw [chF, hB]; first | exact (if_neg (fun h => absurd h.1 (Int32.not_le.mpr c53))).symm | exact (if_neg (fun h => h.2 b77)).symm | exact (if_pos ⟨Int32.not_lt.mp c53, b77⟩).symm) | (have hB : chB fc kb = 2 := if_pos (Int32.not_le.mp c30); rw [chF, hB]; first | exact (if_neg (fun h => absurd h.1 (Int32.not_le.mpr c53))).symm | exact (if_neg (fun h => h.2 b77)).symm | exact (if_pos ⟨Int32.not_lt.mp c53, b77⟩).symm)⟩, trivial⟩, hS.F ht⟩) hS.2.2 dX3_cheapest_85
      · exact absurd c65 (by decide)
    · refine lv_iconst (v := 1) hx hb dX3_cheapest_56 (by decide) ?_
      refine lv_goto (tgt := 61) hx hb dX3_cheapest_57 (by decide) ?_
      refine lv_istore (lv' := [(4, .int 1), (3, .int 2), (0, .ref x0), (1, .int (nI ka)), (2, .int (nI kb))]) hx hb dX3_cheapest_61 hl (by decide) rfl (fun ls hl => ?_)
      refine lv_iload hx hb dX3_cheapest_63 (lv_at hl 0 rfl) ?_
      refine lv_if_eq (tgt := 84) hx hb dX3_cheapest_65 (by decide) (fun c65 => ?_) (fun c65 => ?_)
      · exact absurd c65 (by decide)
      · refine lv_aload_n hx hb dX3_cheapest_68 rfl (lv_at hl 2 rfl) ?_
        refine va_get (D := g.1) (ci := 3) (v := .ref a0) (C := RX3) (T := TX3) (N := 4) hx hb hts in_X3_cheapest_X3 hown hK hP 0 rfl rfl 0 (by decide) (hts _ (List.mem_of_getElem? (i := 1) rfl)) (fun _ h9 => h9) rfl dX3_cheapest_69 ?_
        refine lv_iload_n hx hb dX3_cheapest_72 rfl (lv_at hl 3 rfl) ?_
        refine lv_iload_n hx hb dX3_cheapest_73 rfl (lv_at hl 4 rfl) ?_
        refine kRi (va_runV (As := [.int (nI ka), .int (nI kb)]) (rest := []) ⟨hx, hb, hml, hown, hts⟩ (c_X2_isWrongPair l g a0 a1 a2 a3 w ac fc fs fr ka kb (by first | assumption | omega | exact Nat.le_of_ble_eq_true rfl) (by first | assumption | omega | exact Nat.le_of_ble_eq_true rfl)) (cwV 2 hts gX3_cheapest_X2_isWrongPair rfl rfl rfl (by decide +kernel) ⟨(Nat.le_of_ble_eq_true rfl), (Nat.le_of_ble_eq_true rfl)⟩) (preV (RX2, TX2, 5) hE hP [1, 2, 3, 4] rfl rfl) rfl rfl hl.1 rfl (lv_room (Nat.le_of_ble_eq_true rfl)) dX3_cheapest_74 ⟨(Nat.le_of_ble_eq_true rfl), (Nat.le_of_ble_eq_true rfl)⟩) hP hS (fun r9 H locs hr9 hP hS => ?_)
        subst hr9
        refine lv_if_ne (tgt := 84) hx hb dX3_cheapest_77 (by decide) (fun c77 => ?_) (fun c77 => ?_)
        · have b77 : wpP fs ka kb := bz_t c77
          refine lv_iload_n hx hb dX3_cheapest_84 rfl (lv_at hl 1 rfl) ?_
          subst hQ
          refine vx_ret ?_
          refine W.widen (k := 2) (n := 12) (Nat.le_of_ble_eq_true rfl) (Nat.le_of_ble_eq_true rfl) ?_
          exact W.iret (v := 2) hx hb hr (fun t ht hW => ⟨⟨2, (), rfl, ⟨⟨y_av, y_bv⟩, by rw [tn_nI (n := ka) (by omega), tn_nI (n := kb) (by omega)]; first | (have hB : chB fc kb = 1 := if_neg (Int32.not_lt.mpr c30); rw [chF, hB]; first | exact (if_neg (fun h => absurd h.1 (Int32.not_le.mpr c53))).symm | exact (if_neg (fun h => h.2 b77)).symm | exact (if_pos ⟨Int32.not_lt.mp c53, b77⟩).symm) | (have hB : chB fc kb = 2 := if_pos (Int32.not_le.mp c30); rw [chF, hB]; first | exact (if_neg (fun h => absurd h.1 (Int32.not_le.mpr c53))).symm | exact (if_neg (fun h => h.2 b77)).symm | exact (if_pos ⟨Int32.not_lt.mp c53, b77⟩).symm)⟩, trivial⟩, hS.F ht⟩) hS.2.2 dX3_cheapest_85
        · have b77 : ¬ (wpP fs ka kb) := bz_f c77
          refine lv_iconst (v := 0) hx hb dX3_cheapest_80 (by decide) ?_
          refine lv_goto (tgt := 85) hx hb dX3_cheapest_81 (by decide) ?_
          subst hQ
          refine vx_ret ?_
          refine W.widen (k := 2) (n := 12) (Nat.le_of_ble_eq_true rfl) (Nat.le_of_ble_eq_true rfl) ?_
          exact W.iret (v := 0) hx hb hr (fun t ht hW => ⟨⟨0, (), rfl, ⟨⟨y_av, y_bv⟩, by rw [tn_nI (n := ka) (by omega), tn_nI (n := kb) (by omega)]; first | (have hB : chB fc kb = 1 := if_neg (Int32.not_lt.mpr c30); rw [chF, hB]; first | exact (if_neg (fun h => absurd h.1 (Int32.not_le.mpr c53))).symm | exact (if_neg (fun h => h.2 b77)).symm | exact (if_pos ⟨Int32.not_lt.mp c53, b77⟩).symm) | (have hB : chB fc kb = 2 := if_pos (Int32.not_le.mp c30); rw [chF, hB]; first | exact (if_neg (fun h => absurd h.1 (Int32.not_le.mpr c53))).symm | exact (if_neg (fun h => h.2 b77)).symm | exact (if_pos ⟨Int32.not_lt.mp c53, b77⟩).symm)⟩, trivial⟩, hS.F ht⟩) hS.2.2 dX3_cheapest_85
abbrev rm_X3_rounded : Room := { frames := 0, cells := 0, slots := 0, locals := 0 }
set_option maxRecDepth 100000 in
set_option maxHeartbeats 4000000 in
theorem c_X3_rounded (l : Launch) (g : GT) (pd : Int32) (kp : Int32) (wy : Int32) : cRi l g yX3_rounded wsX3_rounded rm_X3_rounded [.int pd, .int kp, .int wy] [] (fun r => r = (roF pd kp wy)) := by
  refine enR (y := yX3_rounded) (ws := wsX3_rounded) (av := [.int pd, .int kp, .int wy]) (cc := cX3_rounded) (maxL := 6) (ret := (some .int)) (by decide) rfl (Nat.le_of_ble_eq_true rfl) rfl ?_
  intro p e s m below meth c ls hx hb hr hml hown hts hlocks hE hP hl
  have hK := hE.1
  have hS : va_S noA s.heap s.heap [] := va_S.rf
  generalize hQ : MQ below _ _ s _ _ _ = Q9
  have hl : lv_has ls 6 [(0, .int pd), (1, .int kp), (2, .int wy)] := hl
  refine lv_iconst (v := 1) hx hb dX3_rounded_0 (by decide) ?_
  refine lv_iload_n hx hb dX3_rounded_1 rfl (lv_at hl 1 rfl) ?_
  refine lv_ishl hx hb dX3_rounded_2 ?_
  refine lv_istore_n (lv' := [(3, .int ((1 : Int32) <<< (kp &&& 31))), (0, .int pd), (1, .int kp), (2, .int wy)]) hx hb dX3_rounded_3 rfl hl (by decide) rfl (fun ls hl => ?_)
  refine lv_iload_n hx hb dX3_rounded_4 rfl (lv_at hl 1 rfl) ?_
  refine lv_iload_n hx hb dX3_rounded_5 rfl (lv_at hl 2 rfl) ?_
  refine lv_ishr hx hb dX3_rounded_6 ?_
  refine lv_istore (lv' := [(4, .int (pd >>> (kp &&& 31))), (3, .int ((1 : Int32) <<< (kp &&& 31))), (0, .int pd), (1, .int kp), (2, .int wy)]) hx hb dX3_rounded_7 hl (by decide) rfl (fun ls hl => ?_)
  refine lv_iconst (v := 2) hx hb dX3_rounded_9 (by decide) ?_
  refine lv_iload_n hx hb dX3_rounded_10 rfl (lv_at hl 2 rfl) ?_
  refine lv_iload hx hb dX3_rounded_11 (lv_at hl 0 rfl) ?_
  refine lv_iload_n hx hb dX3_rounded_13 rfl (lv_at hl 1 rfl) ?_
  refine lv_imul hx hb dX3_rounded_14 ?_
  refine lv_isub hx hb dX3_rounded_15 ?_
  refine lv_imul hx hb dX3_rounded_16 ?_
  refine lv_istore (lv' := [(5, .int (2 * (pd - ((pd >>> (kp &&& 31)) * ((1 : Int32) <<< (kp &&& 31)))))), (4, .int (pd >>> (kp &&& 31))), (3, .int ((1 : Int32) <<< (kp &&& 31))), (0, .int pd), (1, .int kp), (2, .int wy)]) hx hb dX3_rounded_17 hl (by decide) rfl (fun ls hl => ?_)
  refine lv_iload_n hx hb dX3_rounded_19 rfl (lv_at hl 5 rfl) ?_
  refine lv_if_eq (tgt := 29) hx hb dX3_rounded_20 (by decide) (fun c20 => ?_) (fun c20 => ?_)
  · refine lv_iload hx hb dX3_rounded_29 (lv_at hl 1 rfl) ?_
    subst hQ
    exact W.iret (v := (pd >>> (kp &&& 31))) hx hb hr (fun t ht hW => ⟨⟨(pd >>> (kp &&& 31)), (), rfl, (if_pos (by first | exact Or.inl c20 | exact Or.inr (Int32.not_le.mp c26))).symm, trivial⟩, hS.F ht⟩) hS.2.2 dX3_rounded_31
  · refine lv_iload hx hb dX3_rounded_23 (lv_at hl 0 rfl) ?_
    refine lv_iload_n hx hb dX3_rounded_25 rfl (lv_at hl 2 rfl) ?_
    refine lv_icmp_ge (tgt := 32) hx hb dX3_rounded_26 (by decide) (fun c26 => ?_) (fun c26 => ?_)
    · refine lv_iload_n hx hb dX3_rounded_32 rfl (lv_at hl 5 rfl) ?_
      refine lv_iconst (v := 1) hx hb dX3_rounded_33 (by decide) ?_
      refine lv_icmp_eq (tgt := 43) hx hb dX3_rounded_34 (by decide) (fun c34 => ?_) (fun c34 => ?_)
      · refine lv_iload hx hb dX3_rounded_43 (lv_at hl 1 rfl) ?_
        refine lv_iconst (v := 1) hx hb dX3_rounded_45 (by decide) ?_
        refine lv_iadd hx hb dX3_rounded_46 ?_
        subst hQ
        exact W.iret (v := ((pd >>> (kp &&& 31)) + 1)) hx hb hr (fun t ht hW => ⟨⟨((pd >>> (kp &&& 31)) + 1), (), rfl, ((if_neg (fun h => h.elim c20 (fun h => absurd c26 (Int32.not_le.mpr h)))).trans (if_pos (by first | exact Or.inl c34 | exact Or.inr (Int32.not_le.mp c40)))).symm, trivial⟩, hS.F ht⟩) hS.2.2 dX3_rounded_47
      · refine lv_iload hx hb dX3_rounded_37 (lv_at hl 0 rfl) ?_
        refine lv_iload_n hx hb dX3_rounded_39 rfl (lv_at hl 2 rfl) ?_
        refine lv_icmp_le (tgt := 48) hx hb dX3_rounded_40 (by decide) (fun c40 => ?_) (fun c40 => ?_)
        · refine lv_iload hx hb dX3_rounded_48 (lv_at hl 1 rfl) ?_
          refine lv_iload hx hb dX3_rounded_50 (lv_at hl 1 rfl) ?_
          refine lv_iconst (v := 1) hx hb dX3_rounded_52 (by decide) ?_
          refine lv_iand hx hb dX3_rounded_53 ?_
          refine lv_iadd hx hb dX3_rounded_54 ?_
          subst hQ
          exact W.iret (v := ((pd >>> (kp &&& 31)) + ((pd >>> (kp &&& 31)) &&& 1))) hx hb hr (fun t ht hW => ⟨⟨((pd >>> (kp &&& 31)) + ((pd >>> (kp &&& 31)) &&& 1)), (), rfl, ((if_neg (fun h => h.elim c20 (fun h => absurd c26 (Int32.not_le.mpr h)))).trans (if_neg (fun h => h.elim c34 (fun h => absurd c40 (Int32.not_le.mpr h))))).symm, trivial⟩, hS.F ht⟩) hS.2.2 dX3_rounded_55
        · refine lv_iload hx hb dX3_rounded_43 (lv_at hl 1 rfl) ?_
          refine lv_iconst (v := 1) hx hb dX3_rounded_45 (by decide) ?_
          refine lv_iadd hx hb dX3_rounded_46 ?_
          subst hQ
          exact W.iret (v := ((pd >>> (kp &&& 31)) + 1)) hx hb hr (fun t ht hW => ⟨⟨((pd >>> (kp &&& 31)) + 1), (), rfl, ((if_neg (fun h => h.elim c20 (fun h => absurd c26 (Int32.not_le.mpr h)))).trans (if_pos (by first | exact Or.inl c34 | exact Or.inr (Int32.not_le.mp c40)))).symm, trivial⟩, hS.F ht⟩) hS.2.2 dX3_rounded_47
    · refine lv_iload hx hb dX3_rounded_29 (lv_at hl 1 rfl) ?_
      subst hQ
      exact W.iret (v := (pd >>> (kp &&& 31))) hx hb hr (fun t ht hW => ⟨⟨(pd >>> (kp &&& 31)), (), rfl, (if_pos (by first | exact Or.inl c20 | exact Or.inr (Int32.not_le.mp c26))).symm, trivial⟩, hS.F ht⟩) hS.2.2 dX3_rounded_31
theorem in_X3_fraction_X3 : ∀ w ∈ wsX30, w ∈ wsX3_fraction := by decide +kernel
abbrev rm_X3_fraction : Room := { frames := 8, cells := 5, slots := 30, locals := 125 }
set_option maxRecDepth 100000 in
set_option maxHeartbeats 4000000 in
theorem c_X3_fraction (l : Launch) (hflags : l.stackTraces = false) (g : GT) (x0 : Nat) (h0 : Nat) (p0 : Nat) (r0 : Nat) (a0 : Nat) (a1 : Nat) (a2 : Nat) (a3 : Nat) (w : Nat) (ac : Int64) (fc : Nat → Int32) (fs : Nat → Int32) (fr : Nat → Int32) (av : Int32) (bv : Int32) (mt : Int32) (kp : Int32) (wy : Int32) (hw8 : w ≤ 8) : cXi 5 30 l g yX3_fraction wsX3_fraction rm_X3_fraction [.ref x0, .int av, .int bv, .int mt, .int kp, .int wy] [(x0, .inr (3, [.ref a0, .ref h0, .ref p0, .ref r0])), (a0, .inr (2, [.int (nI w), .long ac, .ref a1, .ref a2, .ref a3])), (a1, .inl (g.2.1 0, 3, .inl fc)), (a2, .inl (g.2.1 0, 511, .inl fs)), (a3, .inl (g.2.1 0, 8, .inl fr))] (fun r => (okR 0 (nI (gr w)) av ∧ okR 0 (nI (gr w)) bv ∧ okR 0 2 mt ∧ okR 0 16 kp ∧ okR 0 2 wy) ∧ r = roF (prF fs (tn av) (tn bv) mt) kp wy) (fun E => E = xIAE ∧ ¬ (okR 0 (nI (gr w)) av ∧ okR 0 (nI (gr w)) bv ∧ okR 0 2 mt ∧ okR 0 16 kp ∧ okR 0 2 wy)) := by
  refine enX (y := yX3_fraction) (ws := wsX3_fraction) (av := [.ref x0, .int av, .int bv, .int mt, .int kp, .int wy]) (cc := cX3_fraction) (maxL := 6) (ret := (some .int)) (by decide) rfl (Nat.le_of_ble_eq_true rfl) rfl ?_
  intro p e s m below meth c ls hx hb hr hml hown hts hlocks hE hP hD hZ hT hl
  have hK := hE.1
  have hS : va_S noA s.heap s.heap [] := va_S.rf
  generalize hQ : vx_MQ below _ _ _ s _ _ _ = Q9
  have hl : lv_has ls 6 [(0, .ref x0), (1, .int av), (2, .int bv), (3, .int mt), (4, .int kp), (5, .int wy)] := hl
  have hgr := gr_le w hw8
  have hen := ents_le w hw8
  refine lv_aload_n hx hb dX3_fraction_0 rfl (lv_at hl 0 rfl) ?_
  refine lv_iload_n hx hb dX3_fraction_1 rfl (lv_at hl 1 rfl) ?_
  subst hQ
  refine kXv (vx_runV (As := [.int av]) (rest := []) ⟨hx, hb, hml, hown, hts⟩ (c_X3_demandOperand l hflags g x0 h0 p0 r0 a0 a1 a2 a3 w ac fc fs fr av (by first | assumption | omega | exact Nat.le_of_ble_eq_true rfl)) (cwV 1 hts gX3_fraction_X3_demandOperand rfl rfl rfl (by decide +kernel) ⟨(Nat.le_of_ble_eq_true rfl), (Nat.le_of_ble_eq_true rfl)⟩) (preVx (RX3, TX3, 4) hE hZ hS hP hD [0, 1, 2, 3, 4] (by decide) rfl rfl) rfl rfl hl.1 rfl (lv_room (Nat.le_of_ble_eq_true rfl)) dX3_fraction_2 ⟨(Nat.le_of_ble_eq_true rfl), (Nat.le_of_ble_eq_true rfl)⟩) hP hS hT hlocks (Nat.le_of_ble_eq_true rfl) (Nat.le_of_ble_eq_true rfl) (fun E hE9 => by exact ⟨hE9.1, fun h9 => hE9.2 (by first | exact h9 | exact h9.1 | exact h9.2 | exact h9.2.1 | exact h9.2.2 | exact h9.2.2.1 | exact h9.2.2.2 | exact h9.2.2.2.1 | exact h9.2.2.2.2)⟩) (fun H locs x2 hP hS => ?_)
  generalize hQ : vx_MQ below _ _ _ s _ _ _ = Q9
  have x2 : okR 0 (nI (gr w)) av := x2
  refine W.widen (k := 1) (n := 6) (Nat.le_of_ble_eq_true rfl) (Nat.le_of_ble_eq_true rfl) ?_
  have y_av := x2
  obtain ⟨ka, hka, rfl⟩ := op_of hw8 y_av
  refine lv_aload_n hx hb dX3_fraction_5 rfl (lv_at hl 0 rfl) ?_
  refine lv_iload_n hx hb dX3_fraction_6 rfl (lv_at hl 2 rfl) ?_
  subst hQ
  refine kXv (vx_runV (As := [.int bv]) (rest := []) ⟨hx, hb, hml, hown, hts⟩ (c_X3_demandOperand l hflags g x0 h0 p0 r0 a0 a1 a2 a3 w ac fc fs fr bv (by first | assumption | omega | exact Nat.le_of_ble_eq_true rfl)) (cwV 1 hts gX3_fraction_X3_demandOperand rfl rfl rfl (by decide +kernel) ⟨(Nat.le_of_ble_eq_true rfl), (Nat.le_of_ble_eq_true rfl)⟩) (preVx (RX3, TX3, 4) hE hZ hS hP hD [0, 1, 2, 3, 4] (by decide) rfl rfl) rfl rfl hl.1 rfl (lv_room (Nat.le_of_ble_eq_true rfl)) dX3_fraction_7 ⟨(Nat.le_of_ble_eq_true rfl), (Nat.le_of_ble_eq_true rfl)⟩) hP hS hT hlocks (Nat.le_of_ble_eq_true rfl) (Nat.le_of_ble_eq_true rfl) (fun E hE9 => by exact ⟨hE9.1, fun h9 => hE9.2 (by first | exact h9 | exact h9.1 | exact h9.2 | exact h9.2.1 | exact h9.2.2 | exact h9.2.2.1 | exact h9.2.2.2 | exact h9.2.2.2.1 | exact h9.2.2.2.2)⟩) (fun H locs x7 hP hS => ?_)
  generalize hQ : vx_MQ below _ _ _ s _ _ _ = Q9
  have x7 : okR 0 (nI (gr w)) bv := x7
  refine W.widen (k := 2) (n := 12) (Nat.le_of_ble_eq_true rfl) (Nat.le_of_ble_eq_true rfl) ?_
  have y_bv := x7
  obtain ⟨kb, hkb, rfl⟩ := op_of hw8 y_bv
  refine lv_iload_n hx hb dX3_fraction_10 rfl (lv_at hl 3 rfl) ?_
  subst hQ
  refine kXv (vx_runS (As := [.int mt]) (rest := []) ⟨hx, hb, hml, hown, hts⟩ (c_X3_demandMethod l hflags g mt) (va_cwS 1 hts gX3_fraction_X3_demandMethod rfl rfl rfl (by decide +kernel) ⟨(Nat.le_of_ble_eq_true rfl), (Nat.le_of_ble_eq_true rfl)⟩) (preSx hE hZ hS hP hD [] (by decide) rfl) rfl rfl hl.1 rfl (lv_room (Nat.le_of_ble_eq_true rfl)) dX3_fraction_11 ⟨(Nat.le_of_ble_eq_true rfl), (Nat.le_of_ble_eq_true rfl)⟩) hP hS hT hlocks (Nat.le_of_ble_eq_true rfl) (Nat.le_of_ble_eq_true rfl) (fun E hE9 => by exact ⟨hE9.1, fun h9 => hE9.2 (by first | exact h9 | exact h9.1 | exact h9.2 | exact h9.2.1 | exact h9.2.2 | exact h9.2.2.1 | exact h9.2.2.2 | exact h9.2.2.2.1 | exact h9.2.2.2.2)⟩) (fun H locs x11 hP hS => ?_)
  generalize hQ : vx_MQ below _ _ _ s _ _ _ = Q9
  have x11 : okR 0 2 mt := x11
  refine W.widen (k := 3) (n := 18) (Nat.le_of_ble_eq_true rfl) (Nat.le_of_ble_eq_true rfl) ?_
  have y_mt := x11
  refine lv_iload hx hb dX3_fraction_14 (lv_at hl 4 rfl) ?_
  refine lv_iconst (v := 0) hx hb dX3_fraction_16 (by decide) ?_
  refine lv_bipush (v := 16) hx hb dX3_fraction_17 (by decide) ?_
  subst hQ
  refine kXv (vx_runS (As := [.int kp, .int 0, .int 16]) (rest := []) ⟨hx, hb, hml, hown, hts⟩ (c_X3_demandRange l hflags g kp 0 16) (va_cwS 3 hts gX3_fraction_X3_demandRange rfl rfl rfl (by decide +kernel) ⟨(Nat.le_of_ble_eq_true rfl), (Nat.le_of_ble_eq_true rfl)⟩) (preSx hE hZ hS hP hD [] (by decide) rfl) rfl rfl hl.1 rfl (lv_room (Nat.le_of_ble_eq_true rfl)) dX3_fraction_19 ⟨(Nat.le_of_ble_eq_true rfl), (Nat.le_of_ble_eq_true rfl)⟩) hP hS hT hlocks (Nat.le_of_ble_eq_true rfl) (Nat.le_of_ble_eq_true rfl) (fun E hE9 => by exact ⟨hE9.1, fun h9 => hE9.2 (by first | exact h9 | exact h9.1 | exact h9.2 | exact h9.2.1 | exact h9.2.2 | exact h9.2.2.1 | exact h9.2.2.2 | exact h9.2.2.2.1 | exact h9.2.2.2.2)⟩) (fun H locs x19 hP hS => ?_)
  generalize hQ : vx_MQ below _ _ _ s _ _ _ = Q9
  have x19 : okR 0 16 kp := x19
  refine W.widen (k := 4) (n := 24) (Nat.le_of_ble_eq_true rfl) (Nat.le_of_ble_eq_true rfl) ?_
  have y_kp := x19
  refine lv_iload hx hb dX3_fraction_22 (lv_at hl 5 rfl) ?_
  refine lv_iconst (v := 0) hx hb dX3_fraction_24 (by decide) ?_
  refine lv_iconst (v := 2) hx hb dX3_fraction_25 (by decide) ?_
  subst hQ
  refine kXv (vx_runS (As := [.int wy, .int 0, .int 2]) (rest := []) ⟨hx, hb, hml, hown, hts⟩ (c_X3_demandRange l hflags g wy 0 2) (va_cwS 3 hts gX3_fraction_X3_demandRange rfl rfl rfl (by decide +kernel) ⟨(Nat.le_of_ble_eq_true rfl), (Nat.le_of_ble_eq_true rfl)⟩) (preSx hE hZ hS hP hD [] (by decide) rfl) rfl rfl hl.1 rfl (lv_room (Nat.le_of_ble_eq_true rfl)) dX3_fraction_26 ⟨(Nat.le_of_ble_eq_true rfl), (Nat.le_of_ble_eq_true rfl)⟩) hP hS hT hlocks (Nat.le_of_ble_eq_true rfl) (Nat.le_of_ble_eq_true rfl) (fun E hE9 => by exact ⟨hE9.1, fun h9 => hE9.2 (by first | exact h9 | exact h9.1 | exact h9.2 | exact h9.2.1 | exact h9.2.2 | exact h9.2.2.1 | exact h9.2.2.2 | exact h9.2.2.2.1 | exact h9.2.2.2.2)⟩) (fun H locs x26 hP hS => ?_)
  generalize hQ : vx_MQ below _ _ _ s _ _ _ = Q9
  have x26 : okR 0 2 wy := x26
  refine W.widen (k := 5) (n := 30) (Nat.le_of_ble_eq_true rfl) (Nat.le_of_ble_eq_true rfl) ?_
  have y_wy := x26
  refine lv_aload_n hx hb dX3_fraction_29 rfl (lv_at hl 0 rfl) ?_
  refine va_get (D := g.1) (ci := 3) (v := .ref a0) (C := RX3) (T := TX3) (N := 4) hx hb hts in_X3_fraction_X3 hown hK hP 0 rfl rfl 0 (by decide) (hts _ (List.mem_of_getElem? (i := 1) rfl)) (fun _ h9 => h9) rfl dX3_fraction_30 ?_
  refine lv_iload_n hx hb dX3_fraction_33 rfl (lv_at hl 1 rfl) ?_
  refine lv_iload_n hx hb dX3_fraction_34 rfl (lv_at hl 2 rfl) ?_
  refine lv_iload_n hx hb dX3_fraction_35 rfl (lv_at hl 3 rfl) ?_
  refine kRi (va_runV (As := [.int (nI ka), .int (nI kb), .int mt]) (rest := []) ⟨hx, hb, hml, hown, hts⟩ (c_X2_product l g a0 a1 a2 a3 w ac fc fs fr ka kb mt (by first | assumption | omega | exact Nat.le_of_ble_eq_true rfl) (by first | assumption | omega | exact Nat.le_of_ble_eq_true rfl)) (cwV 3 hts gX3_fraction_X2_product rfl rfl rfl (by decide +kernel) ⟨(Nat.le_of_ble_eq_true rfl), (Nat.le_of_ble_eq_true rfl)⟩) (preV (RX2, TX2, 5) hE hP [1, 2, 3, 4] rfl rfl) rfl rfl hl.1 rfl (lv_room (Nat.le_of_ble_eq_true rfl)) dX3_fraction_36 ⟨(Nat.le_of_ble_eq_true rfl), (Nat.le_of_ble_eq_true rfl)⟩) hP hS (fun r9 H locs hr9 hP hS => ?_)
  subst hr9
  refine lv_iload hx hb dX3_fraction_39 (lv_at hl 4 rfl) ?_
  refine lv_iload hx hb dX3_fraction_41 (lv_at hl 5 rfl) ?_
  refine kRi (va_runS (As := [.int (prF fs ka kb mt), .int kp, .int wy]) (rest := []) ⟨hx, hb, hml, hown, hts⟩ (c_X3_rounded l g (prF fs ka kb mt) kp wy) (va_cwS 3 hts gX3_fraction_X3_rounded rfl rfl rfl (by decide +kernel) ⟨(Nat.le_of_ble_eq_true rfl), (Nat.le_of_ble_eq_true rfl)⟩) (preS hE hP [] rfl) rfl rfl hl.1 rfl (lv_room (Nat.le_of_ble_eq_true rfl)) dX3_fraction_43 ⟨(Nat.le_of_ble_eq_true rfl), (Nat.le_of_ble_eq_true rfl)⟩) hP hS (fun r9 H locs hr9 hP hS => ?_)
  subst hr9
  subst hQ
  refine vx_ret ?_
  refine W.widen (k := 5) (n := 30) (Nat.le_of_ble_eq_true rfl) (Nat.le_of_ble_eq_true rfl) ?_
  exact W.iret (v := (roF (prF fs ka kb mt) kp wy)) hx hb hr (fun t ht hW => ⟨⟨(roF (prF fs ka kb mt) kp wy), (), rfl, ⟨⟨y_av, y_bv, y_mt, y_kp, y_wy⟩, by rw [tn_nI (n := ka) (by omega), tn_nI (n := kb) (by omega)]⟩, trivial⟩, hS.F ht⟩) hS.2.2 dX3_fraction_46
theorem in_X3_error_X3 : ∀ w ∈ wsX30, w ∈ wsX3_error := by decide +kernel
abbrev rm_X3_error : Room := { frames := 8, cells := 4, slots := 24, locals := 125 }
set_option maxRecDepth 100000 in
set_option maxHeartbeats 4000000 in
theorem c_X3_error (l : Launch) (hflags : l.stackTraces = false) (g : GT) (x0 : Nat) (h0 : Nat) (p0 : Nat) (r0 : Nat) (a0 : Nat) (a1 : Nat) (a2 : Nat) (a3 : Nat) (w : Nat) (ac : Int64) (fc : Nat → Int32) (fs : Nat → Int32) (fr : Nat → Int32) (av : Int32) (bv : Int32) (kp : Int32) (wy : Int32) (hw8 : w ≤ 8) : cXd 4 24 l g yX3_error wsX3_error rm_X3_error [.ref x0, .int av, .int bv, .int kp, .int wy] [(x0, .inr (3, [.ref a0, .ref h0, .ref p0, .ref r0])), (a0, .inr (2, [.int (nI w), .long ac, .ref a1, .ref a2, .ref a3])), (a1, .inl (g.2.1 0, 3, .inl fc)), (a2, .inl (g.2.1 0, 511, .inl fs)), (a3, .inl (g.2.1 0, 8, .inl fr))] (fun r => (okR 0 (nI (gr w)) av ∧ okR 0 (nI (gr w)) bv ∧ okR 0 16 kp ∧ okR 0 2 wy) ∧ r = erF (tn av) (tn bv) kp wy) (fun E => E = xIAE ∧ ¬ (okR 0 (nI (gr w)) av ∧ okR 0 (nI (gr w)) bv ∧ okR 0 16 kp ∧ okR 0 2 wy)) := by
  refine enX (y := yX3_error) (ws := wsX3_error) (av := [.ref x0, .int av, .int bv, .int kp, .int wy]) (cc := cX3_error) (maxL := 8) (ret := (some .double)) (by decide) rfl (Nat.le_of_ble_eq_true rfl) rfl ?_
  intro p e s m below meth c ls hx hb hr hml hown hts hlocks hE hP hD hZ hT hl
  have hK := hE.1
  have hS : va_S noA s.heap s.heap [] := va_S.rf
  generalize hQ : vx_MQ below _ _ _ s _ _ _ = Q9
  have hl : lv_has ls 8 [(0, .ref x0), (1, .int av), (2, .int bv), (3, .int kp), (4, .int wy)] := hl
  have hgr := gr_le w hw8
  have hen := ents_le w hw8
  refine lv_aload_n hx hb dX3_error_0 rfl (lv_at hl 0 rfl) ?_
  refine lv_iload_n hx hb dX3_error_1 rfl (lv_at hl 1 rfl) ?_
  subst hQ
  refine kXv (vx_runV (As := [.int av]) (rest := []) ⟨hx, hb, hml, hown, hts⟩ (c_X3_demandOperand l hflags g x0 h0 p0 r0 a0 a1 a2 a3 w ac fc fs fr av (by first | assumption | omega | exact Nat.le_of_ble_eq_true rfl)) (cwV 1 hts gX3_error_X3_demandOperand rfl rfl rfl (by decide +kernel) ⟨(Nat.le_of_ble_eq_true rfl), (Nat.le_of_ble_eq_true rfl)⟩) (preVx (RX3, TX3, 4) hE hZ hS hP hD [0, 1, 2, 3, 4] (by decide) rfl rfl) rfl rfl hl.1 rfl (lv_room (Nat.le_of_ble_eq_true rfl)) dX3_error_2 ⟨(Nat.le_of_ble_eq_true rfl), (Nat.le_of_ble_eq_true rfl)⟩) hP hS hT hlocks (Nat.le_of_ble_eq_true rfl) (Nat.le_of_ble_eq_true rfl) (fun E hE9 => by exact ⟨hE9.1, fun h9 => hE9.2 (by first | exact h9 | exact h9.1 | exact h9.2 | exact h9.2.1 | exact h9.2.2 | exact h9.2.2.1 | exact h9.2.2.2 | exact h9.2.2.2.1 | exact h9.2.2.2.2)⟩) (fun H locs x2 hP hS => ?_)
  generalize hQ : vx_MQ below _ _ _ s _ _ _ = Q9
  have x2 : okR 0 (nI (gr w)) av := x2
  refine W.widen (k := 1) (n := 6) (Nat.le_of_ble_eq_true rfl) (Nat.le_of_ble_eq_true rfl) ?_
  have y_av := x2
  obtain ⟨ka, hka, rfl⟩ := op_of hw8 y_av
  refine lv_aload_n hx hb dX3_error_5 rfl (lv_at hl 0 rfl) ?_
  refine lv_iload_n hx hb dX3_error_6 rfl (lv_at hl 2 rfl) ?_
  subst hQ
  refine kXv (vx_runV (As := [.int bv]) (rest := []) ⟨hx, hb, hml, hown, hts⟩ (c_X3_demandOperand l hflags g x0 h0 p0 r0 a0 a1 a2 a3 w ac fc fs fr bv (by first | assumption | omega | exact Nat.le_of_ble_eq_true rfl)) (cwV 1 hts gX3_error_X3_demandOperand rfl rfl rfl (by decide +kernel) ⟨(Nat.le_of_ble_eq_true rfl), (Nat.le_of_ble_eq_true rfl)⟩) (preVx (RX3, TX3, 4) hE hZ hS hP hD [0, 1, 2, 3, 4] (by decide) rfl rfl) rfl rfl hl.1 rfl (lv_room (Nat.le_of_ble_eq_true rfl)) dX3_error_7 ⟨(Nat.le_of_ble_eq_true rfl), (Nat.le_of_ble_eq_true rfl)⟩) hP hS hT hlocks (Nat.le_of_ble_eq_true rfl) (Nat.le_of_ble_eq_true rfl) (fun E hE9 => by exact ⟨hE9.1, fun h9 => hE9.2 (by first | exact h9 | exact h9.1 | exact h9.2 | exact h9.2.1 | exact h9.2.2 | exact h9.2.2.1 | exact h9.2.2.2 | exact h9.2.2.2.1 | exact h9.2.2.2.2)⟩) (fun H locs x7 hP hS => ?_)
  generalize hQ : vx_MQ below _ _ _ s _ _ _ = Q9
  have x7 : okR 0 (nI (gr w)) bv := x7
  refine W.widen (k := 2) (n := 12) (Nat.le_of_ble_eq_true rfl) (Nat.le_of_ble_eq_true rfl) ?_
  have y_bv := x7
  obtain ⟨kb, hkb, rfl⟩ := op_of hw8 y_bv
  refine lv_iload_n hx hb dX3_error_10 rfl (lv_at hl 3 rfl) ?_
  refine lv_iconst (v := 0) hx hb dX3_error_11 (by decide) ?_
  refine lv_bipush (v := 16) hx hb dX3_error_12 (by decide) ?_
  subst hQ
  refine kXv (vx_runS (As := [.int kp, .int 0, .int 16]) (rest := []) ⟨hx, hb, hml, hown, hts⟩ (c_X3_demandRange l hflags g kp 0 16) (va_cwS 3 hts gX3_error_X3_demandRange rfl rfl rfl (by decide +kernel) ⟨(Nat.le_of_ble_eq_true rfl), (Nat.le_of_ble_eq_true rfl)⟩) (preSx hE hZ hS hP hD [] (by decide) rfl) rfl rfl hl.1 rfl (lv_room (Nat.le_of_ble_eq_true rfl)) dX3_error_14 ⟨(Nat.le_of_ble_eq_true rfl), (Nat.le_of_ble_eq_true rfl)⟩) hP hS hT hlocks (Nat.le_of_ble_eq_true rfl) (Nat.le_of_ble_eq_true rfl) (fun E hE9 => by exact ⟨hE9.1, fun h9 => hE9.2 (by first | exact h9 | exact h9.1 | exact h9.2 | exact h9.2.1 | exact h9.2.2 | exact h9.2.2.1 | exact h9.2.2.2 | exact h9.2.2.2.1 | exact h9.2.2.2.2)⟩) (fun H locs x14 hP hS => ?_)
  generalize hQ : vx_MQ below _ _ _ s _ _ _ = Q9
  have x14 : okR 0 16 kp := x14
  refine W.widen (k := 3) (n := 18) (Nat.le_of_ble_eq_true rfl) (Nat.le_of_ble_eq_true rfl) ?_
  have y_kp := x14
  refine lv_iload hx hb dX3_error_17 (lv_at hl 4 rfl) ?_
  refine lv_iconst (v := 0) hx hb dX3_error_19 (by decide) ?_
  refine lv_iconst (v := 2) hx hb dX3_error_20 (by decide) ?_
  subst hQ
  refine kXv (vx_runS (As := [.int wy, .int 0, .int 2]) (rest := []) ⟨hx, hb, hml, hown, hts⟩ (c_X3_demandRange l hflags g wy 0 2) (va_cwS 3 hts gX3_error_X3_demandRange rfl rfl rfl (by decide +kernel) ⟨(Nat.le_of_ble_eq_true rfl), (Nat.le_of_ble_eq_true rfl)⟩) (preSx hE hZ hS hP hD [] (by decide) rfl) rfl rfl hl.1 rfl (lv_room (Nat.le_of_ble_eq_true rfl)) dX3_error_21 ⟨(Nat.le_of_ble_eq_true rfl), (Nat.le_of_ble_eq_true rfl)⟩) hP hS hT hlocks (Nat.le_of_ble_eq_true rfl) (Nat.le_of_ble_eq_true rfl) (fun E hE9 => by exact ⟨hE9.1, fun h9 => hE9.2 (by first | exact h9 | exact h9.1 | exact h9.2 | exact h9.2.1 | exact h9.2.2 | exact h9.2.2.1 | exact h9.2.2.2 | exact h9.2.2.2.1 | exact h9.2.2.2.2)⟩) (fun H locs x21 hP hS => ?_)
  generalize hQ : vx_MQ below _ _ _ s _ _ _ = Q9
  have x21 : okR 0 2 wy := x21
  refine W.widen (k := 4) (n := 24) (Nat.le_of_ble_eq_true rfl) (Nat.le_of_ble_eq_true rfl) ?_
  have y_wy := x21
  refine lv_aload_n hx hb dX3_error_24 rfl (lv_at hl 0 rfl) ?_
  refine va_get (D := g.1) (ci := 3) (v := .ref a0) (C := RX3) (T := TX3) (N := 4) hx hb hts in_X3_error_X3 hown hK hP 0 rfl rfl 0 (by decide) (hts _ (List.mem_of_getElem? (i := 1) rfl)) (fun _ h9 => h9) rfl dX3_error_25 ?_
  refine lv_iload_n hx hb dX3_error_28 rfl (lv_at hl 1 rfl) ?_
  refine lv_iload_n hx hb dX3_error_29 rfl (lv_at hl 2 rfl) ?_
  refine lv_iconst (v := 1) hx hb dX3_error_30 (by decide) ?_
  refine kRi (va_runV (As := [.int (nI ka), .int (nI kb), .int 1]) (rest := []) ⟨hx, hb, hml, hown, hts⟩ (c_X2_product l g a0 a1 a2 a3 w ac fc fs fr ka kb 1 (by first | assumption | omega | exact Nat.le_of_ble_eq_true rfl) (by first | assumption | omega | exact Nat.le_of_ble_eq_true rfl)) (cwV 3 hts gX3_error_X2_product rfl rfl rfl (by decide +kernel) ⟨(Nat.le_of_ble_eq_true rfl), (Nat.le_of_ble_eq_true rfl)⟩) (preV (RX2, TX2, 5) hE hP [1, 2, 3, 4] rfl rfl) rfl rfl hl.1 rfl (lv_room (Nat.le_of_ble_eq_true rfl)) dX3_error_31 ⟨(Nat.le_of_ble_eq_true rfl), (Nat.le_of_ble_eq_true rfl)⟩) hP hS (fun r9 H locs hr9 hP hS => ?_)
  subst hr9
  refine lv_tope (y := (nI (ka * kb))) rfl ?_
  refine lv_istore (lv' := [(5, .int (nI (ka * kb))), (0, .ref x0), (1, .int (nI ka)), (2, .int (nI kb)), (3, .int kp), (4, .int wy)]) hx hb dX3_error_34 hl (by decide) rfl (fun ls hl => ?_)
  refine lv_iload_n hx hb dX3_error_36 rfl (lv_at hl 2 rfl) ?_
  refine lv_iload_n hx hb dX3_error_37 rfl (lv_at hl 3 rfl) ?_
  refine lv_imul hx hb dX3_error_38 ?_
  refine lv_tope (y := (nI (ka * kb))) (show ((nI ka) * (nI kb) : Int32) = nI (ka * kb) from pk_mul (ka) (kb)) ?_
  refine lv_i2d hx hb dX3_error_39 ?_
  refine lv_iconst (v := 1) hx hb dX3_error_40 (by decide) ?_
  refine lv_iload_n hx hb dX3_error_41 rfl (lv_at hl 4 rfl) ?_
  refine lv_ishl hx hb dX3_error_42 ?_
  refine lv_i2d hx hb dX3_error_43 ?_
  refine lv_ddiv hx hb dX3_error_44 (er_nan1 y_kp) ?_
  refine lv_dstore (lv' := [(6, .double (FP.ddiv (FP.i2d (nI (ka * kb))) (FP.i2d ((1 : Int32) <<< (kp &&& 31))))), (5, .int (nI (ka * kb))), (0, .ref x0), (1, .int (nI ka)), (2, .int (nI kb)), (3, .int kp), (4, .int wy)]) hx hb dX3_error_45 hl (by decide) rfl (fun ls hl => ?_)
  refine lv_iload hx hb dX3_error_47 (lv_at hl 1 rfl) ?_
  refine lv_iload_n hx hb dX3_error_49 rfl (lv_at hl 5 rfl) ?_
  refine lv_iload hx hb dX3_error_50 (lv_at hl 6 rfl) ?_
  refine kRi (va_runS (As := [.int (nI (ka * kb)), .int kp, .int wy]) (rest := []) ⟨hx, hb, hml, hown, hts⟩ (c_X3_rounded l g (nI (ka * kb)) kp wy) (va_cwS 3 hts gX3_error_X3_rounded rfl rfl rfl (by decide +kernel) ⟨(Nat.le_of_ble_eq_true rfl), (Nat.le_of_ble_eq_true rfl)⟩) (preS hE hP [] rfl) rfl rfl hl.1 rfl (lv_room (Nat.le_of_ble_eq_true rfl)) dX3_error_52 ⟨(Nat.le_of_ble_eq_true rfl), (Nat.le_of_ble_eq_true rfl)⟩) hP hS (fun r9 H locs hr9 hP hS => ?_)
  subst hr9
  refine lv_i2d hx hb dX3_error_55 ?_
  refine lv_dload hx hb dX3_error_56 (lv_at hl 0 rfl) ?_
  refine lv_dsub hx hb dX3_error_58 (er_nan2 y_kp) ?_
  subst hQ
  refine vx_ret ?_
  refine W.widen (k := 4) (n := 24) (Nat.le_of_ble_eq_true rfl) (Nat.le_of_ble_eq_true rfl) ?_
  exact W.dret (v := (FP.dsub (FP.i2d (roF (nI (ka * kb)) kp wy)) (FP.ddiv (FP.i2d (nI (ka * kb))) (FP.i2d ((1 : Int32) <<< (kp &&& 31)))))) hx hb hr (fun t ht hW => ⟨⟨(FP.dsub (FP.i2d (roF (nI (ka * kb)) kp wy)) (FP.ddiv (FP.i2d (nI (ka * kb))) (FP.i2d ((1 : Int32) <<< (kp &&& 31))))), (), rfl, ⟨⟨y_av, y_bv, y_kp, y_wy⟩, by rw [tn_nI (n := ka) (by omega), tn_nI (n := kb) (by omega)]; rfl⟩, trivial⟩, hS.F ht⟩) hS.2.2 dX3_error_59
theorem in_X3_entry_X2 : ∀ w ∈ wsX20, w ∈ wsX3_entry := by decide +kernel
theorem in_X3_entry_X3 : ∀ w ∈ wsX30, w ∈ wsX3_entry := by decide +kernel
abbrev rm_X3_entry : Room := { frames := 7, cells := 2, slots := 12, locals := 104 }
set_option maxRecDepth 100000 in
set_option maxHeartbeats 4000000 in
theorem c_X3_entry (l : Launch) (hflags : l.stackTraces = false) (g : GT) (x0 : Nat) (h0 : Nat) (p0 : Nat) (r0 : Nat) (a0 : Nat) (a1 : Nat) (a2 : Nat) (a3 : Nat) (w : Nat) (ac : Int64) (fc : Nat → Int32) (fs : Nat → Int32) (fr : Nat → Int32) (ev : Int32) (wh : Int32) (hw8 : w ≤ 8) : cXi 2 12 l g yX3_entry wsX3_entry rm_X3_entry [.ref x0, .int ev, .int wh] [(x0, .inr (3, [.ref a0, .ref h0, .ref p0, .ref r0])), (a0, .inr (2, [.int (nI w), .long ac, .ref a1, .ref a2, .ref a3])), (a1, .inl (g.2.1 0, 3, .inl fc)), (a2, .inl (g.2.1 0, 511, .inl fs)), (a3, .inl (g.2.1 0, 8, .inl fr))] (fun r => (okE w ev ∧ okR 0 4 wh) ∧ r = enF fs (tn ev) (tn wh)) (fun E => (E = xIOB ∧ ¬ okE w ev) ∨ (E = xIAE ∧ okE w ev ∧ ¬ okR 0 4 wh)) := by
  refine enX (y := yX3_entry) (ws := wsX3_entry) (av := [.ref x0, .int ev, .int wh]) (cc := cX3_entry) (maxL := 3) (ret := (some .int)) (by decide) rfl (Nat.le_of_ble_eq_true rfl) rfl ?_
  intro p e s m below meth c ls hx hb hr hml hown hts hlocks hE hP hD hZ hT hl
  have hK := hE.1
  have hS : va_S noA s.heap s.heap [] := va_S.rf
  generalize hQ : vx_MQ below _ _ _ s _ _ _ = Q9
  have hl : lv_has ls 3 [(0, .ref x0), (1, .int ev), (2, .int wh)] := hl
  have hgr := gr_le w hw8
  have hen := ents_le w hw8
  refine lv_aload_n hx hb dX3_entry_0 rfl (lv_at hl 0 rfl) ?_
  refine lv_iload_n hx hb dX3_entry_1 rfl (lv_at hl 1 rfl) ?_
  subst hQ
  refine kXv (vx_runV (As := [.int ev]) (rest := []) ⟨hx, hb, hml, hown, hts⟩ (c_X3_demandEntry l hflags g x0 h0 p0 r0 a0 a1 a2 a3 w ac fc fs fr ev (by first | assumption | omega | exact Nat.le_of_ble_eq_true rfl)) (cwV 1 hts gX3_entry_X3_demandEntry rfl rfl rfl (by decide +kernel) ⟨(Nat.le_of_ble_eq_true rfl), (Nat.le_of_ble_eq_true rfl)⟩) (preVx (RX3, TX3, 4) hE hZ hS hP hD [0, 1, 2, 3, 4] (by decide) rfl rfl) rfl rfl hl.1 rfl (lv_room (Nat.le_of_ble_eq_true rfl)) dX3_entry_2 ⟨(Nat.le_of_ble_eq_true rfl), (Nat.le_of_ble_eq_true rfl)⟩) hP hS hT hlocks (Nat.le_of_ble_eq_true rfl) (Nat.le_of_ble_eq_true rfl) (fun E hE9 => Or.inl hE9) (fun H locs x2 hP hS => ?_)
  generalize hQ : vx_MQ below _ _ _ s _ _ _ = Q9
  have x2 : okE w ev := x2
  refine W.widen (k := 1) (n := 6) (Nat.le_of_ble_eq_true rfl) (Nat.le_of_ble_eq_true rfl) ?_
  have y_ev := x2
  obtain ⟨ke, hke, rfl⟩ := en_of hw8 y_ev
  refine lv_iload_n hx hb dX3_entry_5 rfl (lv_at hl 2 rfl) ?_
  refine lv_iconst (v := 0) hx hb dX3_entry_6 (by decide) ?_
  refine lv_iconst (v := 4) hx hb dX3_entry_7 (by decide) ?_
  subst hQ
  refine kXv (vx_runS (As := [.int wh, .int 0, .int 4]) (rest := []) ⟨hx, hb, hml, hown, hts⟩ (c_X3_demandRange l hflags g wh 0 4) (va_cwS 3 hts gX3_entry_X3_demandRange rfl rfl rfl (by decide +kernel) ⟨(Nat.le_of_ble_eq_true rfl), (Nat.le_of_ble_eq_true rfl)⟩) (preSx hE hZ hS hP hD [] (by decide) rfl) rfl rfl hl.1 rfl (lv_room (Nat.le_of_ble_eq_true rfl)) dX3_entry_8 ⟨(Nat.le_of_ble_eq_true rfl), (Nat.le_of_ble_eq_true rfl)⟩) hP hS hT hlocks (Nat.le_of_ble_eq_true rfl) (Nat.le_of_ble_eq_true rfl) (fun E hE9 => Or.inr ⟨hE9.1, y_ev, hE9.2⟩) (fun H locs x8 hP hS => ?_)
  generalize hQ : vx_MQ below _ _ _ s _ _ _ = Q9
  have x8 : okR 0 4 wh := x8
  refine W.widen (k := 2) (n := 12) (Nat.le_of_ble_eq_true rfl) (Nat.le_of_ble_eq_true rfl) ?_
  have y_wh := x8
  obtain ⟨kw, hkw, rfl⟩ := rN_of (n := 4) (by omega) y_wh
  refine lv_iload_n hx hb dX3_entry_11 rfl (lv_at hl 2 rfl) ?_
  rcases (show kw = 0 ∨ kw = 1 ∨ kw = 2 ∨ kw = 3 ∨ kw = 4 by omega) with rfl | rfl | rfl | rfl | rfl
  · refine lv_tope (y := 0) rfl ?_
    refine lv_tableIn (tgt := 44) (off := 32) hx hb dX3_entry_12 (by decide) (by decide) rfl (by decide) ?_
    refine lv_aload_n hx hb dX3_entry_44 rfl (lv_at hl 0 rfl) ?_
    refine va_get (D := g.1) (ci := 3) (v := .ref a0) (C := RX3) (T := TX3) (N := 4) hx hb hts in_X3_entry_X3 hown hK hP 0 rfl rfl 0 (by decide) (hts _ (List.mem_of_getElem? (i := 1) rfl)) (fun _ h9 => h9) rfl dX3_entry_45 ?_
    refine va_get (D := g.1) (ci := 2) (v := .ref a2) (C := RX2) (T := TX2) (N := 5) hx hb hts in_X3_entry_X2 hown hK hP 1 rfl rfl 3 (by decide) (hts _ (List.mem_of_getElem? (i := 2) rfl)) (fun _ h9 => h9) rfl dX3_entry_48 ?_
    refine lv_iload_n hx hb dX3_entry_51 rfl (lv_at hl 1 rfl) ?_
    refine gIald (k := ke) hx hb hE hP 3 rfl (by omega) (by omega) dX3_entry_52 ?_
    subst hQ
    refine vx_ret ?_
    refine W.widen (k := 2) (n := 12) (Nat.le_of_ble_eq_true rfl) (Nat.le_of_ble_eq_true rfl) ?_
    exact W.iret (v := (fs ke)) hx hb hr (fun t ht hW => ⟨⟨(fs ke), (), rfl, ⟨⟨y_ev, y_wh⟩, by rw [tn_nI (n := ke) (by omega)]; first | rfl | exact (if_pos b75).symm | exact (if_neg b75).symm⟩, trivial⟩, hS.F ht⟩) hS.2.2 dX3_entry_53
  · refine lv_tope (y := 1) rfl ?_
    refine lv_tableIn (tgt := 54) (off := 42) hx hb dX3_entry_12 (by decide) (by decide) rfl (by decide) ?_
    refine lv_iload_n hx hb dX3_entry_54 rfl (lv_at hl 1 rfl) ?_
    refine kRi (va_runS (As := [.int (nI ke)]) (rest := []) ⟨hx, hb, hml, hown, hts⟩ (c_X3_trueValue l g ke (by first | assumption | omega | exact Nat.le_of_ble_eq_true rfl)) (va_cwS 1 hts gX3_entry_X3_trueValue rfl rfl rfl (by decide +kernel) ⟨(Nat.le_of_ble_eq_true rfl), (Nat.le_of_ble_eq_true rfl)⟩) (preS hE hP [] rfl) rfl rfl hl.1 rfl (lv_room (Nat.le_of_ble_eq_true rfl)) dX3_entry_55 ⟨(Nat.le_of_ble_eq_true rfl), (Nat.le_of_ble_eq_true rfl)⟩) hP hS (fun r9 H locs hr9 hP hS => ?_)
    subst hr9
    subst hQ
    refine vx_ret ?_
    refine W.widen (k := 2) (n := 12) (Nat.le_of_ble_eq_true rfl) (Nat.le_of_ble_eq_true rfl) ?_
    exact W.iret (v := (tv ke)) hx hb hr (fun t ht hW => ⟨⟨(tv ke), (), rfl, ⟨⟨y_ev, y_wh⟩, by rw [tn_nI (n := ke) (by omega)]; first | rfl | exact (if_pos b75).symm | exact (if_neg b75).symm⟩, trivial⟩, hS.F ht⟩) hS.2.2 dX3_entry_58
  · refine lv_tope (y := 2) rfl ?_
    refine lv_tableIn (tgt := 59) (off := 47) hx hb dX3_entry_12 (by decide) (by decide) rfl (by decide) ?_
    refine lv_iload_n hx hb dX3_entry_59 rfl (lv_at hl 1 rfl) ?_
    refine kRi (va_runS (As := [.int (nI ke)]) (rest := []) ⟨hx, hb, hml, hown, hts⟩ (c_X3_trueValue l g ke (by first | assumption | omega | exact Nat.le_of_ble_eq_true rfl)) (va_cwS 1 hts gX3_entry_X3_trueValue rfl rfl rfl (by decide +kernel) ⟨(Nat.le_of_ble_eq_true rfl), (Nat.le_of_ble_eq_true rfl)⟩) (preS hE hP [] rfl) rfl rfl hl.1 rfl (lv_room (Nat.le_of_ble_eq_true rfl)) dX3_entry_60 ⟨(Nat.le_of_ble_eq_true rfl), (Nat.le_of_ble_eq_true rfl)⟩) hP hS (fun r9 H locs hr9 hP hS => ?_)
    subst hr9
    refine kRi (va_runS (As := [.int (tv ke)]) (rest := []) ⟨hx, hb, hml, hown, hts⟩ (c_X3_parity l g (tv ke)) (va_cwS 1 hts gX3_entry_X3_parity rfl rfl rfl (by decide +kernel) ⟨(Nat.le_of_ble_eq_true rfl), (Nat.le_of_ble_eq_true rfl)⟩) (preS hE hP [] rfl) rfl rfl hl.1 rfl (lv_room (Nat.le_of_ble_eq_true rfl)) dX3_entry_63 ⟨(Nat.le_of_ble_eq_true rfl), (Nat.le_of_ble_eq_true rfl)⟩) hP hS (fun r9 H locs hr9 hP hS => ?_)
    subst hr9
    subst hQ
    refine vx_ret ?_
    refine W.widen (k := 2) (n := 12) (Nat.le_of_ble_eq_true rfl) (Nat.le_of_ble_eq_true rfl) ?_
    exact W.iret (v := (bc (tv ke) &&& 1)) hx hb hr (fun t ht hW => ⟨⟨(bc (tv ke) &&& 1), (), rfl, ⟨⟨y_ev, y_wh⟩, by rw [tn_nI (n := ke) (by omega)]; first | rfl | exact (if_pos b75).symm | exact (if_neg b75).symm⟩, trivial⟩, hS.F ht⟩) hS.2.2 dX3_entry_66
  · refine lv_tope (y := 3) rfl ?_
    refine lv_tableIn (tgt := 67) (off := 55) hx hb dX3_entry_12 (by decide) (by decide) rfl (by decide) ?_
    refine lv_aload_n hx hb dX3_entry_67 rfl (lv_at hl 0 rfl) ?_
    refine va_get (D := g.1) (ci := 3) (v := .ref a0) (C := RX3) (T := TX3) (N := 4) hx hb hts in_X3_entry_X3 hown hK hP 0 rfl rfl 0 (by decide) (hts _ (List.mem_of_getElem? (i := 1) rfl)) (fun _ h9 => h9) rfl dX3_entry_68 ?_
    refine lv_iload_n hx hb dX3_entry_71 rfl (lv_at hl 1 rfl) ?_
    refine kRi (va_runV (As := [.int (nI ke)]) (rest := []) ⟨hx, hb, hml, hown, hts⟩ (c_X2_hasStoredParity l g a0 a1 a2 a3 w ac fc fs fr ke (by first | assumption | omega | exact Nat.le_of_ble_eq_true rfl)) (cwV 1 hts gX3_entry_X2_hasStoredParity rfl rfl rfl (by decide +kernel) ⟨(Nat.le_of_ble_eq_true rfl), (Nat.le_of_ble_eq_true rfl)⟩) (preV (RX2, TX2, 5) hE hP [1, 2, 3, 4] rfl rfl) rfl rfl hl.1 rfl (lv_room (Nat.le_of_ble_eq_true rfl)) dX3_entry_72 ⟨(Nat.le_of_ble_eq_true rfl), (Nat.le_of_ble_eq_true rfl)⟩) hP hS (fun r9 H locs hr9 hP hS => ?_)
    subst hr9
    refine lv_if_eq (tgt := 82) hx hb dX3_entry_75 (by decide) (fun c75 => ?_) (fun c75 => ?_)
    · have b75 : ¬ (hsP fs ke) := bz_f c75
      refine lv_iconst (v := 0) hx hb dX3_entry_82 (by decide) ?_
      subst hQ
      refine vx_ret ?_
      refine W.widen (k := 2) (n := 12) (Nat.le_of_ble_eq_true rfl) (Nat.le_of_ble_eq_true rfl) ?_
      exact W.iret (v := 0) hx hb hr (fun t ht hW => ⟨⟨0, (), rfl, ⟨⟨y_ev, y_wh⟩, by rw [tn_nI (n := ke) (by omega)]; first | rfl | exact (if_pos b75).symm | exact (if_neg b75).symm⟩, trivial⟩, hS.F ht⟩) hS.2.2 dX3_entry_83
    · have b75 : hsP fs ke := bz_t c75
      refine lv_iconst (v := 1) hx hb dX3_entry_78 (by decide) ?_
      refine lv_goto (tgt := 83) hx hb dX3_entry_79 (by decide) ?_
      subst hQ
      refine vx_ret ?_
      refine W.widen (k := 2) (n := 12) (Nat.le_of_ble_eq_true rfl) (Nat.le_of_ble_eq_true rfl) ?_
      exact W.iret (v := 1) hx hb hr (fun t ht hW => ⟨⟨1, (), rfl, ⟨⟨y_ev, y_wh⟩, by rw [tn_nI (n := ke) (by omega)]; first | rfl | exact (if_pos b75).symm | exact (if_neg b75).symm⟩, trivial⟩, hS.F ht⟩) hS.2.2 dX3_entry_83
  · refine lv_tope (y := 4) rfl ?_
    refine lv_tableOut (tgt := 84) hx hb dX3_entry_12 (by decide) (by decide) ?_
    refine lv_aload_n hx hb dX3_entry_84 rfl (lv_at hl 0 rfl) ?_
    refine va_get (D := g.1) (ci := 3) (v := .ref a0) (C := RX3) (T := TX3) (N := 4) hx hb hts in_X3_entry_X3 hown hK hP 0 rfl rfl 0 (by decide) (hts _ (List.mem_of_getElem? (i := 1) rfl)) (fun _ h9 => h9) rfl dX3_entry_85 ?_
    refine lv_iload_n hx hb dX3_entry_88 rfl (lv_at hl 1 rfl) ?_
    refine kRi (va_runV (As := [.int (nI ke)]) (rest := []) ⟨hx, hb, hml, hown, hts⟩ (c_X2_wrongBits l g a0 a1 a2 a3 w ac fc fs fr ke (by first | assumption | omega | exact Nat.le_of_ble_eq_true rfl)) (cwV 1 hts gX3_entry_X2_wrongBits rfl rfl rfl (by decide +kernel) ⟨(Nat.le_of_ble_eq_true rfl), (Nat.le_of_ble_eq_true rfl)⟩) (preV (RX2, TX2, 5) hE hP [1, 2, 3, 4] rfl rfl) rfl rfl hl.1 rfl (lv_room (Nat.le_of_ble_eq_true rfl)) dX3_entry_89 ⟨(Nat.le_of_ble_eq_true rfl), (Nat.le_of_ble_eq_true rfl)⟩) hP hS (fun r9 H locs hr9 hP hS => ?_)
    subst hr9
    subst hQ
    refine vx_ret ?_
    refine W.widen (k := 2) (n := 12) (Nat.le_of_ble_eq_true rfl) (Nat.le_of_ble_eq_true rfl) ?_
    exact W.iret (v := (wbF fs ke)) hx hb hr (fun t ht hW => ⟨⟨(wbF fs ke), (), rfl, ⟨⟨y_ev, y_wh⟩, by rw [tn_nI (n := ke) (by omega)]; first | rfl | exact (if_pos b75).symm | exact (if_neg b75).symm⟩, trivial⟩, hS.F ht⟩) hS.2.2 dX3_entry_92
theorem in_X3_register_X2 : ∀ w ∈ wsX20, w ∈ wsX3_register := by decide +kernel
theorem in_X3_register_X3 : ∀ w ∈ wsX30, w ∈ wsX3_register := by decide +kernel
abbrev rm_X3_register : Room := { frames := 7, cells := 1, slots := 6, locals := 102 }
set_option maxRecDepth 100000 in
set_option maxHeartbeats 4000000 in
theorem c_X3_register (l : Launch) (hflags : l.stackTraces = false) (g : GT) (x0 : Nat) (h0 : Nat) (p0 : Nat) (r0 : Nat) (a0 : Nat) (a1 : Nat) (a2 : Nat) (a3 : Nat) (w : Nat) (ac : Int64) (fc : Nat → Int32) (fs : Nat → Int32) (fr : Nat → Int32) (rv_ : Int32) (hw8 : w ≤ 8) : cXi 1 6 l g yX3_register wsX3_register rm_X3_register [.ref x0, .int rv_] [(x0, .inr (3, [.ref a0, .ref h0, .ref p0, .ref r0])), (a0, .inr (2, [.int (nI w), .long ac, .ref a1, .ref a2, .ref a3])), (a1, .inl (g.2.1 0, 3, .inl fc)), (a2, .inl (g.2.1 0, 511, .inl fs)), (a3, .inl (g.2.1 0, 8, .inl fr))] (fun r => okG rv_ ∧ r = fr (tn rv_)) (fun E => E = xIOB ∧ ¬ okG rv_) := by
  refine enX (y := yX3_register) (ws := wsX3_register) (av := [.ref x0, .int rv_]) (cc := cX3_register) (maxL := 2) (ret := (some .int)) (by decide) rfl (Nat.le_of_ble_eq_true rfl) rfl ?_
  intro p e s m below meth c ls hx hb hr hml hown hts hlocks hE hP hD hZ hT hl
  have hK := hE.1
  have hS : va_S noA s.heap s.heap [] := va_S.rf
  generalize hQ : vx_MQ below _ _ _ s _ _ _ = Q9
  have hl : lv_has ls 2 [(0, .ref x0), (1, .int rv_)] := hl
  refine lv_iload_n hx hb dX3_register_0 rfl (lv_at hl 1 rfl) ?_
  subst hQ
  refine kXv (vx_runS (As := [.int rv_]) (rest := []) ⟨hx, hb, hml, hown, hts⟩ (c_X3_demandRegister l hflags g rv_) (va_cwS 1 hts gX3_register_X3_demandRegister rfl rfl rfl (by decide +kernel) ⟨(Nat.le_of_ble_eq_true rfl), (Nat.le_of_ble_eq_true rfl)⟩) (preSx hE hZ hS hP hD [] (by decide) rfl) rfl rfl hl.1 rfl (lv_room (Nat.le_of_ble_eq_true rfl)) dX3_register_1 ⟨(Nat.le_of_ble_eq_true rfl), (Nat.le_of_ble_eq_true rfl)⟩) hP hS hT hlocks (Nat.le_of_ble_eq_true rfl) (Nat.le_of_ble_eq_true rfl) (fun E hE9 => hE9) (fun H locs x1 hP hS => ?_)
  generalize hQ : vx_MQ below _ _ _ s _ _ _ = Q9
  have x1 : okG rv_ := x1
  refine W.widen (k := 1) (n := 6) (Nat.le_of_ble_eq_true rfl) (Nat.le_of_ble_eq_true rfl) ?_
  have y_r := x1
  obtain ⟨kr, hkr, rfl⟩ := rg_of y_r
  refine lv_aload_n hx hb dX3_register_4 rfl (lv_at hl 0 rfl) ?_
  refine va_get (D := g.1) (ci := 3) (v := .ref a0) (C := RX3) (T := TX3) (N := 4) hx hb hts in_X3_register_X3 hown hK hP 0 rfl rfl 0 (by decide) (hts _ (List.mem_of_getElem? (i := 1) rfl)) (fun _ h9 => h9) rfl dX3_register_5 ?_
  refine va_get (D := g.1) (ci := 2) (v := .ref a3) (C := RX2) (T := TX2) (N := 5) hx hb hts in_X3_register_X2 hown hK hP 1 rfl rfl 4 (by decide) (hts _ (List.mem_of_getElem? (i := 2) rfl)) (fun _ h9 => h9) rfl dX3_register_8 ?_
  refine lv_iload_n hx hb dX3_register_11 rfl (lv_at hl 1 rfl) ?_
  refine gIald (k := kr) hx hb hE hP 4 rfl (by omega) (by omega) dX3_register_12 ?_
  subst hQ
  refine vx_ret ?_
  refine W.widen (k := 1) (n := 6) (Nat.le_of_ble_eq_true rfl) (Nat.le_of_ble_eq_true rfl) ?_
  exact W.iret (v := (fr kr)) hx hb hr (fun t ht hW => ⟨⟨(fr kr), (), rfl, ⟨y_r, by rw [tn_nI (n := kr) (by omega)]⟩, trivial⟩, hS.F ht⟩) hS.2.2 dX3_register_13
theorem in_X3_value_X3 : ∀ w ∈ wsX30, w ∈ wsX3_value := by decide +kernel
abbrev rm_X3_value : Room := { frames := 7, cells := 1, slots := 6, locals := 104 }
set_option maxRecDepth 100000 in
set_option maxHeartbeats 4000000 in
theorem c_X3_value (l : Launch) (hflags : l.stackTraces = false) (g : GT) (x0 : Nat) (h0 : Nat) (p0 : Nat) (r0 : Nat) (a0 : Nat) (a1 : Nat) (a2 : Nat) (a3 : Nat) (w : Nat) (ac : Int64) (fc : Nat → Int32) (fs : Nat → Int32) (fr : Nat → Int32) (wh : Int32) (hw8 : w ≤ 8) : cXi 1 6 l g yX3_value wsX3_value rm_X3_value [.ref x0, .int wh] [(x0, .inr (3, [.ref a0, .ref h0, .ref p0, .ref r0])), (a0, .inr (2, [.int (nI w), .long ac, .ref a1, .ref a2, .ref a3])), (a1, .inl (g.2.1 0, 3, .inl fc)), (a2, .inl (g.2.1 0, 511, .inl fs)), (a3, .inl (g.2.1 0, 8, .inl fr))] (fun r => okR 0 7 wh ∧ r = numF w fc fs (tn wh)) (fun E => E = xIAE ∧ ¬ okR 0 7 wh) := by
  refine enX (y := yX3_value) (ws := wsX3_value) (av := [.ref x0, .int wh]) (cc := cX3_value) (maxL := 2) (ret := (some .int)) (by decide) rfl (Nat.le_of_ble_eq_true rfl) rfl ?_
  intro p e s m below meth c ls hx hb hr hml hown hts hlocks hE hP hD hZ hT hl
  have hK := hE.1
  have hS : va_S noA s.heap s.heap [] := va_S.rf
  generalize hQ : vx_MQ below _ _ _ s _ _ _ = Q9
  have hl : lv_has ls 2 [(0, .ref x0), (1, .int wh)] := hl
  refine lv_iload_n hx hb dX3_value_0 rfl (lv_at hl 1 rfl) ?_
  refine lv_iconst (v := 0) hx hb dX3_value_1 (by decide) ?_
  refine lv_bipush (v := 7) hx hb dX3_value_2 (by decide) ?_
  subst hQ
  refine kXv (vx_runS (As := [.int wh, .int 0, .int 7]) (rest := []) ⟨hx, hb, hml, hown, hts⟩ (c_X3_demandRange l hflags g wh 0 7) (va_cwS 3 hts gX3_value_X3_demandRange rfl rfl rfl (by decide +kernel) ⟨(Nat.le_of_ble_eq_true rfl), (Nat.le_of_ble_eq_true rfl)⟩) (preSx hE hZ hS hP hD [] (by decide) rfl) rfl rfl hl.1 rfl (lv_room (Nat.le_of_ble_eq_true rfl)) dX3_value_4 ⟨(Nat.le_of_ble_eq_true rfl), (Nat.le_of_ble_eq_true rfl)⟩) hP hS hT hlocks (Nat.le_of_ble_eq_true rfl) (Nat.le_of_ble_eq_true rfl) (fun E hE9 => hE9) (fun H locs x4 hP hS => ?_)
  generalize hQ : vx_MQ below _ _ _ s _ _ _ = Q9
  have x4 : okR 0 7 wh := x4
  refine W.widen (k := 1) (n := 6) (Nat.le_of_ble_eq_true rfl) (Nat.le_of_ble_eq_true rfl) ?_
  have y_wh := x4
  obtain ⟨kw, hkw, rfl⟩ := rN_of (n := 7) (by omega) y_wh
  refine lv_aload_n hx hb dX3_value_7 rfl (lv_at hl 0 rfl) ?_
  refine va_get (D := g.1) (ci := 3) (v := .ref a0) (C := RX3) (T := TX3) (N := 4) hx hb hts in_X3_value_X3 hown hK hP 0 rfl rfl 0 (by decide) (hts _ (List.mem_of_getElem? (i := 1) rfl)) (fun _ h9 => h9) rfl dX3_value_8 ?_
  refine lv_iload_n hx hb dX3_value_11 rfl (lv_at hl 1 rfl) ?_
  refine kRi (va_runV (As := [.int (nI kw)]) (rest := []) ⟨hx, hb, hml, hown, hts⟩ (c_X2_number l g a0 a1 a2 a3 w ac fc fs fr kw (by first | assumption | omega | exact Nat.le_of_ble_eq_true rfl) (by first | assumption | omega | exact Nat.le_of_ble_eq_true rfl)) (cwV 1 hts gX3_value_X2_number rfl rfl rfl (by decide +kernel) ⟨(Nat.le_of_ble_eq_true rfl), (Nat.le_of_ble_eq_true rfl)⟩) (preV (RX2, TX2, 5) hE hP [1, 2, 3, 4] rfl rfl) rfl rfl hl.1 rfl (lv_room (Nat.le_of_ble_eq_true rfl)) dX3_value_12 ⟨(Nat.le_of_ble_eq_true rfl), (Nat.le_of_ble_eq_true rfl)⟩) hP hS (fun r9 H locs hr9 hP hS => ?_)
  subst hr9
  subst hQ
  refine vx_ret ?_
  refine W.widen (k := 1) (n := 6) (Nat.le_of_ble_eq_true rfl) (Nat.le_of_ble_eq_true rfl) ?_
  exact W.iret (v := (numF w fc fs kw)) hx hb hr (fun t ht hW => ⟨⟨(numF w fc fs kw), (), rfl, ⟨y_wh, by rw [tn_nI (n := kw) (by omega)]⟩, trivial⟩, hS.F ht⟩) hS.2.2 dX3_value_15
theorem in_X3_account_X2 : ∀ w ∈ wsX20, w ∈ wsX3_account := by decide +kernel
theorem in_X3_account_X3 : ∀ w ∈ wsX30, w ∈ wsX3_account := by decide +kernel
abbrev rm_X3_account : Room := { frames := 0, cells := 0, slots := 0, locals := 0 }
set_option maxRecDepth 100000 in
set_option maxHeartbeats 4000000 in
theorem c_X3_account (l : Launch) (g : GT) (x0 : Nat) (h0 : Nat) (p0 : Nat) (r0 : Nat) (a0 : Nat) (a1 : Nat) (a2 : Nat) (a3 : Nat) (w : Nat) (ac : Int64) (fc : Nat → Int32) (fs : Nat → Int32) (fr : Nat → Int32) : cRl l g yX3_account wsX3_account rm_X3_account [.ref x0] [(x0, .inr (3, [.ref a0, .ref h0, .ref p0, .ref r0])), (a0, .inr (2, [.int (nI w), .long ac, .ref a1, .ref a2, .ref a3])), (a1, .inl (g.2.1 0, 3, .inl fc)), (a2, .inl (g.2.1 0, 511, .inl fs)), (a3, .inl (g.2.1 0, 8, .inl fr))] (fun r => r = ac) := by
  refine enR (y := yX3_account) (ws := wsX3_account) (av := [.ref x0]) (cc := cX3_account) (maxL := 1) (ret := (some .long)) (by decide) rfl (Nat.le_of_ble_eq_true rfl) rfl ?_
  intro p e s m below meth c ls hx hb hr hml hown hts hlocks hE hP hl
  have hK := hE.1
  have hS : va_S noA s.heap s.heap [] := va_S.rf
  generalize hQ : MQ below _ _ s _ _ _ = Q9
  have hl : lv_has ls 1 [(0, .ref x0)] := hl
  refine lv_aload_n hx hb dX3_account_0 rfl (lv_at hl 0 rfl) ?_
  refine va_get (D := g.1) (ci := 3) (v := .ref a0) (C := RX3) (T := TX3) (N := 4) hx hb hts in_X3_account_X3 hown hK hP 0 rfl rfl 0 (by decide) (hts _ (List.mem_of_getElem? (i := 1) rfl)) (fun _ h9 => h9) rfl dX3_account_1 ?_
  refine va_get (D := g.1) (ci := 2) (v := .long ac) (C := RX2) (T := TX2) (N := 5) hx hb hts in_X3_account_X2 hown hK hP 1 rfl rfl 1 (by decide) (hts _ (List.mem_of_getElem? (i := 2) rfl)) (fun _ h9 => h9) rfl dX3_account_4 ?_
  subst hQ
  exact W.lret (v := ac) hx hb hr (fun t ht hW => ⟨⟨ac, (), rfl, rfl, trivial⟩, hS.F ht⟩) hS.2.2 dX3_account_7
theorem in_X3_firstWrong_X3 : ∀ w ∈ wsX30, w ∈ wsX3_firstWrong := by decide +kernel
abbrev rm_X3_firstWrong : Room := { frames := 4, cells := 0, slots := 0, locals := 84 }
set_option maxRecDepth 100000 in
set_option maxHeartbeats 4000000 in
theorem c_X3_firstWrong (l : Launch) (g : GT) (x0 : Nat) (h0 : Nat) (p0 : Nat) (r0 : Nat) (a0 : Nat) (a1 : Nat) (a2 : Nat) (a3 : Nat) (w : Nat) (ac : Int64) (fc : Nat → Int32) (fs : Nat → Int32) (fr : Nat → Int32) (hw8 : w ≤ 8) : cRi l g yX3_firstWrong wsX3_firstWrong rm_X3_firstWrong [.ref x0] [(x0, .inr (3, [.ref a0, .ref h0, .ref p0, .ref r0])), (a0, .inr (2, [.int (nI w), .long ac, .ref a1, .ref a2, .ref a3])), (a1, .inl (g.2.1 0, 3, .inl fc)), (a2, .inl (g.2.1 0, 511, .inl fs)), (a3, .inl (g.2.1 0, 8, .inl fr))] (fun r => r = (fwF fs (gr w))) := by
  refine enR (y := yX3_firstWrong) (ws := wsX3_firstWrong) (av := [.ref x0]) (cc := cX3_firstWrong) (maxL := 1) (ret := (some .int)) (by decide) rfl (Nat.le_of_ble_eq_true rfl) rfl ?_
  intro p e s m below meth c ls hx hb hr hml hown hts hlocks hE hP hl
  have hK := hE.1
  have hS : va_S noA s.heap s.heap [] := va_S.rf
  generalize hQ : MQ below _ _ s _ _ _ = Q9
  have hl : lv_has ls 1 [(0, .ref x0)] := hl
  refine lv_aload_n hx hb dX3_firstWrong_0 rfl (lv_at hl 0 rfl) ?_
  refine va_get (D := g.1) (ci := 3) (v := .ref a0) (C := RX3) (T := TX3) (N := 4) hx hb hts in_X3_firstWrong_X3 hown hK hP 0 rfl rfl 0 (by decide) (hts _ (List.mem_of_getElem? (i := 1) rfl)) (fun _ h9 => h9) rfl dX3_firstWrong_1 ?_
  refine kRi (va_runV (As := []) (rest := []) ⟨hx, hb, hml, hown, hts⟩ (c_X2_firstWrongPair l g a0 a1 a2 a3 w ac fc fs fr (by first | assumption | omega | exact Nat.le_of_ble_eq_true rfl)) (cwV 0 hts gX3_firstWrong_X2_firstWrongPair rfl rfl rfl (by decide +kernel) ⟨(Nat.le_of_ble_eq_true rfl), (Nat.le_of_ble_eq_true rfl)⟩) (preV (RX2, TX2, 5) hE hP [1, 2, 3, 4] rfl rfl) rfl rfl hl.1 rfl (lv_room (Nat.le_of_ble_eq_true rfl)) dX3_firstWrong_4 ⟨(Nat.le_of_ble_eq_true rfl), (Nat.le_of_ble_eq_true rfl)⟩) hP hS (fun r9 H locs hr9 hP hS => ?_)
  subst hr9
  subst hQ
  exact W.iret (v := (fwF fs (gr w))) hx hb hr (fun t ht hW => ⟨⟨(fwF fs (gr w)), (), rfl, rfl, trivial⟩, hS.F ht⟩) hS.2.2 dX3_firstWrong_7
theorem in_X3_cheaperPairs_X3 : ∀ w ∈ wsX30, w ∈ wsX3_cheaperPairs := by decide +kernel
abbrev rm_X3_cheaperPairs : Room := { frames := 8, cells := 2, slots := 12, locals := 124 }
set_option maxRecDepth 100000 in
set_option maxHeartbeats 4000000 in
theorem c_X3_cheaperPairs (l : Launch) (hflags : l.stackTraces = false) (g : GT) (x0 : Nat) (h0 : Nat) (p0 : Nat) (r0 : Nat) (a0 : Nat) (a1 : Nat) (a2 : Nat) (a3 : Nat) (w : Nat) (ac : Int64) (fc : Nat → Int32) (fs : Nat → Int32) (fr : Nat → Int32) (mt : Int32) (mo : Int32) (hw8 : w ≤ 8) : cXi 2 12 l g yX3_cheaperPairs wsX3_cheaperPairs rm_X3_cheaperPairs [.ref x0, .int mt, .int mo] [(x0, .inr (3, [.ref a0, .ref h0, .ref p0, .ref r0])), (a0, .inr (2, [.int (nI w), .long ac, .ref a1, .ref a2, .ref a3])), (a1, .inl (g.2.1 0, 3, .inl fc)), (a2, .inl (g.2.1 0, 511, .inl fs)), (a3, .inl (g.2.1 0, 8, .inl fr))] (fun r => (okR 0 2 mt ∧ okR 0 2 mo) ∧ r = sI (cpF fc (gr w) mt mo) (gr w + 1)) (fun E => E = xIAE ∧ ¬ (okR 0 2 mt ∧ okR 0 2 mo)) := by
  refine enX (y := yX3_cheaperPairs) (ws := wsX3_cheaperPairs) (av := [.ref x0, .int mt, .int mo]) (cc := cX3_cheaperPairs) (maxL := 6) (ret := (some .int)) (by decide) rfl (Nat.le_of_ble_eq_true rfl) rfl ?_
  intro p e s m below meth c ls hx hb hr hml hown hts hlocks hE hP hD hZ hT hl
  have hK := hE.1
  have hS : va_S noA s.heap s.heap [] := va_S.rf
  generalize hQ : vx_MQ below _ _ _ s _ _ _ = Q9
  have hl : lv_has ls 6 [(0, .ref x0), (1, .int mt), (2, .int mo)] := hl
  have hgr := gr_le w hw8
  have hen := ents_le w hw8
  refine lv_iload_n hx hb dX3_cheaperPairs_0 rfl (lv_at hl 1 rfl) ?_
  subst hQ
  refine kXv (vx_runS (As := [.int mt]) (rest := []) ⟨hx, hb, hml, hown, hts⟩ (c_X3_demandMethod l hflags g mt) (va_cwS 1 hts gX3_cheaperPairs_X3_demandMethod rfl rfl rfl (by decide +kernel) ⟨(Nat.le_of_ble_eq_true rfl), (Nat.le_of_ble_eq_true rfl)⟩) (preSx hE hZ hS hP hD [] (by decide) rfl) rfl rfl hl.1 rfl (lv_room (Nat.le_of_ble_eq_true rfl)) dX3_cheaperPairs_1 ⟨(Nat.le_of_ble_eq_true rfl), (Nat.le_of_ble_eq_true rfl)⟩) hP hS hT hlocks (Nat.le_of_ble_eq_true rfl) (Nat.le_of_ble_eq_true rfl) (fun E hE9 => by exact ⟨hE9.1, fun h9 => hE9.2 (by first | exact h9 | exact h9.1 | exact h9.2 | exact h9.2.1 | exact h9.2.2 | exact h9.2.2.1 | exact h9.2.2.2 | exact h9.2.2.2.1 | exact h9.2.2.2.2)⟩) (fun H locs x1 hP hS => ?_)
  generalize hQ : vx_MQ below _ _ _ s _ _ _ = Q9
  have x1 : okR 0 2 mt := x1
  refine W.widen (k := 1) (n := 6) (Nat.le_of_ble_eq_true rfl) (Nat.le_of_ble_eq_true rfl) ?_
  have y_mt := x1
  refine lv_iload_n hx hb dX3_cheaperPairs_4 rfl (lv_at hl 2 rfl) ?_
  subst hQ
  refine kXv (vx_runS (As := [.int mo]) (rest := []) ⟨hx, hb, hml, hown, hts⟩ (c_X3_demandMethod l hflags g mo) (va_cwS 1 hts gX3_cheaperPairs_X3_demandMethod rfl rfl rfl (by decide +kernel) ⟨(Nat.le_of_ble_eq_true rfl), (Nat.le_of_ble_eq_true rfl)⟩) (preSx hE hZ hS hP hD [] (by decide) rfl) rfl rfl hl.1 rfl (lv_room (Nat.le_of_ble_eq_true rfl)) dX3_cheaperPairs_5 ⟨(Nat.le_of_ble_eq_true rfl), (Nat.le_of_ble_eq_true rfl)⟩) hP hS hT hlocks (Nat.le_of_ble_eq_true rfl) (Nat.le_of_ble_eq_true rfl) (fun E hE9 => by exact ⟨hE9.1, fun h9 => hE9.2 (by first | exact h9 | exact h9.1 | exact h9.2 | exact h9.2.1 | exact h9.2.2 | exact h9.2.2.1 | exact h9.2.2.2 | exact h9.2.2.2.1 | exact h9.2.2.2.2)⟩) (fun H locs x5 hP hS => ?_)
  generalize hQ : vx_MQ below _ _ _ s _ _ _ = Q9
  have x5 : okR 0 2 mo := x5
  refine W.widen (k := 2) (n := 12) (Nat.le_of_ble_eq_true rfl) (Nat.le_of_ble_eq_true rfl) ?_
  have y_mo := x5
  refine lv_aload_n hx hb dX3_cheaperPairs_8 rfl (lv_at hl 0 rfl) ?_
  refine va_get (D := g.1) (ci := 3) (v := .ref a0) (C := RX3) (T := TX3) (N := 4) hx hb hts in_X3_cheaperPairs_X3 hown hK hP 0 rfl rfl 0 (by decide) (hts _ (List.mem_of_getElem? (i := 1) rfl)) (fun _ h9 => h9) rfl dX3_cheaperPairs_9 ?_
  refine kRi (va_runV (As := []) (rest := []) ⟨hx, hb, hml, hown, hts⟩ (c_X2_greatest l g a0 a1 a2 a3 w ac fc fs fr (by first | assumption | omega | exact Nat.le_of_ble_eq_true rfl)) (cwV 0 hts gX3_cheaperPairs_X2_greatest rfl rfl rfl (by decide +kernel) ⟨(Nat.le_of_ble_eq_true rfl), (Nat.le_of_ble_eq_true rfl)⟩) (preV (RX2, TX2, 5) hE hP [1, 2, 3, 4] rfl rfl) rfl rfl hl.1 rfl (lv_room (Nat.le_of_ble_eq_true rfl)) dX3_cheaperPairs_12 ⟨(Nat.le_of_ble_eq_true rfl), (Nat.le_of_ble_eq_true rfl)⟩) hP hS (fun r9 H locs hr9 hP hS => ?_)
  subst hr9
  refine lv_iconst (v := 1) hx hb dX3_cheaperPairs_15 (by decide) ?_
  refine lv_iadd hx hb dX3_cheaperPairs_16 ?_
  refine lv_tope (y := (nI ((gr w) + 1))) (show ((nI (gr w)) + 1 : Int32) = nI ((gr w) + 1) from nI_add (gr w) (1)) ?_
  refine lv_istore_n (lv' := [(3, .int (nI ((gr w) + 1))), (0, .ref x0), (1, .int mt), (2, .int mo)]) hx hb dX3_cheaperPairs_17 rfl hl (by decide) rfl (fun ls hl => ?_)
  refine lv_iconst (v := 0) hx hb dX3_cheaperPairs_18 (by decide) ?_
  refine lv_istore (lv' := [(4, .int 0), (3, .int (nI ((gr w) + 1))), (0, .ref x0), (1, .int mt), (2, .int mo)]) hx hb dX3_cheaperPairs_19 hl (by decide) rfl (fun ls hl => ?_)
  refine lv_iconst (v := 0) hx hb dX3_cheaperPairs_21 (by decide) ?_
  refine lv_istore (lv' := [(5, .int 0), (4, .int 0), (3, .int (nI ((gr w) + 1))), (0, .ref x0), (1, .int mt), (2, .int mo)]) hx hb dX3_cheaperPairs_22 hl (by decide) rfl (fun ls hl => ?_)
  have lp24 : ∀ (n9 : Nat) (i : Nat), gr w + 1 - i < n9 → (i ≤ gr w + 1) → ∀ (z4 : Int32), z4 = sI (cpF fc (gr w) mt mo) i → ∀ (H : Heap) (locs : List Loc), va_P g.1 vwCl [(x0, .inr (3, [.ref a0, .ref h0, .ref p0, .ref r0])), (a0, .inr (2, [.int (nI w), .long ac, .ref a1, .ref a2, .ref a3])), (a1, .inl (g.2.1 0, 3, .inl fc)), (a2, .inl (g.2.1 0, 511, .inl fs)), (a3, .inl (g.2.1 0, 8, .inl fr))] H → va_D (va_Ad [(x0, .inr (3, [.ref a0, .ref h0, .ref p0, .ref r0])), (a0, .inr (2, [.int (nI w), .long ac, .ref a1, .ref a2, .ref a3])), (a1, .inl (g.2.1 0, 3, .inl fc)), (a2, .inl (g.2.1 0, 511, .inl fs)), (a3, .inl (g.2.1 0, 8, .inl fr))]) [(x0, .inr (3, [.ref a0, .ref h0, .ref p0, .ref r0])), (a0, .inr (2, [.int (nI w), .long ac, .ref a1, .ref a2, .ref a3])), (a1, .inl (g.2.1 0, 3, .inl fc)), (a2, .inl (g.2.1 0, 511, .inl fs)), (a3, .inl (g.2.1 0, 8, .inl fr))] → va_S noA s.heap H locs → ∀ (ls : Array Slot), lv_has ls 6 [(5, .int (nI i)), (4, .int z4), (3, .int (nI ((gr w) + 1))), (0, .ref x0), (1, .int mt), (2, .int mo)] → W p l e rm_X3_cheaperPairs s m [Value.ref x0, .int mt, .int mo].toArray below meth c H locs 2 12 Q9 (F0 m 24 ls []) := by
    intro n9
    induction n9 with
    | zero => intro i h9; exact absurd h9 (Nat.not_lt_zero _)
    | succ n9 ih24 =>
      intro i hm24 hi
      intro z4 e_z4; subst e_z4
      intro H locs hP hD hS ls hl
      refine lv_iload hx hb dX3_cheaperPairs_24 (lv_at hl 0 rfl) ?_
      refine lv_iload_n hx hb dX3_cheaperPairs_26 rfl (lv_at hl 2 rfl) ?_
      refine lv_icmp_ge (tgt := 65) hx hb dX3_cheaperPairs_27 (by decide) (fun c27 => ?_) (fun c27 => ?_)
      · have n27 : (gr w) + 1 ≤ i := (nI_leI (a := (gr w) + 1) (b := i) (by omega) (by omega)).mp c27
        have e9 : i = gr w + 1 := by omega
        refine lv_iload hx hb dX3_cheaperPairs_65 (lv_at hl 1 rfl) ?_
        subst hQ
        refine vx_ret ?_
        refine W.widen (k := 2) (n := 12) (Nat.le_of_ble_eq_true rfl) (Nat.le_of_ble_eq_true rfl) ?_
        exact W.iret (v := (sI (cpF fc (gr w) mt mo) i)) hx hb hr (fun t ht hW => ⟨⟨(sI (cpF fc (gr w) mt mo) i), (), rfl, ⟨⟨y_mt, y_mo⟩, by rw [e9]⟩, trivial⟩, hS.F ht⟩) hS.2.2 dX3_cheaperPairs_67
      · have n27 : i < (gr w) + 1 := Nat.lt_of_not_le (fun h9 => c27 ((nI_leI (a := (gr w) + 1) (b := i) (by omega) (by omega)).mpr h9))
        refine lv_aload_n hx hb dX3_cheaperPairs_30 rfl (lv_at hl 3 rfl) ?_
        refine va_get (D := g.1) (ci := 3) (v := .ref a0) (C := RX3) (T := TX3) (N := 4) hx hb hts in_X3_cheaperPairs_X3 hown hK hP 0 rfl rfl 0 (by decide) (hts _ (List.mem_of_getElem? (i := 1) rfl)) (fun _ h9 => h9) rfl dX3_cheaperPairs_31 ?_
        refine lv_iload hx hb dX3_cheaperPairs_34 (lv_at hl 0 rfl) ?_
        refine lv_iload_n hx hb dX3_cheaperPairs_36 rfl (lv_at hl 4 rfl) ?_
        refine kRi (va_runV (As := [.int (nI i), .int mt]) (rest := []) ⟨hx, hb, hml, hown, hts⟩ (c_X2_price l g a0 a1 a2 a3 w ac fc fs fr i mt) (cwV 2 hts gX3_cheaperPairs_X2_price rfl rfl rfl (by decide +kernel) ⟨(Nat.le_of_ble_eq_true rfl), (Nat.le_of_ble_eq_true rfl)⟩) (preV (RX2, TX2, 5) hE hP [1, 2, 3, 4] rfl rfl) rfl rfl hl.1 rfl (lv_room (Nat.le_of_ble_eq_true rfl)) dX3_cheaperPairs_37 ⟨(Nat.le_of_ble_eq_true rfl), (Nat.le_of_ble_eq_true rfl)⟩) hP hS (fun r9 H locs hr9 hP hS => ?_)
        subst hr9
        refine lv_aload_n hx hb dX3_cheaperPairs_40 rfl (lv_at hl 3 rfl) ?_
        refine va_get (D := g.1) (ci := 3) (v := .ref a0) (C := RX3) (T := TX3) (N := 4) hx hb hts in_X3_cheaperPairs_X3 hown hK hP 0 rfl rfl 0 (by decide) (hts _ (List.mem_of_getElem? (i := 1) rfl)) (fun _ h9 => h9) rfl dX3_cheaperPairs_41 ?_
        refine lv_iload hx hb dX3_cheaperPairs_44 (lv_at hl 0 rfl) ?_
        refine lv_iload_n hx hb dX3_cheaperPairs_46 rfl (lv_at hl 5 rfl) ?_
        refine kRi (va_runV (As := [.int (nI i), .int mo]) (rest := [.int (pcF fc i mt)]) ⟨hx, hb, hml, hown, hts⟩ (c_X2_price l g a0 a1 a2 a3 w ac fc fs fr i mo) (cwV 2 hts gX3_cheaperPairs_X2_price rfl rfl rfl (by decide +kernel) ⟨(Nat.le_of_ble_eq_true rfl), (Nat.le_of_ble_eq_true rfl)⟩) (preV (RX2, TX2, 5) hE hP [1, 2, 3, 4] rfl rfl) rfl rfl hl.1 rfl (lv_room (Nat.le_of_ble_eq_true rfl)) dX3_cheaperPairs_47 ⟨(Nat.le_of_ble_eq_true rfl), (Nat.le_of_ble_eq_true rfl)⟩) hP hS (fun r9 H locs hr9 hP hS => ?_)
        subst hr9
        refine lv_icmp_ge (tgt := 59) hx hb dX3_cheaperPairs_50 (by decide) (fun c50 => ?_) (fun c50 => ?_)
        · refine lv_iinc (v := (nI (i + 1))) (lv' := [(5, .int (nI (i + 1))), (4, .int (sI (cpF fc (gr w) mt mo) i)), (3, .int (nI ((gr w) + 1))), (0, .ref x0), (1, .int mt), (2, .int mo)]) hx hb dX3_cheaperPairs_59 hl (k := 0) rfl (nI_add (i) 1) (by decide) rfl (fun ls hl => ?_)
          refine lv_goto (tgt := 24) hx hb dX3_cheaperPairs_62 (by decide) ?_
          exact ih24 (i + 1) (by omega) (by omega) (sI (cpF fc (gr w) mt mo) i) (by first | (show _ = sI (cpF fc (gr w) mt mo) i + cpF fc (gr w) mt mo i; rw [cpF, if_pos c50, Int32.add_zero]) | (show _ = sI (cpF fc (gr w) mt mo) i + cpF fc (gr w) mt mo i; rw [cpF, if_neg c50])) _ _ hP hD hS _ (lv_sub hl [0, 1, 2, 3, 4, 5] rfl)
        · refine lv_iload hx hb dX3_cheaperPairs_53 (lv_at hl 1 rfl) ?_
          refine lv_iload_n hx hb dX3_cheaperPairs_55 rfl (lv_at hl 2 rfl) ?_
          refine lv_iadd hx hb dX3_cheaperPairs_56 ?_
          refine lv_istore (lv' := [(4, .int ((sI (cpF fc (gr w) mt mo) i) + (nI ((gr w) + 1)))), (5, .int (nI i)), (3, .int (nI ((gr w) + 1))), (0, .ref x0), (1, .int mt), (2, .int mo)]) hx hb dX3_cheaperPairs_57 hl (by decide) rfl (fun ls hl => ?_)
          refine lv_iinc (v := (nI (i + 1))) (lv' := [(5, .int (nI (i + 1))), (4, .int ((sI (cpF fc (gr w) mt mo) i) + (nI ((gr w) + 1)))), (3, .int (nI ((gr w) + 1))), (0, .ref x0), (1, .int mt), (2, .int mo)]) hx hb dX3_cheaperPairs_59 hl (k := 1) rfl (nI_add (i) 1) (by decide) rfl (fun ls hl => ?_)
          refine lv_goto (tgt := 24) hx hb dX3_cheaperPairs_62 (by decide) ?_
          exact ih24 (i + 1) (by omega) (by omega) ((sI (cpF fc (gr w) mt mo) i) + (nI ((gr w) + 1))) (by first | (show _ = sI (cpF fc (gr w) mt mo) i + cpF fc (gr w) mt mo i; rw [cpF, if_pos c50, Int32.add_zero]) | (show _ = sI (cpF fc (gr w) mt mo) i + cpF fc (gr w) mt mo i; rw [cpF, if_neg c50])) _ _ hP hD hS _ (lv_sub hl [0, 1, 2, 3, 4, 5] rfl)
  exact lp24 ((gr w + 1 - 0) + 1) 0 (Nat.lt_succ_self _) (by omega) 0 rfl _ _ hP hD hS _ (lv_sub hl [0, 1, 2, 3, 4, 5] rfl)
theorem in_X3_digest_X0 : ∀ w ∈ wsX00, w ∈ wsX3_digest := by decide +kernel
theorem in_X3_digest_X1 : ∀ w ∈ wsX10, w ∈ wsX3_digest := by decide +kernel
theorem in_X3_digest_X2 : ∀ w ∈ wsX20, w ∈ wsX3_digest := by decide +kernel
theorem in_X3_digest_X3 : ∀ w ∈ wsX30, w ∈ wsX3_digest := by decide +kernel
abbrev rm_X3_digest : Room := { frames := 5, cells := 0, slots := 0, locals := 104 }
set_option maxRecDepth 100000 in
set_option maxHeartbeats 4000000 in
theorem c_X3_digest (l : Launch) (g : GT) (x0 : Nat) (h0 : Nat) (p0 : Nat) (r0 : Nat) (a0 : Nat) (a1 : Nat) (a2 : Nat) (a3 : Nat) (w : Nat) (ac : Int64) (fc : Nat → Int32) (fs : Nat → Int32) (fr : Nat → Int32) (h1 : Nat) (cnt : Nat) (nx : Nat) (p1 : Nat) (p2 : Nat) (p3 : Nat) (p4 : Nat) (p5 : Nat) (len : Nat) (u : PSt) (hw8 : w ≤ 8) : cRl l g yX3_digest wsX3_digest rm_X3_digest [.ref x0] [(x0, .inr (3, [.ref a0, .ref h0, .ref p0, .ref r0])), (a0, .inr (2, [.int (nI w), .long ac, .ref a1, .ref a2, .ref a3])), (a1, .inl (g.2.1 0, 3, .inl fc)), (a2, .inl (g.2.1 0, 511, .inl fs)), (a3, .inl (g.2.1 0, 8, .inl fr)), (h0, .inr (0, [.int (nI cnt), .int (nI nx), .ref h1])), (p0, .inr (1, [.ref p1, .int (nI len), .ref p2, .ref p3, .ref p4, .ref p5, .int (nI ((uNs u))), .int (nI ((uPl u))), .int (nI ((uDg u))), .int (uTg u), .int (uSn u), .int (uFi u), .int (uSe u)]))] (fun r => r = (dgF w ac fc fs fr len cnt)) := by
  refine enR (y := yX3_digest) (ws := wsX3_digest) (av := [.ref x0]) (cc := cX3_digest) (maxL := 4) (ret := (some .long)) (by decide) rfl (Nat.le_of_ble_eq_true rfl) rfl ?_
  intro p e s m below meth c ls hx hb hr hml hown hts hlocks hE hP hl
  have hK := hE.1
  have hS : va_S noA s.heap s.heap [] := va_S.rf
  generalize hQ : MQ below _ _ s _ _ _ = Q9
  have hl : lv_has ls 4 [(0, .ref x0)] := hl
  have hgr := gr_le w hw8
  have hen := ents_le w hw8
  refine lv_ldc2 (v := 118823) hx hb hown (hts _ (List.mem_of_getElem? (i := 1) rfl)) dX3_digest_0 ?_
  refine lv_aload_n hx hb dX3_digest_3 rfl (lv_at hl 0 rfl) ?_
  refine va_get (D := g.1) (ci := 3) (v := .ref p0) (C := RX3) (T := TX3) (N := 4) hx hb hts in_X3_digest_X3 hown hK hP 0 rfl rfl 2 (by decide) (hts _ (List.mem_of_getElem? (i := 2) rfl)) (fun _ h9 => h9) rfl dX3_digest_4 ?_
  refine va_get (D := g.1) (ci := 1) (v := .int (nI len)) (C := RX1) (T := TX1) (N := 13) hx hb hts in_X3_digest_X1 hown hK hP 6 rfl rfl 1 (by decide) (hts _ (List.mem_of_getElem? (i := 3) rfl)) (fun _ h9 => h9) rfl dX3_digest_7 ?_
  refine lv_i2l (v := Int32.toInt64 (nI len)) hx hb dX3_digest_10 rfl ?_
  refine lv_ladd hx hb dX3_digest_11 ?_
  refine lv_lstore_n (lv' := [(1, .long (118823 + (Int32.toInt64 (nI len)))), (0, .ref x0)]) hx hb dX3_digest_12 rfl hl (by decide) rfl (fun ls hl => ?_)
  refine lv_iconst (v := 0) hx hb dX3_digest_13 (by decide) ?_
  refine lv_istore_n (lv' := [(3, .int 0), (1, .long (118823 + (Int32.toInt64 (nI len)))), (0, .ref x0)]) hx hb dX3_digest_14 rfl hl (by decide) rfl (fun ls hl => ?_)
  have lp15 : ∀ (n9 : Nat) (i15 : Nat), 8 - i15 < n9 → (i15 ≤ 8) → ∀ (z15 : Int64), z15 = dI (numF w fc fs) (118823 + Int32.toInt64 (nI len)) i15 → ∀ (H : Heap) (locs : List Loc), va_P g.1 vwCl [(x0, .inr (3, [.ref a0, .ref h0, .ref p0, .ref r0])), (a0, .inr (2, [.int (nI w), .long ac, .ref a1, .ref a2, .ref a3])), (a1, .inl (g.2.1 0, 3, .inl fc)), (a2, .inl (g.2.1 0, 511, .inl fs)), (a3, .inl (g.2.1 0, 8, .inl fr)), (h0, .inr (0, [.int (nI cnt), .int (nI nx), .ref h1])), (p0, .inr (1, [.ref p1, .int (nI len), .ref p2, .ref p3, .ref p4, .ref p5, .int (nI ((uNs u))), .int (nI ((uPl u))), .int (nI ((uDg u))), .int (uTg u), .int (uSn u), .int (uFi u), .int (uSe u)]))] H → va_S noA s.heap H locs → ∀ (ls : Array Slot), lv_has ls 4 [(3, .int (nI i15)), (1, .long z15), (0, .ref x0)] → W p l e rm_X3_digest s m [Value.ref x0].toArray below meth c H locs 0 0 Q9 (F0 m 15 ls []) := by
    intro n9
    induction n9 with
    | zero => intro i15 h9; exact absurd h9 (Nat.not_lt_zero _)
    | succ n9 ih15 =>
      intro i15 hm15 hi15
      intro z15 e_z15; subst e_z15
      intro H locs hP hS ls hl
      refine lv_iload_n hx hb dX3_digest_15 rfl (lv_at hl 0 rfl) ?_
      refine lv_bipush (v := 7) hx hb dX3_digest_16 (by decide) ?_
      refine lv_icmp_gt (tgt := 43) hx hb dX3_digest_18 (by decide) (fun c18 => ?_) (fun c18 => ?_)
      · have n18 : 7 < i15 := (nI_ltI (a := 7) (b := i15) (by omega) (by omega)).mp c18
        have e15 : i15 = 8 := by omega
        rw [e15] at hl
        refine lv_ldc2 (v := 31) hx hb hown (hts _ (List.mem_of_getElem? (i := 4) rfl)) dX3_digest_43 ?_
        refine lv_lload_n hx hb dX3_digest_46 rfl (lv_at hl 1 rfl) ?_
        refine lv_lmul hx hb dX3_digest_47 ?_
        refine lv_aload_n hx hb dX3_digest_48 rfl (lv_at hl 2 rfl) ?_
        refine va_get (D := g.1) (ci := 3) (v := .ref a0) (C := RX3) (T := TX3) (N := 4) hx hb hts in_X3_digest_X3 hown hK hP 0 rfl rfl 0 (by decide) (hts _ (List.mem_of_getElem? (i := 5) rfl)) (fun _ h9 => h9) rfl dX3_digest_49 ?_
        refine va_get (D := g.1) (ci := 2) (v := .long ac) (C := RX2) (T := TX2) (N := 5) hx hb hts in_X3_digest_X2 hown hK hP 1 rfl rfl 1 (by decide) (hts _ (List.mem_of_getElem? (i := 6) rfl)) (fun _ h9 => h9) rfl dX3_digest_52 ?_
        refine lv_ladd hx hb dX3_digest_55 ?_
        refine lv_lstore_n (lv' := [(1, .long ((31 * (dI (numF w fc fs) (118823 + Int32.toInt64 (nI len)) 8)) + ac)), (3, .int (nI 8)), (0, .ref x0)]) hx hb dX3_digest_56 rfl hl (by decide) rfl (fun ls hl => ?_)
        refine lv_iconst (v := 0) hx hb dX3_digest_57 (by decide) ?_
        refine lv_istore_n (lv' := [(3, .int 0), (1, .long ((31 * (dI (numF w fc fs) (118823 + Int32.toInt64 (nI len)) 8)) + ac)), (0, .ref x0)]) hx hb dX3_digest_58 rfl hl (by decide) rfl (fun ls hl => ?_)
        have lp59 : ∀ (n9 : Nat) (i59 : Nat), 8 - i59 < n9 → (i59 ≤ 8) → ∀ (z59 : Int64), z59 = dI fr (31 * dI (numF w fc fs) (118823 + Int32.toInt64 (nI len)) 8 + ac) i59 → ∀ (H : Heap) (locs : List Loc), va_P g.1 vwCl [(x0, .inr (3, [.ref a0, .ref h0, .ref p0, .ref r0])), (a0, .inr (2, [.int (nI w), .long ac, .ref a1, .ref a2, .ref a3])), (a1, .inl (g.2.1 0, 3, .inl fc)), (a2, .inl (g.2.1 0, 511, .inl fs)), (a3, .inl (g.2.1 0, 8, .inl fr)), (h0, .inr (0, [.int (nI cnt), .int (nI nx), .ref h1])), (p0, .inr (1, [.ref p1, .int (nI len), .ref p2, .ref p3, .ref p4, .ref p5, .int (nI ((uNs u))), .int (nI ((uPl u))), .int (nI ((uDg u))), .int (uTg u), .int (uSn u), .int (uFi u), .int (uSe u)]))] H → va_S noA s.heap H locs → ∀ (ls : Array Slot), lv_has ls 4 [(3, .int (nI i59)), (1, .long z59), (0, .ref x0)] → W p l e rm_X3_digest s m [Value.ref x0].toArray below meth c H locs 0 0 Q9 (F0 m 59 ls []) := by
          intro n9
          induction n9 with
          | zero => intro i59 h9; exact absurd h9 (Nat.not_lt_zero _)
          | succ n9 ih59 =>
            intro i59 hm59 hi59
            intro z59 e_z59; subst e_z59
            intro H locs hP hS ls hl
            refine lv_iload_n hx hb dX3_digest_59 rfl (lv_at hl 0 rfl) ?_
            refine lv_bipush (v := 8) hx hb dX3_digest_60 (by decide) ?_
            refine lv_icmp_ge (tgt := 88) hx hb dX3_digest_62 (by decide) (fun c62 => ?_) (fun c62 => ?_)
            · have n62 : 8 ≤ i59 := (nI_leI (a := 8) (b := i59) (by omega) (by omega)).mp c62
              have e59 : i59 = 8 := by omega
              rw [e59] at hl
              refine lv_iconst (v := 0) hx hb dX3_digest_88 (by decide) ?_
              refine lv_istore_n (lv' := [(3, .int 0), (1, .long (dI fr (31 * dI (numF w fc fs) (118823 + Int32.toInt64 (nI len)) 8 + ac) 8)), (0, .ref x0)]) hx hb dX3_digest_89 rfl hl (by decide) rfl (fun ls hl => ?_)
              have lp90 : ∀ (n9 : Nat) (i90 : Nat), (ents w) - i90 < n9 → (i90 ≤ (ents w)) → ∀ (z90 : Int64), z90 = dI fs (dI fr (31 * dI (numF w fc fs) (118823 + Int32.toInt64 (nI len)) 8 + ac) 8) i90 → ∀ (H : Heap) (locs : List Loc), va_P g.1 vwCl [(x0, .inr (3, [.ref a0, .ref h0, .ref p0, .ref r0])), (a0, .inr (2, [.int (nI w), .long ac, .ref a1, .ref a2, .ref a3])), (a1, .inl (g.2.1 0, 3, .inl fc)), (a2, .inl (g.2.1 0, 511, .inl fs)), (a3, .inl (g.2.1 0, 8, .inl fr)), (h0, .inr (0, [.int (nI cnt), .int (nI nx), .ref h1])), (p0, .inr (1, [.ref p1, .int (nI len), .ref p2, .ref p3, .ref p4, .ref p5, .int (nI ((uNs u))), .int (nI ((uPl u))), .int (nI ((uDg u))), .int (uTg u), .int (uSn u), .int (uFi u), .int (uSe u)]))] H → va_S noA s.heap H locs → ∀ (ls : Array Slot), lv_has ls 4 [(3, .int (nI i90)), (1, .long z90), (0, .ref x0)] → W p l e rm_X3_digest s m [Value.ref x0].toArray below meth c H locs 0 0 Q9 (F0 m 90 ls []) := by
                intro n9
                induction n9 with
                | zero => intro i90 h9; exact absurd h9 (Nat.not_lt_zero _)
                | succ n9 ih90 =>
                  intro i90 hm90 hi90
                  intro z90 e_z90; subst e_z90
                  intro H locs hP hS ls hl
                  refine lv_iload_n hx hb dX3_digest_90 rfl (lv_at hl 0 rfl) ?_
                  refine lv_aload_n hx hb dX3_digest_91 rfl (lv_at hl 2 rfl) ?_
                  refine va_get (D := g.1) (ci := 3) (v := .ref a0) (C := RX3) (T := TX3) (N := 4) hx hb hts in_X3_digest_X3 hown hK hP 0 rfl rfl 0 (by decide) (hts _ (List.mem_of_getElem? (i := 5) rfl)) (fun _ h9 => h9) rfl dX3_digest_92 ?_
                  refine kRi (va_runV (As := []) (rest := [.int (nI i90)]) ⟨hx, hb, hml, hown, hts⟩ (c_X2_entries l g a0 a1 a2 a3 w ac fc fs fr (by first | assumption | omega | exact Nat.le_of_ble_eq_true rfl)) (cwV 0 hts gX3_digest_X2_entries rfl rfl rfl (by decide +kernel) ⟨(Nat.le_of_ble_eq_true rfl), (Nat.le_of_ble_eq_true rfl)⟩) (preV (RX2, TX2, 5) hE hP [1, 2, 3, 4] rfl rfl) rfl rfl hl.1 rfl (lv_room (Nat.le_of_ble_eq_true rfl)) dX3_digest_95 ⟨(Nat.le_of_ble_eq_true rfl), (Nat.le_of_ble_eq_true rfl)⟩) hP hS (fun r9 H locs hr9 hP hS => ?_)
                  subst hr9
                  refine lv_icmp_ge (tgt := 124) hx hb dX3_digest_98 (by decide) (fun c98 => ?_) (fun c98 => ?_)
                  · have n98 : ents w ≤ i90 := (nI_leI (a := ents w) (b := i90) (by omega) (by omega)).mp c98
                    have e90 : i90 = ents w := by omega
                    rw [e90] at hl
                    refine lv_ldc2 (v := 31) hx hb hown (hts _ (List.mem_of_getElem? (i := 4) rfl)) dX3_digest_124 ?_
                    refine lv_lload_n hx hb dX3_digest_127 rfl (lv_at hl 1 rfl) ?_
                    refine lv_lmul hx hb dX3_digest_128 ?_
                    refine lv_aload_n hx hb dX3_digest_129 rfl (lv_at hl 2 rfl) ?_
                    refine va_get (D := g.1) (ci := 3) (v := .ref a0) (C := RX3) (T := TX3) (N := 4) hx hb hts in_X3_digest_X3 hown hK hP 0 rfl rfl 0 (by decide) (hts _ (List.mem_of_getElem? (i := 5) rfl)) (fun _ h9 => h9) rfl dX3_digest_130 ?_
                    refine kRi (va_runV (As := []) (rest := [.long (31 * (dI fs (dI fr (31 * dI (numF w fc fs) (118823 + Int32.toInt64 (nI len)) 8 + ac) 8) (ents w)))]) ⟨hx, hb, hml, hown, hts⟩ (c_X2_firstWrongPair l g a0 a1 a2 a3 w ac fc fs fr (by first | assumption | omega | exact Nat.le_of_ble_eq_true rfl)) (cwV 0 hts gX3_digest_X2_firstWrongPair rfl rfl rfl (by decide +kernel) ⟨(Nat.le_of_ble_eq_true rfl), (Nat.le_of_ble_eq_true rfl)⟩) (preV (RX2, TX2, 5) hE hP [1, 2, 3, 4] rfl rfl) rfl rfl hl.1 rfl (lv_room (Nat.le_of_ble_eq_true rfl)) dX3_digest_133 ⟨(Nat.le_of_ble_eq_true rfl), (Nat.le_of_ble_eq_true rfl)⟩) hP hS (fun r9 H locs hr9 hP hS => ?_)
                    subst hr9
                    refine lv_i2l (v := Int32.toInt64 (fwF fs (gr w))) hx hb dX3_digest_136 rfl ?_
                    refine lv_ladd hx hb dX3_digest_137 ?_
                    refine lv_lstore_n (lv' := [(1, .long ((31 * (dI fs (dI fr (31 * dI (numF w fc fs) (118823 + Int32.toInt64 (nI len)) 8 + ac) 8) (ents w))) + (Int32.toInt64 (fwF fs (gr w))))), (3, .int (nI ((ents w)))), (0, .ref x0)]) hx hb dX3_digest_138 rfl hl (by decide) rfl (fun ls hl => ?_)
                    refine lv_ldc2 (v := 31) hx hb hown (hts _ (List.mem_of_getElem? (i := 4) rfl)) dX3_digest_139 ?_
                    refine lv_lload_n hx hb dX3_digest_142 rfl (lv_at hl 0 rfl) ?_
                    refine lv_lmul hx hb dX3_digest_143 ?_
                    refine lv_aload_n hx hb dX3_digest_144 rfl (lv_at hl 2 rfl) ?_
                    refine va_get (D := g.1) (ci := 3) (v := .ref h0) (C := RX3) (T := TX3) (N := 4) hx hb hts in_X3_digest_X3 hown hK hP 0 rfl rfl 1 (by decide) (hts _ (List.mem_of_getElem? (i := 9) rfl)) (fun _ h9 => h9) rfl dX3_digest_145 ?_
                    refine va_get (D := g.1) (ci := 0) (v := .int (nI cnt)) (C := RX0) (T := TX0) (N := 3) hx hb hts in_X3_digest_X0 hown hK hP 5 rfl rfl 0 (by decide) (hts _ (List.mem_of_getElem? (i := 10) rfl)) (fun _ h9 => h9) rfl dX3_digest_148 ?_
                    refine lv_i2l (v := Int32.toInt64 (nI cnt)) hx hb dX3_digest_151 rfl ?_
                    refine lv_ladd hx hb dX3_digest_152 ?_
                    subst hQ
                    exact W.lret (v := ((31 * ((31 * (dI fs (dI fr (31 * dI (numF w fc fs) (118823 + Int32.toInt64 (nI len)) 8 + ac) 8) (ents w))) + (Int32.toInt64 (fwF fs (gr w))))) + (Int32.toInt64 (nI cnt)))) hx hb hr (fun t ht hW => ⟨⟨((31 * ((31 * (dI fs (dI fr (31 * dI (numF w fc fs) (118823 + Int32.toInt64 (nI len)) 8 + ac) 8) (ents w))) + (Int32.toInt64 (fwF fs (gr w))))) + (Int32.toInt64 (nI cnt))), (), rfl, rfl, trivial⟩, hS.F ht⟩) hS.2.2 dX3_digest_153
                  · have n98 : i90 < ents w := Nat.lt_of_not_le (fun h9 => c98 ((nI_leI (a := ents w) (b := i90) (by omega) (by omega)).mpr h9))
                    refine lv_ldc2 (v := 31) hx hb hown (hts _ (List.mem_of_getElem? (i := 4) rfl)) dX3_digest_101 ?_
                    refine lv_lload_n hx hb dX3_digest_104 rfl (lv_at hl 1 rfl) ?_
                    refine lv_lmul hx hb dX3_digest_105 ?_
                    refine lv_aload_n hx hb dX3_digest_106 rfl (lv_at hl 2 rfl) ?_
                    refine va_get (D := g.1) (ci := 3) (v := .ref a0) (C := RX3) (T := TX3) (N := 4) hx hb hts in_X3_digest_X3 hown hK hP 0 rfl rfl 0 (by decide) (hts _ (List.mem_of_getElem? (i := 5) rfl)) (fun _ h9 => h9) rfl dX3_digest_107 ?_
                    refine va_get (D := g.1) (ci := 2) (v := .ref a2) (C := RX2) (T := TX2) (N := 5) hx hb hts in_X3_digest_X2 hown hK hP 1 rfl rfl 3 (by decide) (hts _ (List.mem_of_getElem? (i := 8) rfl)) (fun _ h9 => h9) rfl dX3_digest_110 ?_
                    refine lv_iload_n hx hb dX3_digest_113 rfl (lv_at hl 0 rfl) ?_
                    refine gIald (k := i90) hx hb hE hP 3 rfl (by omega) (by omega) dX3_digest_114 ?_
                    refine lv_i2l (v := Int32.toInt64 (fs i90)) hx hb dX3_digest_115 rfl ?_
                    refine lv_ladd hx hb dX3_digest_116 ?_
                    refine lv_lstore_n (lv' := [(1, .long ((31 * (dI fs (dI fr (31 * dI (numF w fc fs) (118823 + Int32.toInt64 (nI len)) 8 + ac) 8) i90)) + (Int32.toInt64 (fs i90)))), (3, .int (nI i90)), (0, .ref x0)]) hx hb dX3_digest_117 rfl hl (by decide) rfl (fun ls hl => ?_)
                    refine lv_iinc (v := (nI (i90 + 1))) (lv' := [(3, .int (nI (i90 + 1))), (1, .long ((31 * (dI fs (dI fr (31 * dI (numF w fc fs) (118823 + Int32.toInt64 (nI len)) 8 + ac) 8) i90)) + (Int32.toInt64 (fs i90)))), (0, .ref x0)]) hx hb dX3_digest_118 hl (k := 1) rfl (nI_add (i90) 1) (by decide) rfl (fun ls hl => ?_)
                    refine lv_goto (tgt := 90) hx hb dX3_digest_121 (by decide) ?_
                    exact ih90 (i90 + 1) (by omega) (by omega) ((31 * (dI fs (dI fr (31 * dI (numF w fc fs) (118823 + Int32.toInt64 (nI len)) 8 + ac) 8) i90)) + (Int32.toInt64 (fs i90))) rfl _ _ hP hS _ (lv_sub hl [0, 1, 2] rfl)
              exact lp90 (((ents w) - 0) + 1) 0 (Nat.lt_succ_self _) (by omega) (dI fr (31 * dI (numF w fc fs) (118823 + Int32.toInt64 (nI len)) 8 + ac) 8) rfl _ _ hP hS _ (lv_sub hl [0, 1, 2] rfl)
            · have n62 : i59 < 8 := Nat.lt_of_not_le (fun h9 => c62 ((nI_leI (a := 8) (b := i59) (by omega) (by omega)).mpr h9))
              refine lv_ldc2 (v := 31) hx hb hown (hts _ (List.mem_of_getElem? (i := 4) rfl)) dX3_digest_65 ?_
              refine lv_lload_n hx hb dX3_digest_68 rfl (lv_at hl 1 rfl) ?_
              refine lv_lmul hx hb dX3_digest_69 ?_
              refine lv_aload_n hx hb dX3_digest_70 rfl (lv_at hl 2 rfl) ?_
              refine va_get (D := g.1) (ci := 3) (v := .ref a0) (C := RX3) (T := TX3) (N := 4) hx hb hts in_X3_digest_X3 hown hK hP 0 rfl rfl 0 (by decide) (hts _ (List.mem_of_getElem? (i := 5) rfl)) (fun _ h9 => h9) rfl dX3_digest_71 ?_
              refine va_get (D := g.1) (ci := 2) (v := .ref a3) (C := RX2) (T := TX2) (N := 5) hx hb hts in_X3_digest_X2 hown hK hP 1 rfl rfl 4 (by decide) (hts _ (List.mem_of_getElem? (i := 7) rfl)) (fun _ h9 => h9) rfl dX3_digest_74 ?_
              refine lv_iload_n hx hb dX3_digest_77 rfl (lv_at hl 0 rfl) ?_
              refine gIald (k := i59) hx hb hE hP 4 rfl (by omega) (by omega) dX3_digest_78 ?_
              refine lv_i2l (v := Int32.toInt64 (fr i59)) hx hb dX3_digest_79 rfl ?_
              refine lv_ladd hx hb dX3_digest_80 ?_
              refine lv_lstore_n (lv' := [(1, .long ((31 * (dI fr (31 * dI (numF w fc fs) (118823 + Int32.toInt64 (nI len)) 8 + ac) i59)) + (Int32.toInt64 (fr i59)))), (3, .int (nI i59)), (0, .ref x0)]) hx hb dX3_digest_81 rfl hl (by decide) rfl (fun ls hl => ?_)
              refine lv_iinc (v := (nI (i59 + 1))) (lv' := [(3, .int (nI (i59 + 1))), (1, .long ((31 * (dI fr (31 * dI (numF w fc fs) (118823 + Int32.toInt64 (nI len)) 8 + ac) i59)) + (Int32.toInt64 (fr i59)))), (0, .ref x0)]) hx hb dX3_digest_82 hl (k := 1) rfl (nI_add (i59) 1) (by decide) rfl (fun ls hl => ?_)
              refine lv_goto (tgt := 59) hx hb dX3_digest_85 (by decide) ?_
              exact ih59 (i59 + 1) (by omega) (by omega) ((31 * (dI fr (31 * dI (numF w fc fs) (118823 + Int32.toInt64 (nI len)) 8 + ac) i59)) + (Int32.toInt64 (fr i59))) rfl _ _ hP hS _ (lv_sub hl [0, 1, 2] rfl)
        exact lp59 ((8 - 0) + 1) 0 (Nat.lt_succ_self _) (by omega) ((31 * (dI (numF w fc fs) (118823 + Int32.toInt64 (nI len)) 8)) + ac) rfl _ _ hP hS _ (lv_sub hl [0, 1, 2] rfl)
      · have n18 : i15 ≤ 7 := Nat.le_of_not_lt (fun h9 => c18 ((nI_ltI (a := 7) (b := i15) (by omega) (by omega)).mpr h9))
        refine lv_ldc2 (v := 31) hx hb hown (hts _ (List.mem_of_getElem? (i := 4) rfl)) dX3_digest_21 ?_
        refine lv_lload_n hx hb dX3_digest_24 rfl (lv_at hl 1 rfl) ?_
        refine lv_lmul hx hb dX3_digest_25 ?_
        refine lv_aload_n hx hb dX3_digest_26 rfl (lv_at hl 2 rfl) ?_
        refine va_get (D := g.1) (ci := 3) (v := .ref a0) (C := RX3) (T := TX3) (N := 4) hx hb hts in_X3_digest_X3 hown hK hP 0 rfl rfl 0 (by decide) (hts _ (List.mem_of_getElem? (i := 5) rfl)) (fun _ h9 => h9) rfl dX3_digest_27 ?_
        refine lv_iload_n hx hb dX3_digest_30 rfl (lv_at hl 0 rfl) ?_
        refine kRi (va_runV (As := [.int (nI i15)]) (rest := [.long (31 * (dI (numF w fc fs) (118823 + Int32.toInt64 (nI len)) i15))]) ⟨hx, hb, hml, hown, hts⟩ (c_X2_number l g a0 a1 a2 a3 w ac fc fs fr i15 (by first | assumption | omega | exact Nat.le_of_ble_eq_true rfl) (by first | assumption | omega | exact Nat.le_of_ble_eq_true rfl)) (cwV 1 hts gX3_digest_X2_number rfl rfl rfl (by decide +kernel) ⟨(Nat.le_of_ble_eq_true rfl), (Nat.le_of_ble_eq_true rfl)⟩) (preV (RX2, TX2, 5) hE hP [1, 2, 3, 4] rfl rfl) rfl rfl hl.1 rfl (lv_room (Nat.le_of_ble_eq_true rfl)) dX3_digest_31 ⟨(Nat.le_of_ble_eq_true rfl), (Nat.le_of_ble_eq_true rfl)⟩) hP hS (fun r9 H locs hr9 hP hS => ?_)
        subst hr9
        refine lv_i2l (v := Int32.toInt64 (numF w fc fs i15)) hx hb dX3_digest_34 rfl ?_
        refine lv_ladd hx hb dX3_digest_35 ?_
        refine lv_lstore_n (lv' := [(1, .long ((31 * (dI (numF w fc fs) (118823 + Int32.toInt64 (nI len)) i15)) + (Int32.toInt64 (numF w fc fs i15)))), (3, .int (nI i15)), (0, .ref x0)]) hx hb dX3_digest_36 rfl hl (by decide) rfl (fun ls hl => ?_)
        refine lv_iinc (v := (nI (i15 + 1))) (lv' := [(3, .int (nI (i15 + 1))), (1, .long ((31 * (dI (numF w fc fs) (118823 + Int32.toInt64 (nI len)) i15)) + (Int32.toInt64 (numF w fc fs i15)))), (0, .ref x0)]) hx hb dX3_digest_37 hl (k := 1) rfl (nI_add (i15) 1) (by decide) rfl (fun ls hl => ?_)
        refine lv_goto (tgt := 15) hx hb dX3_digest_40 (by decide) ?_
        exact ih15 (i15 + 1) (by omega) (by omega) ((31 * (dI (numF w fc fs) (118823 + Int32.toInt64 (nI len)) i15)) + (Int32.toInt64 (numF w fc fs i15))) rfl _ _ hP hS _ (lv_sub hl [0, 1, 2] rfl)
  exact lp15 ((8 - 0) + 1) 0 (Nat.lt_succ_self _) (by omega) (118823 + (Int32.toInt64 (nI len))) rfl _ _ hP hS _ (lv_sub hl [0, 1, 2] rfl)
