/-! MODEL, its reading methods: printed by wip/whole/gen/spec_model.py -/
theorem in_X4_thrown_X4 : ∀ w ∈ wsX40, w ∈ wsX4_thrown := by decide +kernel
abbrev rm_X4_thrown : Room := { frames := 0, cells := 0, slots := 0, locals := 0 }
set_option maxRecDepth 100000 in
set_option maxHeartbeats 4000000 in
theorem c_X4_thrown (l : Launch) (g : GT) (m0 : Nat) (m1 : Nat) (m2 : Nat) (m3 : Nat) (m4 : Nat) (m5 : Nat) (ma : Int64) (np : Nat) (ln : Nat) (th : Int32) (at_ : Nat) (hs : Int64) : cRi l g yX4_thrown wsX4_thrown rm_X4_thrown [.ref m0] [(m0, .inr (4, [.ref m1, .long ma, .ref m2, .ref m3, .int (nI np), .ref m4, .int (nI ln), .int th, .ref m5, .int (nI at_), .long hs]))] (fun r => r = th) := by
  refine enR (y := yX4_thrown) (ws := wsX4_thrown) (av := [.ref m0]) (cc := cX4_thrown) (maxL := 1) (ret := (some .int)) (by decide) rfl (Nat.le_of_ble_eq_true rfl) rfl ?_
  intro p e s m below meth c ls hx hb hr hml hown hts hlocks hE hP hl
  have hK := hE.1
  have hS : va_S noA s.heap s.heap [] := va_S.rf
  generalize hQ : MQ below _ _ s _ _ _ = Q9
  have hl : lv_has ls 1 [(0, .ref m0)] := hl
  refine lv_aload_n hx hb dX4_thrown_0 rfl (lv_at hl 0 rfl) ?_
  refine va_get (D := g.1) (ci := 4) (v := .int th) (C := RX4) (T := TX4) (N := 11) hx hb hts in_X4_thrown_X4 hown hK hP 0 rfl rfl 7 (by decide) (hts _ (List.mem_of_getElem? (i := 1) rfl)) (fun _ h9 => h9) rfl dX4_thrown_1 ?_
  subst hQ
  exact W.iret (v := th) hx hb hr (fun t ht hW => ⟨⟨th, (), rfl, rfl, trivial⟩, hS.F ht⟩) hS.2.2 dX4_thrown_4
abbrev rm_X4_in : Room := { frames := 0, cells := 0, slots := 0, locals := 0 }
set_option maxRecDepth 100000 in
set_option maxHeartbeats 4000000 in
theorem c_X4_in (l : Launch) (g : GT) (v : Int32) (lo : Int32) (hi : Int32) : cRi l g yX4_in wsX4_in rm_X4_in [.int v, .int lo, .int hi] [] (fun r => r = (if okR lo hi v then (1 : Int32) else 0)) := by
  refine enR (y := yX4_in) (ws := wsX4_in) (av := [.int v, .int lo, .int hi]) (cc := cX4_in) (maxL := 3) (ret := (some .boolean)) (by decide) rfl (Nat.le_of_ble_eq_true rfl) rfl ?_
  intro p e s m below meth c ls hx hb hr hml hown hts hlocks hE hP hl
  have hK := hE.1
  have hS : va_S noA s.heap s.heap [] := va_S.rf
  generalize hQ : MQ below _ _ s _ _ _ = Q9
  have hl : lv_has ls 3 [(0, .int v), (1, .int lo), (2, .int hi)] := hl
  refine lv_iload_n hx hb dX4_in_0 rfl (lv_at hl 0 rfl) ?_
  refine lv_iload_n hx hb dX4_in_1 rfl (lv_at hl 1 rfl) ?_
  refine lv_icmp_lt (tgt := 14) hx hb dX4_in_2 (by decide) (fun c2 => ?_) (fun c2 => ?_)
  · refine lv_iconst (v := 0) hx hb dX4_in_14 (by decide) ?_
    subst hQ
    exact W.zret (v := 0) hx hb hr rfl (fun t ht hW => ⟨⟨0, (), rfl, by first | exact (if_pos ⟨Int32.not_lt.mp c2, Int32.not_lt.mp c7⟩).symm | exact (if_neg (fun h => absurd h.1 (Int32.not_le.mpr c2))).symm | exact (if_neg (fun h => absurd h.2 (Int32.not_le.mpr c7))).symm, trivial⟩, hS.F ht⟩) hS.2.2 dX4_in_15
  · refine lv_iload_n hx hb dX4_in_5 rfl (lv_at hl 0 rfl) ?_
    refine lv_iload_n hx hb dX4_in_6 rfl (lv_at hl 2 rfl) ?_
    refine lv_icmp_gt (tgt := 14) hx hb dX4_in_7 (by decide) (fun c7 => ?_) (fun c7 => ?_)
    · refine lv_iconst (v := 0) hx hb dX4_in_14 (by decide) ?_
      subst hQ
      exact W.zret (v := 0) hx hb hr rfl (fun t ht hW => ⟨⟨0, (), rfl, by first | exact (if_pos ⟨Int32.not_lt.mp c2, Int32.not_lt.mp c7⟩).symm | exact (if_neg (fun h => absurd h.1 (Int32.not_le.mpr c2))).symm | exact (if_neg (fun h => absurd h.2 (Int32.not_le.mpr c7))).symm, trivial⟩, hS.F ht⟩) hS.2.2 dX4_in_15
    · refine lv_iconst (v := 1) hx hb dX4_in_10 (by decide) ?_
      refine lv_goto (tgt := 15) hx hb dX4_in_11 (by decide) ?_
      subst hQ
      exact W.zret (v := 1) hx hb hr rfl (fun t ht hW => ⟨⟨1, (), rfl, by first | exact (if_pos ⟨Int32.not_lt.mp c2, Int32.not_lt.mp c7⟩).symm | exact (if_neg (fun h => absurd h.1 (Int32.not_le.mpr c2))).symm | exact (if_neg (fun h => absurd h.2 (Int32.not_le.mpr c7))).symm, trivial⟩, hS.F ht⟩) hS.2.2 dX4_in_15
theorem in_X4_fails_X4 : ∀ w ∈ wsX40, w ∈ wsX4_fails := by decide +kernel
abbrev rm_X4_fails : Room := { frames := 0, cells := 0, slots := 0, locals := 0 }
set_option maxRecDepth 100000 in
set_option maxHeartbeats 4000000 in
theorem c_X4_fails (l : Launch) (g : GT) (m0 : Nat) (m1 : Nat) (m2 : Nat) (m3 : Nat) (m4 : Nat) (m5 : Nat) (ma : Int64) (np : Nat) (ln : Nat) (th : Int32) (at_ : Nat) (hs : Int64) (tq : Int32) : cUi l g yX4_fails wsX4_fails rm_X4_fails [.ref m0, .int tq] [(m0, .inr (4, [.ref m1, .long ma, .ref m2, .ref m3, .int (nI np), .ref m4, .int (nI ln), .int th, .ref m5, .int (nI at_), .long hs]))] (fun r (_ : Unit) => r = 0) (fun _ => [(m0, .inr (4, [.ref m1, .long ma, .ref m2, .ref m3, .int (nI np), .ref m4, .int (nI ln), .int tq, .ref m5, .int (nI at_), .long hs]))]) := by
  refine enU (y := yX4_fails) (ws := wsX4_fails) (av := [.ref m0, .int tq]) (cc := cX4_fails) (maxL := 2) (ret := (some .int)) (by decide) rfl (Nat.le_of_ble_eq_true rfl) rfl ?_
  intro p e s m below meth c ls hx hb hr hml hown hts hlocks hE hP hD hl
  have hK := hE.1
  have hS : va_S (va_Ad [(m0, .inr (4, [.ref m1, .long ma, .ref m2, .ref m3, .int (nI np), .ref m4, .int (nI ln), .int th, .ref m5, .int (nI at_), .long hs]))]) s.heap s.heap [] := va_S.rf
  generalize hQ : MQ below _ _ s _ _ _ = Q9
  have hl : lv_has ls 2 [(0, .ref m0), (1, .int tq)] := hl
  refine lv_aload_n hx hb dX4_fails_0 rfl (lv_at hl 0 rfl) ?_
  refine lv_iload_n hx hb dX4_fails_1 rfl (lv_at hl 1 rfl) ?_
  refine va_put (D := g.1) (ci := 4) (v := .int tq) (ty := .int) (C := RX4) (T := TX4) (N := 11) hx hb hts in_X4_fails_X4 tyX4 tyX4_ok nmX4 hown hK hP hD hS 0 rfl rfl 7 (by decide) (hts _ (List.mem_of_getElem? (i := 1) rfl)) (fun _ h9 => h9) rfl (by decide +kernel) rfl rfl (Nat.le_of_ble_eq_true rfl) dX4_fails_2 (fun H locs hP hD hS => ?_)
  have hP : va_P g.1 vwCl [(m0, .inr (4, [.ref m1, .long ma, .ref m2, .ref m3, .int (nI np), .ref m4, .int (nI ln), .int tq, .ref m5, .int (nI at_), .long hs]))] _ := hP
  have hD : va_D (va_Ad [(m0, .inr (4, [.ref m1, .long ma, .ref m2, .ref m3, .int (nI np), .ref m4, .int (nI ln), .int th, .ref m5, .int (nI at_), .long hs]))]) [(m0, .inr (4, [.ref m1, .long ma, .ref m2, .ref m3, .int (nI np), .ref m4, .int (nI ln), .int tq, .ref m5, .int (nI at_), .long hs]))] := hD
  refine lv_iconst (v := 0) hx hb dX4_fails_5 (by decide) ?_
  subst hQ
  have hP9 : va_P g.1 vwCl [(m0, .inr (4, [.ref m1, .long ma, .ref m2, .ref m3, .int (nI np), .ref m4, .int (nI ln), .int tq, .ref m5, .int (nI at_), .long hs]))] H := hP
  exact W.iret (v := 0) hx hb hr (fun t ht hW => ⟨⟨0, (), rfl, rfl, by show va_P g.1 vwCl _ t.heap; rw [ht]; exact hP9⟩, hS.F ht⟩) hS.2.2 dX4_fails_6
theorem in_X4_tells_X4 : ∀ w ∈ wsX40, w ∈ wsX4_tells := by decide +kernel
abbrev rm_X4_tells : Room := { frames := 0, cells := 0, slots := 0, locals := 0 }
set_option maxRecDepth 100000 in
set_option maxHeartbeats 4000000 in
theorem c_X4_tells (l : Launch) (g : GT) (m0 : Nat) (m1 : Nat) (m2 : Nat) (m3 : Nat) (m4 : Nat) (m5 : Nat) (ma : Int64) (np : Nat) (ln : Nat) (th : Int32) (at_ : Nat) (hs : Int64) (tq : Int32) : cUi l g yX4_tells wsX4_tells rm_X4_tells [.ref m0, .int tq] [(m0, .inr (4, [.ref m1, .long ma, .ref m2, .ref m3, .int (nI np), .ref m4, .int (nI ln), .int th, .ref m5, .int (nI at_), .long hs]))] (fun r (_ : Unit) => r = tq) (fun _ => [(m0, .inr (4, [.ref m1, .long ma, .ref m2, .ref m3, .int (nI np), .ref m4, .int (nI ln), .int 0, .ref m5, .int (nI at_), .long hs]))]) := by
  refine enU (y := yX4_tells) (ws := wsX4_tells) (av := [.ref m0, .int tq]) (cc := cX4_tells) (maxL := 2) (ret := (some .int)) (by decide) rfl (Nat.le_of_ble_eq_true rfl) rfl ?_
  intro p e s m below meth c ls hx hb hr hml hown hts hlocks hE hP hD hl
  have hK := hE.1
  have hS : va_S (va_Ad [(m0, .inr (4, [.ref m1, .long ma, .ref m2, .ref m3, .int (nI np), .ref m4, .int (nI ln), .int th, .ref m5, .int (nI at_), .long hs]))]) s.heap s.heap [] := va_S.rf
  generalize hQ : MQ below _ _ s _ _ _ = Q9
  have hl : lv_has ls 2 [(0, .ref m0), (1, .int tq)] := hl
  refine lv_aload_n hx hb dX4_tells_0 rfl (lv_at hl 0 rfl) ?_
  refine lv_iconst (v := 0) hx hb dX4_tells_1 (by decide) ?_
  refine va_put (D := g.1) (ci := 4) (v := .int 0) (ty := .int) (C := RX4) (T := TX4) (N := 11) hx hb hts in_X4_tells_X4 tyX4 tyX4_ok nmX4 hown hK hP hD hS 0 rfl rfl 7 (by decide) (hts _ (List.mem_of_getElem? (i := 1) rfl)) (fun _ h9 => h9) rfl (by decide +kernel) rfl rfl (Nat.le_of_ble_eq_true rfl) dX4_tells_2 (fun H locs hP hD hS => ?_)
  have hP : va_P g.1 vwCl [(m0, .inr (4, [.ref m1, .long ma, .ref m2, .ref m3, .int (nI np), .ref m4, .int (nI ln), .int 0, .ref m5, .int (nI at_), .long hs]))] _ := hP
  have hD : va_D (va_Ad [(m0, .inr (4, [.ref m1, .long ma, .ref m2, .ref m3, .int (nI np), .ref m4, .int (nI ln), .int th, .ref m5, .int (nI at_), .long hs]))]) [(m0, .inr (4, [.ref m1, .long ma, .ref m2, .ref m3, .int (nI np), .ref m4, .int (nI ln), .int 0, .ref m5, .int (nI at_), .long hs]))] := hD
  refine lv_iload_n hx hb dX4_tells_5 rfl (lv_at hl 1 rfl) ?_
  subst hQ
  have hP9 : va_P g.1 vwCl [(m0, .inr (4, [.ref m1, .long ma, .ref m2, .ref m3, .int (nI np), .ref m4, .int (nI ln), .int 0, .ref m5, .int (nI at_), .long hs]))] H := hP
  exact W.iret (v := tq) hx hb hr (fun t ht hW => ⟨⟨tq, (), rfl, rfl, by show va_P g.1 vwCl _ t.heap; rw [ht]; exact hP9⟩, hS.F ht⟩) hS.2.2 dX4_tells_6
theorem in_X4_top_X4 : ∀ w ∈ wsX40, w ∈ wsX4_top := by decide +kernel
abbrev rm_X4_top : Room := { frames := 0, cells := 0, slots := 0, locals := 0 }
set_option maxRecDepth 100000 in
set_option maxHeartbeats 4000000 in
theorem c_X4_top (l : Launch) (g : GT) (m0 : Nat) (m1 : Nat) (m2 : Nat) (m3 : Nat) (m4 : Nat) (m5 : Nat) (ma : Int64) (np : Nat) (ln : Nat) (th : Int32) (at_ : Nat) (hs : Int64) (rw : Nat → Int32) (w : Nat) (hw8 : w ≤ 8) (hrw : rw 0 = nI w) : cRi l g yX4_top wsX4_top rm_X4_top [.ref m0] [(m0, .inr (4, [.ref m1, .long ma, .ref m2, .ref m3, .int (nI np), .ref m4, .int (nI ln), .int th, .ref m5, .int (nI at_), .long hs])), (m1, .inl (g.2.1 0, 523, .inl rw))] (fun r => r = (nI (gr w))) := by
  refine enR (y := yX4_top) (ws := wsX4_top) (av := [.ref m0]) (cc := cX4_top) (maxL := 1) (ret := (some .int)) (by decide) rfl (Nat.le_of_ble_eq_true rfl) rfl ?_
  intro p e s m below meth c ls hx hb hr hml hown hts hlocks hE hP hl
  have hK := hE.1
  have hS : va_S noA s.heap s.heap [] := va_S.rf
  generalize hQ : MQ below _ _ s _ _ _ = Q9
  have hl : lv_has ls 1 [(0, .ref m0)] := hl
  refine lv_iconst (v := 1) hx hb dX4_top_0 (by decide) ?_
  refine lv_aload_n hx hb dX4_top_1 rfl (lv_at hl 0 rfl) ?_
  refine va_get (D := g.1) (ci := 4) (v := .ref m1) (C := RX4) (T := TX4) (N := 11) hx hb hts in_X4_top_X4 hown hK hP 0 rfl rfl 0 (by decide) (hts _ (List.mem_of_getElem? (i := 1) rfl)) (fun _ h9 => h9) rfl dX4_top_2 ?_
  refine lv_iconst (v := 0) hx hb dX4_top_5 (by decide) ?_
  refine lv_tope (y := (nI 0)) rfl ?_
  refine gIald (k := 0) hx hb hE hP 1 rfl (by omega) (by omega) dX4_top_6 ?_
  refine lv_tope (y := (nI w)) hrw ?_
  refine lv_ishl hx hb dX4_top_7 ?_
  refine lv_iconst (v := 1) hx hb dX4_top_8 (by decide) ?_
  refine lv_isub hx hb dX4_top_9 ?_
  refine lv_tope (y := (nI (gr w))) (gr_e w hw8) ?_
  subst hQ
  exact W.iret (v := (nI (gr w))) hx hb hr (fun t ht hW => ⟨⟨(nI (gr w)), (), rfl, rfl, trivial⟩, hS.F ht⟩) hS.2.2 dX4_top_10
abbrev rm_X4_entries : Room := { frames := 1, cells := 0, slots := 0, locals := 20 }
set_option maxRecDepth 100000 in
set_option maxHeartbeats 4000000 in
theorem c_X4_entries (l : Launch) (g : GT) (m0 : Nat) (m1 : Nat) (m2 : Nat) (m3 : Nat) (m4 : Nat) (m5 : Nat) (ma : Int64) (np : Nat) (ln : Nat) (th : Int32) (at_ : Nat) (hs : Int64) (rw : Nat → Int32) (w : Nat) (hw8 : w ≤ 8) (hrw : rw 0 = nI w) : cRi l g yX4_entries wsX4_entries rm_X4_entries [.ref m0] [(m0, .inr (4, [.ref m1, .long ma, .ref m2, .ref m3, .int (nI np), .ref m4, .int (nI ln), .int th, .ref m5, .int (nI at_), .long hs])), (m1, .inl (g.2.1 0, 523, .inl rw))] (fun r => r = (nI (ents w))) := by
  refine enR (y := yX4_entries) (ws := wsX4_entries) (av := [.ref m0]) (cc := cX4_entries) (maxL := 1) (ret := (some .int)) (by decide) rfl (Nat.le_of_ble_eq_true rfl) rfl ?_
  intro p e s m below meth c ls hx hb hr hml hown hts hlocks hE hP hl
  have hK := hE.1
  have hS : va_S noA s.heap s.heap [] := va_S.rf
  generalize hQ : MQ below _ _ s _ _ _ = Q9
  have hl : lv_has ls 1 [(0, .ref m0)] := hl
  refine lv_iconst (v := 2) hx hb dX4_entries_0 (by decide) ?_
  refine lv_aload_n hx hb dX4_entries_1 rfl (lv_at hl 0 rfl) ?_
  refine kRi (va_runV (As := []) (rest := [.int 2]) ⟨hx, hb, hml, hown, hts⟩ (c_X4_top l g m0 m1 m2 m3 m4 m5 ma np ln th at_ hs rw w (by first | assumption | omega | exact Nat.le_of_ble_eq_true rfl) (by first | assumption | omega | exact Nat.le_of_ble_eq_true rfl)) (cwV 0 hts gX4_entries_X4_top rfl rfl rfl (by decide +kernel) ⟨(Nat.le_of_ble_eq_true rfl), (Nat.le_of_ble_eq_true rfl)⟩) (preV (RX4, TX4, 11) hE hP [0, 1] rfl rfl) rfl rfl hl.1 rfl (lv_room (Nat.le_of_ble_eq_true rfl)) dX4_entries_2 ⟨(Nat.le_of_ble_eq_true rfl), (Nat.le_of_ble_eq_true rfl)⟩) hP hS (fun r9 H locs hr9 hP hS => ?_)
  subst hr9
  refine lv_imul hx hb dX4_entries_5 ?_
  refine lv_tope (y := (nI (2 * (gr w)))) (show (2 * (nI (gr w)) : Int32) = nI (2 * (gr w)) from pk_mul (2) (gr w)) ?_
  refine lv_iconst (v := 1) hx hb dX4_entries_6 (by decide) ?_
  refine lv_iadd hx hb dX4_entries_7 ?_
  refine lv_tope (y := (nI (ents w))) (nI_add (2 * gr w) 1) ?_
  subst hQ
  exact W.iret (v := (nI (ents w))) hx hb hr (fun t ht hW => ⟨⟨(nI (ents w)), (), rfl, rfl, trivial⟩, hS.F ht⟩) hS.2.2 dX4_entries_8
abbrev rm_X4_truth : Room := { frames := 0, cells := 0, slots := 0, locals := 0 }
set_option maxRecDepth 100000 in
set_option maxHeartbeats 4000000 in
theorem c_X4_truth (l : Launch) (g : GT) (n : Nat) (hn : n < 1024) : cRi l g yX4_truth wsX4_truth rm_X4_truth [.int (nI n)] [] (fun r => r = (tv n)) := by
  refine enR (y := yX4_truth) (ws := wsX4_truth) (av := [.int (nI n)]) (cc := cX4_truth) (maxL := 1) (ret := (some .int)) (by decide) rfl (Nat.le_of_ble_eq_true rfl) rfl ?_
  intro p e s m below meth c ls hx hb hr hml hown hts hlocks hE hP hl
  have hK := hE.1
  have hS : va_S noA s.heap s.heap [] := va_S.rf
  generalize hQ : MQ below _ _ s _ _ _ = Q9
  have hl : lv_has ls 1 [(0, .int (nI n))] := hl
  refine lv_iload_n hx hb dX4_truth_0 rfl (lv_at hl 0 rfl) ?_
  refine lv_iload_n hx hb dX4_truth_1 rfl (lv_at hl 0 rfl) ?_
  refine lv_imul hx hb dX4_truth_2 ?_
  refine lv_tope (y := (nI (n * n))) (show ((nI n) * (nI n) : Int32) = nI (n * n) from pk_mul (n) (n)) ?_
  refine lv_iconst (v := 4) hx hb dX4_truth_3 (by decide) ?_
  refine lv_idiv hx hb dX4_truth_4 (by decide) ?_
  refine lv_tope (y := (tv n)) (tv_e hn) ?_
  subst hQ
  exact W.iret (v := (tv n)) hx hb hr (fun t ht hW => ⟨⟨(tv n), (), rfl, rfl, trivial⟩, hS.F ht⟩) hS.2.2 dX4_truth_5
abbrev rm_X4_ones : Room := { frames := 0, cells := 0, slots := 0, locals := 0 }
set_option maxRecDepth 100000 in
set_option maxHeartbeats 4000000 in
theorem c_X4_ones (l : Launch) (g : GT) (v : Int32) : cRi l g yX4_ones wsX4_ones rm_X4_ones [.int v] [] (fun r => r = (onF v)) := by
  refine enR (y := yX4_ones) (ws := wsX4_ones) (av := [.int v]) (cc := cX4_ones) (maxL := 3) (ret := (some .int)) (by decide) rfl (Nat.le_of_ble_eq_true rfl) rfl ?_
  intro p e s m below meth c ls hx hb hr hml hown hts hlocks hE hP hl
  have hK := hE.1
  have hS : va_S noA s.heap s.heap [] := va_S.rf
  generalize hQ : MQ below _ _ s _ _ _ = Q9
  have hl : lv_has ls 3 [(0, .int v)] := hl
  refine lv_iconst (v := 0) hx hb dX4_ones_0 (by decide) ?_
  refine lv_istore_n (lv' := [(1, .int 0), (0, .int v)]) hx hb dX4_ones_1 rfl hl (by decide) rfl (fun ls hl => ?_)
  refine lv_iconst (v := 0) hx hb dX4_ones_2 (by decide) ?_
  refine lv_istore_n (lv' := [(2, .int 0), (1, .int 0), (0, .int v)]) hx hb dX4_ones_3 rfl hl (by decide) rfl (fun ls hl => ?_)
  have lp4 : ∀ (n9 : Nat) (k : Nat), 17 - k < n9 → (k ≤ 17) → ∀ (z1 : Int32), z1 = sI (btF v) k → ∀ (H : Heap) (locs : List Loc), va_P g.1 vwCl [] H → va_S noA s.heap H locs → ∀ (ls : Array Slot), lv_has ls 3 [(2, .int (nI k)), (1, .int z1), (0, .int v)] → W p l e rm_X4_ones s m [Value.int v].toArray below meth c H locs 0 0 Q9 (F0 m 4 ls []) := by
    intro n9
    induction n9 with
    | zero => intro k h9; exact absurd h9 (Nat.not_lt_zero _)
    | succ n9 ih4 =>
      intro k hm4 hk
      intro z1 e_z1; subst e_z1
      intro H locs hP hS ls hl
      refine lv_iload_n hx hb dX4_ones_4 rfl (lv_at hl 0 rfl) ?_
      refine lv_bipush (v := 17) hx hb dX4_ones_5 (by decide) ?_
      refine lv_icmp_ge (tgt := 24) hx hb dX4_ones_7 (by decide) (fun c7 => ?_) (fun c7 => ?_)
      · have n7 : 17 ≤ k := (nI_leI (a := 17) (b := k) (by omega) (by omega)).mp c7
        have e9 : k = 17 := by omega
        refine lv_iload_n hx hb dX4_ones_24 rfl (lv_at hl 1 rfl) ?_
        subst hQ
        exact W.iret (v := (sI (btF v) k)) hx hb hr (fun t ht hW => ⟨⟨(sI (btF v) k), (), rfl, by rw [e9]; rfl, trivial⟩, hS.F ht⟩) hS.2.2 dX4_ones_25
      · have n7 : k < 17 := Nat.lt_of_not_le (fun h9 => c7 ((nI_leI (a := 17) (b := k) (by omega) (by omega)).mpr h9))
        refine lv_iload_n hx hb dX4_ones_10 rfl (lv_at hl 1 rfl) ?_
        refine lv_iload_n hx hb dX4_ones_11 rfl (lv_at hl 2 rfl) ?_
        refine lv_iload_n hx hb dX4_ones_12 rfl (lv_at hl 0 rfl) ?_
        refine lv_ishr hx hb dX4_ones_13 ?_
        refine lv_iconst (v := 1) hx hb dX4_ones_14 (by decide) ?_
        refine lv_iand hx hb dX4_ones_15 ?_
        refine lv_iadd hx hb dX4_ones_16 ?_
        refine lv_istore_n (lv' := [(1, .int ((sI (btF v) k) + ((v >>> ((nI k) &&& 31)) &&& 1))), (2, .int (nI k)), (0, .int v)]) hx hb dX4_ones_17 rfl hl (by decide) rfl (fun ls hl => ?_)
        refine lv_iinc (v := (nI (k + 1))) (lv' := [(2, .int (nI (k + 1))), (1, .int ((sI (btF v) k) + ((v >>> ((nI k) &&& 31)) &&& 1))), (0, .int v)]) hx hb dX4_ones_18 hl (k := 1) rfl (nI_add (k) 1) (by decide) rfl (fun ls hl => ?_)
        refine lv_goto (tgt := 4) hx hb dX4_ones_21 (by decide) ?_
        exact ih4 (k + 1) (by omega) (by omega) ((sI (btF v) k) + ((v >>> ((nI k) &&& 31)) &&& 1)) rfl _ _ hP hS _ (lv_sub hl [0, 1, 2] rfl)
  exact lp4 ((17 - 0) + 1) 0 (Nat.lt_succ_self _) (by omega) 0 rfl _ _ hP hS _ (lv_sub hl [0, 1, 2] rfl)
theorem in_X4_wrongBits_X4 : ∀ w ∈ wsX40, w ∈ wsX4_wrongBits := by decide +kernel
abbrev rm_X4_wrongBits : Room := { frames := 1, cells := 0, slots := 0, locals := 22 }
set_option maxRecDepth 100000 in
set_option maxHeartbeats 4000000 in
theorem c_X4_wrongBits (l : Launch) (g : GT) (m0 : Nat) (m1 : Nat) (m2 : Nat) (m3 : Nat) (m4 : Nat) (m5 : Nat) (ma : Int64) (np : Nat) (ln : Nat) (th : Int32) (at_ : Nat) (hs : Int64) (rw : Nat → Int32) (w : Nat) (n : Nat) (hn : n < 511) : cRi l g yX4_wrongBits wsX4_wrongBits rm_X4_wrongBits [.ref m0, .int (nI n)] [(m0, .inr (4, [.ref m1, .long ma, .ref m2, .ref m3, .int (nI np), .ref m4, .int (nI ln), .int th, .ref m5, .int (nI at_), .long hs])), (m1, .inl (g.2.1 0, 523, .inl rw))] (fun r => r = (mwF rw n)) := by
  refine enR (y := yX4_wrongBits) (ws := wsX4_wrongBits) (av := [.ref m0, .int (nI n)]) (cc := cX4_wrongBits) (maxL := 2) (ret := (some .int)) (by decide) rfl (Nat.le_of_ble_eq_true rfl) rfl ?_
  intro p e s m below meth c ls hx hb hr hml hown hts hlocks hE hP hl
  have hK := hE.1
  have hS : va_S noA s.heap s.heap [] := va_S.rf
  generalize hQ : MQ below _ _ s _ _ _ = Q9
  have hl : lv_has ls 2 [(0, .ref m0), (1, .int (nI n))] := hl
  refine lv_aload_n hx hb dX4_wrongBits_0 rfl (lv_at hl 0 rfl) ?_
  refine va_get (D := g.1) (ci := 4) (v := .ref m1) (C := RX4) (T := TX4) (N := 11) hx hb hts in_X4_wrongBits_X4 hown hK hP 0 rfl rfl 0 (by decide) (hts _ (List.mem_of_getElem? (i := 1) rfl)) (fun _ h9 => h9) rfl dX4_wrongBits_1 ?_
  refine lv_bipush (v := 12) hx hb dX4_wrongBits_4 (by decide) ?_
  refine lv_iload_n hx hb dX4_wrongBits_6 rfl (lv_at hl 1 rfl) ?_
  refine lv_iadd hx hb dX4_wrongBits_7 ?_
  refine lv_tope (y := (nI (12 + n))) (show (12 + (nI n) : Int32) = nI (12 + n) from nI_add (12) (n)) ?_
  refine gIald (k := (12 + n)) hx hb hE hP 1 rfl (by omega) (by omega) dX4_wrongBits_8 ?_
  refine lv_iload_n hx hb dX4_wrongBits_9 rfl (lv_at hl 1 rfl) ?_
  refine kRi (va_runS (As := [.int (nI n)]) (rest := [.int (rw (12 + n))]) ⟨hx, hb, hml, hown, hts⟩ (c_X4_truth l g n (by first | assumption | omega | exact Nat.le_of_ble_eq_true rfl)) (va_cwS 1 hts gX4_wrongBits_X4_truth rfl rfl rfl (by decide +kernel) ⟨(Nat.le_of_ble_eq_true rfl), (Nat.le_of_ble_eq_true rfl)⟩) (preS hE hP [] rfl) rfl rfl hl.1 rfl (lv_room (Nat.le_of_ble_eq_true rfl)) dX4_wrongBits_10 ⟨(Nat.le_of_ble_eq_true rfl), (Nat.le_of_ble_eq_true rfl)⟩) hP hS (fun r9 H locs hr9 hP hS => ?_)
  subst hr9
  refine lv_ixor hx hb dX4_wrongBits_13 ?_
  refine kRi (va_runS (As := [.int ((rw (12 + n)) ^^^ (tv n))]) (rest := []) ⟨hx, hb, hml, hown, hts⟩ (c_X4_ones l g ((rw (12 + n)) ^^^ (tv n))) (va_cwS 1 hts gX4_wrongBits_X4_ones rfl rfl rfl (by decide +kernel) ⟨(Nat.le_of_ble_eq_true rfl), (Nat.le_of_ble_eq_true rfl)⟩) (preS hE hP [] rfl) rfl rfl hl.1 rfl (lv_room (Nat.le_of_ble_eq_true rfl)) dX4_wrongBits_14 ⟨(Nat.le_of_ble_eq_true rfl), (Nat.le_of_ble_eq_true rfl)⟩) hP hS (fun r9 H locs hr9 hP hS => ?_)
  subst hr9
  subst hQ
  exact W.iret (v := (onF ((rw (12 + n)) ^^^ (tv n)))) hx hb hr (fun t ht hW => ⟨⟨(onF ((rw (12 + n)) ^^^ (tv n))), (), rfl, rfl, trivial⟩, hS.F ht⟩) hS.2.2 dX4_wrongBits_17
abbrev rm_X4_isFound : Room := { frames := 2, cells := 0, slots := 0, locals := 43 }
set_option maxRecDepth 100000 in
set_option maxHeartbeats 4000000 in
theorem c_X4_isFound (l : Launch) (g : GT) (m0 : Nat) (m1 : Nat) (m2 : Nat) (m3 : Nat) (m4 : Nat) (m5 : Nat) (ma : Int64) (np : Nat) (ln : Nat) (th : Int32) (at_ : Nat) (hs : Int64) (rw : Nat → Int32) (w : Nat) (n : Nat) (hn : n < 511) : cRi l g yX4_isFound wsX4_isFound rm_X4_isFound [.ref m0, .int (nI n)] [(m0, .inr (4, [.ref m1, .long ma, .ref m2, .ref m3, .int (nI np), .ref m4, .int (nI ln), .int th, .ref m5, .int (nI at_), .long hs])), (m1, .inl (g.2.1 0, 523, .inl rw))] (fun r => r = (if fdP (mwF rw n) then (1 : Int32) else 0)) := by
  refine enR (y := yX4_isFound) (ws := wsX4_isFound) (av := [.ref m0, .int (nI n)]) (cc := cX4_isFound) (maxL := 2) (ret := (some .boolean)) (by decide) rfl (Nat.le_of_ble_eq_true rfl) rfl ?_
  intro p e s m below meth c ls hx hb hr hml hown hts hlocks hE hP hl
  have hK := hE.1
  have hS : va_S noA s.heap s.heap [] := va_S.rf
  generalize hQ : MQ below _ _ s _ _ _ = Q9
  have hl : lv_has ls 2 [(0, .ref m0), (1, .int (nI n))] := hl
  refine lv_aload_n hx hb dX4_isFound_0 rfl (lv_at hl 0 rfl) ?_
  refine lv_iload_n hx hb dX4_isFound_1 rfl (lv_at hl 1 rfl) ?_
  refine kRi (va_runV (As := [.int (nI n)]) (rest := []) ⟨hx, hb, hml, hown, hts⟩ (c_X4_wrongBits l g m0 m1 m2 m3 m4 m5 ma np ln th at_ hs rw w n (by first | assumption | omega | exact Nat.le_of_ble_eq_true rfl)) (cwV 1 hts gX4_isFound_X4_wrongBits rfl rfl rfl (by decide +kernel) ⟨(Nat.le_of_ble_eq_true rfl), (Nat.le_of_ble_eq_true rfl)⟩) (preV (RX4, TX4, 11) hE hP [0, 1] rfl rfl) rfl rfl hl.1 rfl (lv_room (Nat.le_of_ble_eq_true rfl)) dX4_isFound_2 ⟨(Nat.le_of_ble_eq_true rfl), (Nat.le_of_ble_eq_true rfl)⟩) hP hS (fun r9 H locs hr9 hP hS => ?_)
  subst hr9
  refine lv_iconst (v := 2) hx hb dX4_isFound_5 (by decide) ?_
  refine lv_irem hx hb dX4_isFound_6 (by decide) ?_
  refine lv_iconst (v := 1) hx hb dX4_isFound_7 (by decide) ?_
  refine lv_icmp_ne (tgt := 15) hx hb dX4_isFound_8 (by decide) (fun c8 => ?_) (fun c8 => ?_)
  · refine lv_iconst (v := 0) hx hb dX4_isFound_15 (by decide) ?_
    subst hQ
    exact W.zret (v := 0) hx hb hr rfl (fun t ht hW => ⟨⟨0, (), rfl, by first | exact (if_pos c8).symm | exact (if_neg c8).symm, trivial⟩, hS.F ht⟩) hS.2.2 dX4_isFound_16
  · refine lv_iconst (v := 1) hx hb dX4_isFound_11 (by decide) ?_
    refine lv_goto (tgt := 16) hx hb dX4_isFound_12 (by decide) ?_
    subst hQ
    exact W.zret (v := 1) hx hb hr rfl (fun t ht hW => ⟨⟨1, (), rfl, by first | exact (if_pos c8).symm | exact (if_neg c8).symm, trivial⟩, hS.F ht⟩) hS.2.2 dX4_isFound_16
abbrev rm_X4_isOperand : Room := { frames := 1, cells := 0, slots := 0, locals := 22 }
set_option maxRecDepth 100000 in
set_option maxHeartbeats 4000000 in
theorem c_X4_isOperand (l : Launch) (g : GT) (m0 : Nat) (m1 : Nat) (m2 : Nat) (m3 : Nat) (m4 : Nat) (m5 : Nat) (ma : Int64) (np : Nat) (ln : Nat) (th : Int32) (at_ : Nat) (hs : Int64) (rw : Nat → Int32) (w : Nat) (v : Int32) (hw8 : w ≤ 8) (hrw : rw 0 = nI w) : cRi l g yX4_isOperand wsX4_isOperand rm_X4_isOperand [.ref m0, .int v] [(m0, .inr (4, [.ref m1, .long ma, .ref m2, .ref m3, .int (nI np), .ref m4, .int (nI ln), .int th, .ref m5, .int (nI at_), .long hs])), (m1, .inl (g.2.1 0, 523, .inl rw))] (fun r => r = (if okR 0 (nI (gr w)) v then (1 : Int32) else 0)) := by
  refine enR (y := yX4_isOperand) (ws := wsX4_isOperand) (av := [.ref m0, .int v]) (cc := cX4_isOperand) (maxL := 2) (ret := (some .boolean)) (by decide) rfl (Nat.le_of_ble_eq_true rfl) rfl ?_
  intro p e s m below meth c ls hx hb hr hml hown hts hlocks hE hP hl
  have hK := hE.1
  have hS : va_S noA s.heap s.heap [] := va_S.rf
  generalize hQ : MQ below _ _ s _ _ _ = Q9
  have hl : lv_has ls 2 [(0, .ref m0), (1, .int v)] := hl
  refine lv_iload_n hx hb dX4_isOperand_0 rfl (lv_at hl 1 rfl) ?_
  refine lv_iconst (v := 0) hx hb dX4_isOperand_1 (by decide) ?_
  refine lv_aload_n hx hb dX4_isOperand_2 rfl (lv_at hl 0 rfl) ?_
  refine kRi (va_runV (As := []) (rest := [.int 0, .int v]) ⟨hx, hb, hml, hown, hts⟩ (c_X4_top l g m0 m1 m2 m3 m4 m5 ma np ln th at_ hs rw w (by first | assumption | omega | exact Nat.le_of_ble_eq_true rfl) (by first | assumption | omega | exact Nat.le_of_ble_eq_true rfl)) (cwV 0 hts gX4_isOperand_X4_top rfl rfl rfl (by decide +kernel) ⟨(Nat.le_of_ble_eq_true rfl), (Nat.le_of_ble_eq_true rfl)⟩) (preV (RX4, TX4, 11) hE hP [0, 1] rfl rfl) rfl rfl hl.1 rfl (lv_room (Nat.le_of_ble_eq_true rfl)) dX4_isOperand_3 ⟨(Nat.le_of_ble_eq_true rfl), (Nat.le_of_ble_eq_true rfl)⟩) hP hS (fun r9 H locs hr9 hP hS => ?_)
  subst hr9
  refine kRi (va_runS (As := [.int v, .int 0, .int (nI (gr w))]) (rest := []) ⟨hx, hb, hml, hown, hts⟩ (c_X4_in l g v 0 (nI (gr w))) (va_cwS 3 hts gX4_isOperand_X4_in rfl rfl rfl (by decide +kernel) ⟨(Nat.le_of_ble_eq_true rfl), (Nat.le_of_ble_eq_true rfl)⟩) (preS hE hP [] rfl) rfl rfl hl.1 rfl (lv_room (Nat.le_of_ble_eq_true rfl)) dX4_isOperand_6 ⟨(Nat.le_of_ble_eq_true rfl), (Nat.le_of_ble_eq_true rfl)⟩) hP hS (fun r9 H locs hr9 hP hS => ?_)
  subst hr9
  subst hQ
  exact W.zret (v := (if okR 0 (nI (gr w)) v then (1 : Int32) else 0)) hx hb hr bz_n (fun t ht hW => ⟨⟨(if okR 0 (nI (gr w)) v then (1 : Int32) else 0), (), rfl, rfl, trivial⟩, hS.F ht⟩) hS.2.2 dX4_isOperand_9
abbrev rm_X4_isEntry : Room := { frames := 2, cells := 0, slots := 0, locals := 40 }
set_option maxRecDepth 100000 in
set_option maxHeartbeats 4000000 in
theorem c_X4_isEntry (l : Launch) (g : GT) (m0 : Nat) (m1 : Nat) (m2 : Nat) (m3 : Nat) (m4 : Nat) (m5 : Nat) (ma : Int64) (np : Nat) (ln : Nat) (th : Int32) (at_ : Nat) (hs : Int64) (rw : Nat → Int32) (w : Nat) (v : Int32) (hw8 : w ≤ 8) (hrw : rw 0 = nI w) : cRi l g yX4_isEntry wsX4_isEntry rm_X4_isEntry [.ref m0, .int v] [(m0, .inr (4, [.ref m1, .long ma, .ref m2, .ref m3, .int (nI np), .ref m4, .int (nI ln), .int th, .ref m5, .int (nI at_), .long hs])), (m1, .inl (g.2.1 0, 523, .inl rw))] (fun r => r = (if okE w v then (1 : Int32) else 0)) := by
  refine enR (y := yX4_isEntry) (ws := wsX4_isEntry) (av := [.ref m0, .int v]) (cc := cX4_isEntry) (maxL := 2) (ret := (some .boolean)) (by decide) rfl (Nat.le_of_ble_eq_true rfl) rfl ?_
  intro p e s m below meth c ls hx hb hr hml hown hts hlocks hE hP hl
  have hK := hE.1
  have hS : va_S noA s.heap s.heap [] := va_S.rf
  generalize hQ : MQ below _ _ s _ _ _ = Q9
  have hl : lv_has ls 2 [(0, .ref m0), (1, .int v)] := hl
  refine lv_iload_n hx hb dX4_isEntry_0 rfl (lv_at hl 1 rfl) ?_
  refine lv_iconst (v := 0) hx hb dX4_isEntry_1 (by decide) ?_
  refine lv_aload_n hx hb dX4_isEntry_2 rfl (lv_at hl 0 rfl) ?_
  refine kRi (va_runV (As := []) (rest := [.int 0, .int v]) ⟨hx, hb, hml, hown, hts⟩ (c_X4_entries l g m0 m1 m2 m3 m4 m5 ma np ln th at_ hs rw w (by first | assumption | omega | exact Nat.le_of_ble_eq_true rfl) (by first | assumption | omega | exact Nat.le_of_ble_eq_true rfl)) (cwV 0 hts gX4_isEntry_X4_entries rfl rfl rfl (by decide +kernel) ⟨(Nat.le_of_ble_eq_true rfl), (Nat.le_of_ble_eq_true rfl)⟩) (preV (RX4, TX4, 11) hE hP [0, 1] rfl rfl) rfl rfl hl.1 rfl (lv_room (Nat.le_of_ble_eq_true rfl)) dX4_isEntry_3 ⟨(Nat.le_of_ble_eq_true rfl), (Nat.le_of_ble_eq_true rfl)⟩) hP hS (fun r9 H locs hr9 hP hS => ?_)
  subst hr9
  refine lv_iconst (v := 1) hx hb dX4_isEntry_6 (by decide) ?_
  refine lv_isub hx hb dX4_isEntry_7 ?_
  refine lv_tope (y := (nI (ents w - 1))) (pk_sub (a := ents w) (b := 1) (by unfold ents; omega)) ?_
  refine kRi (va_runS (As := [.int v, .int 0, .int (nI (ents w - 1))]) (rest := []) ⟨hx, hb, hml, hown, hts⟩ (c_X4_in l g v 0 (nI (ents w - 1))) (va_cwS 3 hts gX4_isEntry_X4_in rfl rfl rfl (by decide +kernel) ⟨(Nat.le_of_ble_eq_true rfl), (Nat.le_of_ble_eq_true rfl)⟩) (preS hE hP [] rfl) rfl rfl hl.1 rfl (lv_room (Nat.le_of_ble_eq_true rfl)) dX4_isEntry_8 ⟨(Nat.le_of_ble_eq_true rfl), (Nat.le_of_ble_eq_true rfl)⟩) hP hS (fun r9 H locs hr9 hP hS => ?_)
  subst hr9
  subst hQ
  exact W.zret (v := (if okR 0 (nI (ents w - 1)) v then (1 : Int32) else 0)) hx hb hr bz_n (fun t ht hW => ⟨⟨(if okR 0 (nI (ents w - 1)) v then (1 : Int32) else 0), (), rfl, bz_i (ok_e hw8), trivial⟩, hS.F ht⟩) hS.2.2 dX4_isEntry_11
abbrev rm_X4_isRegister : Room := { frames := 1, cells := 0, slots := 0, locals := 22 }
set_option maxRecDepth 100000 in
set_option maxHeartbeats 4000000 in
theorem c_X4_isRegister (l : Launch) (g : GT) (v : Int32) : cRi l g yX4_isRegister wsX4_isRegister rm_X4_isRegister [.int v] [] (fun r => r = (if okG v then (1 : Int32) else 0)) := by
  refine enR (y := yX4_isRegister) (ws := wsX4_isRegister) (av := [.int v]) (cc := cX4_isRegister) (maxL := 1) (ret := (some .boolean)) (by decide) rfl (Nat.le_of_ble_eq_true rfl) rfl ?_
  intro p e s m below meth c ls hx hb hr hml hown hts hlocks hE hP hl
  have hK := hE.1
  have hS : va_S noA s.heap s.heap [] := va_S.rf
  generalize hQ : MQ below _ _ s _ _ _ = Q9
  have hl : lv_has ls 1 [(0, .int v)] := hl
  refine lv_iload_n hx hb dX4_isRegister_0 rfl (lv_at hl 0 rfl) ?_
  refine lv_iconst (v := 0) hx hb dX4_isRegister_1 (by decide) ?_
  refine lv_bipush (v := 7) hx hb dX4_isRegister_2 (by decide) ?_
  refine kRi (va_runS (As := [.int v, .int 0, .int 7]) (rest := []) ⟨hx, hb, hml, hown, hts⟩ (c_X4_in l g v 0 7) (va_cwS 3 hts gX4_isRegister_X4_in rfl rfl rfl (by decide +kernel) ⟨(Nat.le_of_ble_eq_true rfl), (Nat.le_of_ble_eq_true rfl)⟩) (preS hE hP [] rfl) rfl rfl hl.1 rfl (lv_room (Nat.le_of_ble_eq_true rfl)) dX4_isRegister_4 ⟨(Nat.le_of_ble_eq_true rfl), (Nat.le_of_ble_eq_true rfl)⟩) hP hS (fun r9 H locs hr9 hP hS => ?_)
  subst hr9
  subst hQ
  exact W.zret (v := (if okR 0 7 v then (1 : Int32) else 0)) hx hb hr bz_n (fun t ht hW => ⟨⟨(if okR 0 7 v then (1 : Int32) else 0), (), rfl, bz_i ok_g, trivial⟩, hS.F ht⟩) hS.2.2 dX4_isRegister_7
abbrev rm_X4_isMethod : Room := { frames := 1, cells := 0, slots := 0, locals := 22 }
set_option maxRecDepth 100000 in
set_option maxHeartbeats 4000000 in
theorem c_X4_isMethod (l : Launch) (g : GT) (v : Int32) : cRi l g yX4_isMethod wsX4_isMethod rm_X4_isMethod [.int v] [] (fun r => r = (if okR 0 2 v then (1 : Int32) else 0)) := by
  refine enR (y := yX4_isMethod) (ws := wsX4_isMethod) (av := [.int v]) (cc := cX4_isMethod) (maxL := 1) (ret := (some .boolean)) (by decide) rfl (Nat.le_of_ble_eq_true rfl) rfl ?_
  intro p e s m below meth c ls hx hb hr hml hown hts hlocks hE hP hl
  have hK := hE.1
  have hS : va_S noA s.heap s.heap [] := va_S.rf
  generalize hQ : MQ below _ _ s _ _ _ = Q9
  have hl : lv_has ls 1 [(0, .int v)] := hl
  refine lv_iload_n hx hb dX4_isMethod_0 rfl (lv_at hl 0 rfl) ?_
  refine lv_iconst (v := 0) hx hb dX4_isMethod_1 (by decide) ?_
  refine lv_iconst (v := 2) hx hb dX4_isMethod_2 (by decide) ?_
  refine kRi (va_runS (As := [.int v, .int 0, .int 2]) (rest := []) ⟨hx, hb, hml, hown, hts⟩ (c_X4_in l g v 0 2) (va_cwS 3 hts gX4_isMethod_X4_in rfl rfl rfl (by decide +kernel) ⟨(Nat.le_of_ble_eq_true rfl), (Nat.le_of_ble_eq_true rfl)⟩) (preS hE hP [] rfl) rfl rfl hl.1 rfl (lv_room (Nat.le_of_ble_eq_true rfl)) dX4_isMethod_3 ⟨(Nat.le_of_ble_eq_true rfl), (Nat.le_of_ble_eq_true rfl)⟩) hP hS (fun r9 H locs hr9 hP hS => ?_)
  subst hr9
  subst hQ
  exact W.zret (v := (if okR 0 2 v then (1 : Int32) else 0)) hx hb hr bz_n (fun t ht hW => ⟨⟨(if okR 0 2 v then (1 : Int32) else 0), (), rfl, rfl, trivial⟩, hS.F ht⟩) hS.2.2 dX4_isMethod_6
abbrev rm_X4_areOperands : Room := { frames := 2, cells := 0, slots := 0, locals := 43 }
set_option maxRecDepth 100000 in
set_option maxHeartbeats 4000000 in
theorem c_X4_areOperands (l : Launch) (g : GT) (m0 : Nat) (m1 : Nat) (m2 : Nat) (m3 : Nat) (m4 : Nat) (m5 : Nat) (ma : Int64) (np : Nat) (ln : Nat) (th : Int32) (at_ : Nat) (hs : Int64) (rw : Nat → Int32) (w : Nat) (av : Int32) (bv : Int32) (hw8 : w ≤ 8) (hrw : rw 0 = nI w) : cRi l g yX4_areOperands wsX4_areOperands rm_X4_areOperands [.ref m0, .int av, .int bv] [(m0, .inr (4, [.ref m1, .long ma, .ref m2, .ref m3, .int (nI np), .ref m4, .int (nI ln), .int th, .ref m5, .int (nI at_), .long hs])), (m1, .inl (g.2.1 0, 523, .inl rw))] (fun r => r = (if okR 0 (nI (gr w)) av ∧ okR 0 (nI (gr w)) bv then (1 : Int32) else 0)) := by
  refine enR (y := yX4_areOperands) (ws := wsX4_areOperands) (av := [.ref m0, .int av, .int bv]) (cc := cX4_areOperands) (maxL := 3) (ret := (some .boolean)) (by decide) rfl (Nat.le_of_ble_eq_true rfl) rfl ?_
  intro p e s m below meth c ls hx hb hr hml hown hts hlocks hE hP hl
  have hK := hE.1
  have hS : va_S noA s.heap s.heap [] := va_S.rf
  generalize hQ : MQ below _ _ s _ _ _ = Q9
  have hl : lv_has ls 3 [(0, .ref m0), (1, .int av), (2, .int bv)] := hl
  refine lv_aload_n hx hb dX4_areOperands_0 rfl (lv_at hl 0 rfl) ?_
  refine lv_iload_n hx hb dX4_areOperands_1 rfl (lv_at hl 1 rfl) ?_
  refine kRi (va_runV (As := [.int av]) (rest := []) ⟨hx, hb, hml, hown, hts⟩ (c_X4_isOperand l g m0 m1 m2 m3 m4 m5 ma np ln th at_ hs rw w av (by first | assumption | omega | exact Nat.le_of_ble_eq_true rfl) (by first | assumption | omega | exact Nat.le_of_ble_eq_true rfl)) (cwV 1 hts gX4_areOperands_X4_isOperand rfl rfl rfl (by decide +kernel) ⟨(Nat.le_of_ble_eq_true rfl), (Nat.le_of_ble_eq_true rfl)⟩) (preV (RX4, TX4, 11) hE hP [0, 1] rfl rfl) rfl rfl hl.1 rfl (lv_room (Nat.le_of_ble_eq_true rfl)) dX4_areOperands_2 ⟨(Nat.le_of_ble_eq_true rfl), (Nat.le_of_ble_eq_true rfl)⟩) hP hS (fun r9 H locs hr9 hP hS => ?_)
  subst hr9
  refine lv_if_eq (tgt := 20) hx hb dX4_areOperands_5 (by decide) (fun c5 => ?_) (fun c5 => ?_)
  · have b5 : ¬ (okR 0 (nI (gr w)) av) := bz_f c5
    refine lv_iconst (v := 0) hx hb dX4_areOperands_20 (by decide) ?_
    subst hQ
    exact W.zret (v := 0) hx hb hr rfl (fun t ht hW => ⟨⟨0, (), rfl, by first | exact (if_pos ⟨b5, b13⟩).symm | exact (if_neg (fun h => b5 h.1)).symm | exact (if_neg (fun h => b13 h.2)).symm, trivial⟩, hS.F ht⟩) hS.2.2 dX4_areOperands_21
  · have b5 : okR 0 (nI (gr w)) av := bz_t c5
    refine lv_aload_n hx hb dX4_areOperands_8 rfl (lv_at hl 0 rfl) ?_
    refine lv_iload_n hx hb dX4_areOperands_9 rfl (lv_at hl 2 rfl) ?_
    refine kRi (va_runV (As := [.int bv]) (rest := []) ⟨hx, hb, hml, hown, hts⟩ (c_X4_isOperand l g m0 m1 m2 m3 m4 m5 ma np ln th at_ hs rw w bv (by first | assumption | omega | exact Nat.le_of_ble_eq_true rfl) (by first | assumption | omega | exact Nat.le_of_ble_eq_true rfl)) (cwV 1 hts gX4_areOperands_X4_isOperand rfl rfl rfl (by decide +kernel) ⟨(Nat.le_of_ble_eq_true rfl), (Nat.le_of_ble_eq_true rfl)⟩) (preV (RX4, TX4, 11) hE hP [0, 1] rfl rfl) rfl rfl hl.1 rfl (lv_room (Nat.le_of_ble_eq_true rfl)) dX4_areOperands_10 ⟨(Nat.le_of_ble_eq_true rfl), (Nat.le_of_ble_eq_true rfl)⟩) hP hS (fun r9 H locs hr9 hP hS => ?_)
    subst hr9
    refine lv_if_eq (tgt := 20) hx hb dX4_areOperands_13 (by decide) (fun c13 => ?_) (fun c13 => ?_)
    · have b13 : ¬ (okR 0 (nI (gr w)) bv) := bz_f c13
      refine lv_iconst (v := 0) hx hb dX4_areOperands_20 (by decide) ?_
      subst hQ
      exact W.zret (v := 0) hx hb hr rfl (fun t ht hW => ⟨⟨0, (), rfl, by first | exact (if_pos ⟨b5, b13⟩).symm | exact (if_neg (fun h => b5 h.1)).symm | exact (if_neg (fun h => b13 h.2)).symm, trivial⟩, hS.F ht⟩) hS.2.2 dX4_areOperands_21
    · have b13 : okR 0 (nI (gr w)) bv := bz_t c13
      refine lv_iconst (v := 1) hx hb dX4_areOperands_16 (by decide) ?_
      refine lv_goto (tgt := 21) hx hb dX4_areOperands_17 (by decide) ?_
      subst hQ
      exact W.zret (v := 1) hx hb hr rfl (fun t ht hW => ⟨⟨1, (), rfl, by first | exact (if_pos ⟨b5, b13⟩).symm | exact (if_neg (fun h => b5 h.1)).symm | exact (if_neg (fun h => b13 h.2)).symm, trivial⟩, hS.F ht⟩) hS.2.2 dX4_areOperands_21
abbrev rm_X4_isWay : Room := { frames := 1, cells := 0, slots := 0, locals := 22 }
set_option maxRecDepth 100000 in
set_option maxHeartbeats 4000000 in
theorem c_X4_isWay (l : Launch) (g : GT) (kp : Int32) (wy : Int32) : cRi l g yX4_isWay wsX4_isWay rm_X4_isWay [.int kp, .int wy] [] (fun r => r = (if okR 0 16 kp ∧ okR 0 2 wy then (1 : Int32) else 0)) := by
  refine enR (y := yX4_isWay) (ws := wsX4_isWay) (av := [.int kp, .int wy]) (cc := cX4_isWay) (maxL := 2) (ret := (some .boolean)) (by decide) rfl (Nat.le_of_ble_eq_true rfl) rfl ?_
  intro p e s m below meth c ls hx hb hr hml hown hts hlocks hE hP hl
  have hK := hE.1
  have hS : va_S noA s.heap s.heap [] := va_S.rf
  generalize hQ : MQ below _ _ s _ _ _ = Q9
  have hl : lv_has ls 2 [(0, .int kp), (1, .int wy)] := hl
  refine lv_iload_n hx hb dX4_isWay_0 rfl (lv_at hl 0 rfl) ?_
  refine lv_iconst (v := 0) hx hb dX4_isWay_1 (by decide) ?_
  refine lv_bipush (v := 16) hx hb dX4_isWay_2 (by decide) ?_
  refine kRi (va_runS (As := [.int kp, .int 0, .int 16]) (rest := []) ⟨hx, hb, hml, hown, hts⟩ (c_X4_in l g kp 0 16) (va_cwS 3 hts gX4_isWay_X4_in rfl rfl rfl (by decide +kernel) ⟨(Nat.le_of_ble_eq_true rfl), (Nat.le_of_ble_eq_true rfl)⟩) (preS hE hP [] rfl) rfl rfl hl.1 rfl (lv_room (Nat.le_of_ble_eq_true rfl)) dX4_isWay_4 ⟨(Nat.le_of_ble_eq_true rfl), (Nat.le_of_ble_eq_true rfl)⟩) hP hS (fun r9 H locs hr9 hP hS => ?_)
  subst hr9
  refine lv_if_eq (tgt := 23) hx hb dX4_isWay_7 (by decide) (fun c7 => ?_) (fun c7 => ?_)
  · have b7 : ¬ (okR 0 16 kp) := bz_f c7
    refine lv_iconst (v := 0) hx hb dX4_isWay_23 (by decide) ?_
    subst hQ
    exact W.zret (v := 0) hx hb hr rfl (fun t ht hW => ⟨⟨0, (), rfl, by first | exact (if_pos ⟨b7, b16⟩).symm | exact (if_neg (fun h => b7 h.1)).symm | exact (if_neg (fun h => b16 h.2)).symm, trivial⟩, hS.F ht⟩) hS.2.2 dX4_isWay_24
  · have b7 : okR 0 16 kp := bz_t c7
    refine lv_iload_n hx hb dX4_isWay_10 rfl (lv_at hl 1 rfl) ?_
    refine lv_iconst (v := 0) hx hb dX4_isWay_11 (by decide) ?_
    refine lv_iconst (v := 2) hx hb dX4_isWay_12 (by decide) ?_
    refine kRi (va_runS (As := [.int wy, .int 0, .int 2]) (rest := []) ⟨hx, hb, hml, hown, hts⟩ (c_X4_in l g wy 0 2) (va_cwS 3 hts gX4_isWay_X4_in rfl rfl rfl (by decide +kernel) ⟨(Nat.le_of_ble_eq_true rfl), (Nat.le_of_ble_eq_true rfl)⟩) (preS hE hP [] rfl) rfl rfl hl.1 rfl (lv_room (Nat.le_of_ble_eq_true rfl)) dX4_isWay_13 ⟨(Nat.le_of_ble_eq_true rfl), (Nat.le_of_ble_eq_true rfl)⟩) hP hS (fun r9 H locs hr9 hP hS => ?_)
    subst hr9
    refine lv_if_eq (tgt := 23) hx hb dX4_isWay_16 (by decide) (fun c16 => ?_) (fun c16 => ?_)
    · have b16 : ¬ (okR 0 2 wy) := bz_f c16
      refine lv_iconst (v := 0) hx hb dX4_isWay_23 (by decide) ?_
      subst hQ
      exact W.zret (v := 0) hx hb hr rfl (fun t ht hW => ⟨⟨0, (), rfl, by first | exact (if_pos ⟨b7, b16⟩).symm | exact (if_neg (fun h => b7 h.1)).symm | exact (if_neg (fun h => b16 h.2)).symm, trivial⟩, hS.F ht⟩) hS.2.2 dX4_isWay_24
    · have b16 : okR 0 2 wy := bz_t c16
      refine lv_iconst (v := 1) hx hb dX4_isWay_19 (by decide) ?_
      refine lv_goto (tgt := 24) hx hb dX4_isWay_20 (by decide) ?_
      subst hQ
      exact W.zret (v := 1) hx hb hr rfl (fun t ht hW => ⟨⟨1, (), rfl, by first | exact (if_pos ⟨b7, b16⟩).symm | exact (if_neg (fun h => b7 h.1)).symm | exact (if_neg (fun h => b16 h.2)).symm, trivial⟩, hS.F ht⟩) hS.2.2 dX4_isWay_24
abbrev rm_X4_wrongEntries : Room := { frames := 2, cells := 0, slots := 0, locals := 43 }
set_option maxRecDepth 100000 in
set_option maxHeartbeats 4000000 in
theorem c_X4_wrongEntries (l : Launch) (g : GT) (m0 : Nat) (m1 : Nat) (m2 : Nat) (m3 : Nat) (m4 : Nat) (m5 : Nat) (ma : Int64) (np : Nat) (ln : Nat) (th : Int32) (at_ : Nat) (hs : Int64) (rw : Nat → Int32) (w : Nat) (hw8 : w ≤ 8) (hrw : rw 0 = nI w) : cRi l g yX4_wrongEntries wsX4_wrongEntries rm_X4_wrongEntries [.ref m0] [(m0, .inr (4, [.ref m1, .long ma, .ref m2, .ref m3, .int (nI np), .ref m4, .int (nI ln), .int th, .ref m5, .int (nI at_), .long hs])), (m1, .inl (g.2.1 0, 523, .inl rw))] (fun r => r = (sI (meF rw) (ents w))) := by
  refine enR (y := yX4_wrongEntries) (ws := wsX4_wrongEntries) (av := [.ref m0]) (cc := cX4_wrongEntries) (maxL := 3) (ret := (some .int)) (by decide) rfl (Nat.le_of_ble_eq_true rfl) rfl ?_
  intro p e s m below meth c ls hx hb hr hml hown hts hlocks hE hP hl
  have hK := hE.1
  have hS : va_S noA s.heap s.heap [] := va_S.rf
  generalize hQ : MQ below _ _ s _ _ _ = Q9
  have hl : lv_has ls 3 [(0, .ref m0)] := hl
  have hgr := gr_le w hw8
  have hen := ents_le w hw8
  refine lv_iconst (v := 0) hx hb dX4_wrongEntries_0 (by decide) ?_
  refine lv_istore_n (lv' := [(1, .int 0), (0, .ref m0)]) hx hb dX4_wrongEntries_1 rfl hl (by decide) rfl (fun ls hl => ?_)
  refine lv_iconst (v := 0) hx hb dX4_wrongEntries_2 (by decide) ?_
  refine lv_istore_n (lv' := [(2, .int 0), (1, .int 0), (0, .ref m0)]) hx hb dX4_wrongEntries_3 rfl hl (by decide) rfl (fun ls hl => ?_)
  have lp4 : ∀ (n9 : Nat) (i : Nat), ents w - i < n9 → (i ≤ ents w) → ∀ (z1 : Int32), z1 = sI (meF rw) i → ∀ (H : Heap) (locs : List Loc), va_P g.1 vwCl [(m0, .inr (4, [.ref m1, .long ma, .ref m2, .ref m3, .int (nI np), .ref m4, .int (nI ln), .int th, .ref m5, .int (nI at_), .long hs])), (m1, .inl (g.2.1 0, 523, .inl rw))] H → va_S noA s.heap H locs → ∀ (ls : Array Slot), lv_has ls 3 [(2, .int (nI i)), (1, .int z1), (0, .ref m0)] → W p l e rm_X4_wrongEntries s m [Value.ref m0].toArray below meth c H locs 0 0 Q9 (F0 m 4 ls []) := by
    intro n9
    induction n9 with
    | zero => intro i h9; exact absurd h9 (Nat.not_lt_zero _)
    | succ n9 ih4 =>
      intro i hm4 hi
      intro z1 e_z1; subst e_z1
      intro H locs hP hS ls hl
      refine lv_iload_n hx hb dX4_wrongEntries_4 rfl (lv_at hl 0 rfl) ?_
      refine lv_aload_n hx hb dX4_wrongEntries_5 rfl (lv_at hl 2 rfl) ?_
      refine kRi (va_runV (As := []) (rest := [.int (nI i)]) ⟨hx, hb, hml, hown, hts⟩ (c_X4_entries l g m0 m1 m2 m3 m4 m5 ma np ln th at_ hs rw w (by first | assumption | omega | exact Nat.le_of_ble_eq_true rfl) (by first | assumption | omega | exact Nat.le_of_ble_eq_true rfl)) (cwV 0 hts gX4_wrongEntries_X4_entries rfl rfl rfl (by decide +kernel) ⟨(Nat.le_of_ble_eq_true rfl), (Nat.le_of_ble_eq_true rfl)⟩) (preV (RX4, TX4, 11) hE hP [0, 1] rfl rfl) rfl rfl hl.1 rfl (lv_room (Nat.le_of_ble_eq_true rfl)) dX4_wrongEntries_6 ⟨(Nat.le_of_ble_eq_true rfl), (Nat.le_of_ble_eq_true rfl)⟩) hP hS (fun r9 H locs hr9 hP hS => ?_)
      subst hr9
      refine lv_icmp_ge (tgt := 34) hx hb dX4_wrongEntries_9 (by decide) (fun c9 => ?_) (fun c9 => ?_)
      · have n9 : ents w ≤ i := (nI_leI (a := ents w) (b := i) (by omega) (by omega)).mp c9
        refine lv_iload_n hx hb dX4_wrongEntries_34 rfl (lv_at hl 1 rfl) ?_
        have e9 : i = ents w := by omega
        subst hQ
        exact W.iret (v := (sI (meF rw) i)) hx hb hr (fun t ht hW => ⟨⟨(sI (meF rw) i), (), rfl, by rw [e9], trivial⟩, hS.F ht⟩) hS.2.2 dX4_wrongEntries_35
      · have n9 : i < ents w := Nat.lt_of_not_le (fun h9 => c9 ((nI_leI (a := ents w) (b := i) (by omega) (by omega)).mpr h9))
        refine lv_iload_n hx hb dX4_wrongEntries_12 rfl (lv_at hl 1 rfl) ?_
        refine lv_aload_n hx hb dX4_wrongEntries_13 rfl (lv_at hl 2 rfl) ?_
        refine lv_iload_n hx hb dX4_wrongEntries_14 rfl (lv_at hl 0 rfl) ?_
        refine kRi (va_runV (As := [.int (nI i)]) (rest := [.int (sI (meF rw) i)]) ⟨hx, hb, hml, hown, hts⟩ (c_X4_wrongBits l g m0 m1 m2 m3 m4 m5 ma np ln th at_ hs rw w i (by first | assumption | omega | exact Nat.le_of_ble_eq_true rfl)) (cwV 1 hts gX4_wrongEntries_X4_wrongBits rfl rfl rfl (by decide +kernel) ⟨(Nat.le_of_ble_eq_true rfl), (Nat.le_of_ble_eq_true rfl)⟩) (preV (RX4, TX4, 11) hE hP [0, 1] rfl rfl) rfl rfl hl.1 rfl (lv_room (Nat.le_of_ble_eq_true rfl)) dX4_wrongEntries_15 ⟨(Nat.le_of_ble_eq_true rfl), (Nat.le_of_ble_eq_true rfl)⟩) hP hS (fun r9 H locs hr9 hP hS => ?_)
        subst hr9
        refine lv_if_le (tgt := 25) hx hb dX4_wrongEntries_18 (by decide) (fun c18 => ?_) (fun c18 => ?_)
        · refine lv_iconst (v := 0) hx hb dX4_wrongEntries_25 (by decide) ?_
          refine lv_iadd hx hb dX4_wrongEntries_26 ?_
          refine lv_istore_n (lv' := [(1, .int ((sI (meF rw) i) + 0)), (2, .int (nI i)), (0, .ref m0)]) hx hb dX4_wrongEntries_27 rfl hl (by decide) rfl (fun ls hl => ?_)
          refine lv_iinc (v := (nI (i + 1))) (lv' := [(2, .int (nI (i + 1))), (1, .int ((sI (meF rw) i) + 0)), (0, .ref m0)]) hx hb dX4_wrongEntries_28 hl (k := 1) rfl (nI_add (i) 1) (by decide) rfl (fun ls hl => ?_)
          refine lv_goto (tgt := 4) hx hb dX4_wrongEntries_31 (by decide) ?_
          exact ih4 (i + 1) (by omega) (by omega) ((sI (meF rw) i) + 0) (by first | (show _ = sI (meF rw) i + meF rw i; rw [meF, if_pos c18]) | (show _ = sI (meF rw) i + meF rw i; rw [meF, if_neg c18])) _ _ hP hS _ (lv_sub hl [0, 1, 2] rfl)
        · refine lv_iconst (v := 1) hx hb dX4_wrongEntries_21 (by decide) ?_
          refine lv_goto (tgt := 26) hx hb dX4_wrongEntries_22 (by decide) ?_
          refine lv_iadd hx hb dX4_wrongEntries_26 ?_
          refine lv_istore_n (lv' := [(1, .int ((sI (meF rw) i) + 1)), (2, .int (nI i)), (0, .ref m0)]) hx hb dX4_wrongEntries_27 rfl hl (by decide) rfl (fun ls hl => ?_)
          refine lv_iinc (v := (nI (i + 1))) (lv' := [(2, .int (nI (i + 1))), (1, .int ((sI (meF rw) i) + 1)), (0, .ref m0)]) hx hb dX4_wrongEntries_28 hl (k := 1) rfl (nI_add (i) 1) (by decide) rfl (fun ls hl => ?_)
          refine lv_goto (tgt := 4) hx hb dX4_wrongEntries_31 (by decide) ?_
          exact ih4 (i + 1) (by omega) (by omega) ((sI (meF rw) i) + 1) (by first | (show _ = sI (meF rw) i + meF rw i; rw [meF, if_pos c18]) | (show _ = sI (meF rw) i + meF rw i; rw [meF, if_neg c18])) _ _ hP hS _ (lv_sub hl [0, 1, 2] rfl)
  exact lp4 ((ents w - 0) + 1) 0 (Nat.lt_succ_self _) (by omega) 0 rfl _ _ hP hS _ (lv_sub hl [0, 1, 2] rfl)
abbrev rm_X4_foundEntries : Room := { frames := 3, cells := 0, slots := 0, locals := 64 }
set_option maxRecDepth 100000 in
set_option maxHeartbeats 4000000 in
theorem c_X4_foundEntries (l : Launch) (g : GT) (m0 : Nat) (m1 : Nat) (m2 : Nat) (m3 : Nat) (m4 : Nat) (m5 : Nat) (ma : Int64) (np : Nat) (ln : Nat) (th : Int32) (at_ : Nat) (hs : Int64) (rw : Nat → Int32) (w : Nat) (hw8 : w ≤ 8) (hrw : rw 0 = nI w) : cRi l g yX4_foundEntries wsX4_foundEntries rm_X4_foundEntries [.ref m0] [(m0, .inr (4, [.ref m1, .long ma, .ref m2, .ref m3, .int (nI np), .ref m4, .int (nI ln), .int th, .ref m5, .int (nI at_), .long hs])), (m1, .inl (g.2.1 0, 523, .inl rw))] (fun r => r = (sI (mfF rw) (ents w))) := by
  refine enR (y := yX4_foundEntries) (ws := wsX4_foundEntries) (av := [.ref m0]) (cc := cX4_foundEntries) (maxL := 3) (ret := (some .int)) (by decide) rfl (Nat.le_of_ble_eq_true rfl) rfl ?_
  intro p e s m below meth c ls hx hb hr hml hown hts hlocks hE hP hl
  have hK := hE.1
  have hS : va_S noA s.heap s.heap [] := va_S.rf
  generalize hQ : MQ below _ _ s _ _ _ = Q9
  have hl : lv_has ls 3 [(0, .ref m0)] := hl
  have hgr := gr_le w hw8
  have hen := ents_le w hw8
  refine lv_iconst (v := 0) hx hb dX4_foundEntries_0 (by decide) ?_
  refine lv_istore_n (lv' := [(1, .int 0), (0, .ref m0)]) hx hb dX4_foundEntries_1 rfl hl (by decide) rfl (fun ls hl => ?_)
  refine lv_iconst (v := 0) hx hb dX4_foundEntries_2 (by decide) ?_
  refine lv_istore_n (lv' := [(2, .int 0), (1, .int 0), (0, .ref m0)]) hx hb dX4_foundEntries_3 rfl hl (by decide) rfl (fun ls hl => ?_)
  have lp4 : ∀ (n9 : Nat) (i : Nat), ents w - i < n9 → (i ≤ ents w) → ∀ (z1 : Int32), z1 = sI (mfF rw) i → ∀ (H : Heap) (locs : List Loc), va_P g.1 vwCl [(m0, .inr (4, [.ref m1, .long ma, .ref m2, .ref m3, .int (nI np), .ref m4, .int (nI ln), .int th, .ref m5, .int (nI at_), .long hs])), (m1, .inl (g.2.1 0, 523, .inl rw))] H → va_S noA s.heap H locs → ∀ (ls : Array Slot), lv_has ls 3 [(2, .int (nI i)), (1, .int z1), (0, .ref m0)] → W p l e rm_X4_foundEntries s m [Value.ref m0].toArray below meth c H locs 0 0 Q9 (F0 m 4 ls []) := by
    intro n9
    induction n9 with
    | zero => intro i h9; exact absurd h9 (Nat.not_lt_zero _)
    | succ n9 ih4 =>
      intro i hm4 hi
      intro z1 e_z1; subst e_z1
      intro H locs hP hS ls hl
      refine lv_iload_n hx hb dX4_foundEntries_4 rfl (lv_at hl 0 rfl) ?_
      refine lv_aload_n hx hb dX4_foundEntries_5 rfl (lv_at hl 2 rfl) ?_
      refine kRi (va_runV (As := []) (rest := [.int (nI i)]) ⟨hx, hb, hml, hown, hts⟩ (c_X4_entries l g m0 m1 m2 m3 m4 m5 ma np ln th at_ hs rw w (by first | assumption | omega | exact Nat.le_of_ble_eq_true rfl) (by first | assumption | omega | exact Nat.le_of_ble_eq_true rfl)) (cwV 0 hts gX4_foundEntries_X4_entries rfl rfl rfl (by decide +kernel) ⟨(Nat.le_of_ble_eq_true rfl), (Nat.le_of_ble_eq_true rfl)⟩) (preV (RX4, TX4, 11) hE hP [0, 1] rfl rfl) rfl rfl hl.1 rfl (lv_room (Nat.le_of_ble_eq_true rfl)) dX4_foundEntries_6 ⟨(Nat.le_of_ble_eq_true rfl), (Nat.le_of_ble_eq_true rfl)⟩) hP hS (fun r9 H locs hr9 hP hS => ?_)
      subst hr9
      refine lv_icmp_ge (tgt := 34) hx hb dX4_foundEntries_9 (by decide) (fun c9 => ?_) (fun c9 => ?_)
      · have n9 : ents w ≤ i := (nI_leI (a := ents w) (b := i) (by omega) (by omega)).mp c9
        refine lv_iload_n hx hb dX4_foundEntries_34 rfl (lv_at hl 1 rfl) ?_
        have e9 : i = ents w := by omega
        subst hQ
        exact W.iret (v := (sI (mfF rw) i)) hx hb hr (fun t ht hW => ⟨⟨(sI (mfF rw) i), (), rfl, by rw [e9], trivial⟩, hS.F ht⟩) hS.2.2 dX4_foundEntries_35
      · have n9 : i < ents w := Nat.lt_of_not_le (fun h9 => c9 ((nI_leI (a := ents w) (b := i) (by omega) (by omega)).mpr h9))
        refine lv_iload_n hx hb dX4_foundEntries_12 rfl (lv_at hl 1 rfl) ?_
        refine lv_aload_n hx hb dX4_foundEntries_13 rfl (lv_at hl 2 rfl) ?_
        refine lv_iload_n hx hb dX4_foundEntries_14 rfl (lv_at hl 0 rfl) ?_
        refine kRi (va_runV (As := [.int (nI i)]) (rest := [.int (sI (mfF rw) i)]) ⟨hx, hb, hml, hown, hts⟩ (c_X4_isFound l g m0 m1 m2 m3 m4 m5 ma np ln th at_ hs rw w i (by first | assumption | omega | exact Nat.le_of_ble_eq_true rfl)) (cwV 1 hts gX4_foundEntries_X4_isFound rfl rfl rfl (by decide +kernel) ⟨(Nat.le_of_ble_eq_true rfl), (Nat.le_of_ble_eq_true rfl)⟩) (preV (RX4, TX4, 11) hE hP [0, 1] rfl rfl) rfl rfl hl.1 rfl (lv_room (Nat.le_of_ble_eq_true rfl)) dX4_foundEntries_15 ⟨(Nat.le_of_ble_eq_true rfl), (Nat.le_of_ble_eq_true rfl)⟩) hP hS (fun r9 H locs hr9 hP hS => ?_)
        subst hr9
        refine lv_if_eq (tgt := 25) hx hb dX4_foundEntries_18 (by decide) (fun c18 => ?_) (fun c18 => ?_)
        · have b18 : ¬ (fdP (mwF rw i)) := bz_f c18
          refine lv_iconst (v := 0) hx hb dX4_foundEntries_25 (by decide) ?_
          refine lv_iadd hx hb dX4_foundEntries_26 ?_
          refine lv_istore_n (lv' := [(1, .int ((sI (mfF rw) i) + 0)), (2, .int (nI i)), (0, .ref m0)]) hx hb dX4_foundEntries_27 rfl hl (by decide) rfl (fun ls hl => ?_)
          refine lv_iinc (v := (nI (i + 1))) (lv' := [(2, .int (nI (i + 1))), (1, .int ((sI (mfF rw) i) + 0)), (0, .ref m0)]) hx hb dX4_foundEntries_28 hl (k := 1) rfl (nI_add (i) 1) (by decide) rfl (fun ls hl => ?_)
          refine lv_goto (tgt := 4) hx hb dX4_foundEntries_31 (by decide) ?_
          exact ih4 (i + 1) (by omega) (by omega) ((sI (mfF rw) i) + 0) (by first | (show _ = sI (mfF rw) i + mfF rw i; rw [mfF, if_pos b18]) | (show _ = sI (mfF rw) i + mfF rw i; rw [mfF, if_neg b18])) _ _ hP hS _ (lv_sub hl [0, 1, 2] rfl)
        · have b18 : fdP (mwF rw i) := bz_t c18
          refine lv_iconst (v := 1) hx hb dX4_foundEntries_21 (by decide) ?_
          refine lv_goto (tgt := 26) hx hb dX4_foundEntries_22 (by decide) ?_
          refine lv_iadd hx hb dX4_foundEntries_26 ?_
          refine lv_istore_n (lv' := [(1, .int ((sI (mfF rw) i) + 1)), (2, .int (nI i)), (0, .ref m0)]) hx hb dX4_foundEntries_27 rfl hl (by decide) rfl (fun ls hl => ?_)
          refine lv_iinc (v := (nI (i + 1))) (lv' := [(2, .int (nI (i + 1))), (1, .int ((sI (mfF rw) i) + 1)), (0, .ref m0)]) hx hb dX4_foundEntries_28 hl (k := 1) rfl (nI_add (i) 1) (by decide) rfl (fun ls hl => ?_)
          refine lv_goto (tgt := 4) hx hb dX4_foundEntries_31 (by decide) ?_
          exact ih4 (i + 1) (by omega) (by omega) ((sI (mfF rw) i) + 1) (by first | (show _ = sI (mfF rw) i + mfF rw i; rw [mfF, if_pos b18]) | (show _ = sI (mfF rw) i + mfF rw i; rw [mfF, if_neg b18])) _ _ hP hS _ (lv_sub hl [0, 1, 2] rfl)
  exact lp4 ((ents w - 0) + 1) 0 (Nat.lt_succ_self _) (by omega) 0 rfl _ _ hP hS _ (lv_sub hl [0, 1, 2] rfl)
abbrev rm_X4_allWrongBits : Room := { frames := 2, cells := 0, slots := 0, locals := 43 }
set_option maxRecDepth 100000 in
set_option maxHeartbeats 4000000 in
theorem c_X4_allWrongBits (l : Launch) (g : GT) (m0 : Nat) (m1 : Nat) (m2 : Nat) (m3 : Nat) (m4 : Nat) (m5 : Nat) (ma : Int64) (np : Nat) (ln : Nat) (th : Int32) (at_ : Nat) (hs : Int64) (rw : Nat → Int32) (w : Nat) (hw8 : w ≤ 8) (hrw : rw 0 = nI w) : cRi l g yX4_allWrongBits wsX4_allWrongBits rm_X4_allWrongBits [.ref m0] [(m0, .inr (4, [.ref m1, .long ma, .ref m2, .ref m3, .int (nI np), .ref m4, .int (nI ln), .int th, .ref m5, .int (nI at_), .long hs])), (m1, .inl (g.2.1 0, 523, .inl rw))] (fun r => r = (sI (mwF rw) (ents w))) := by
  refine enR (y := yX4_allWrongBits) (ws := wsX4_allWrongBits) (av := [.ref m0]) (cc := cX4_allWrongBits) (maxL := 3) (ret := (some .int)) (by decide) rfl (Nat.le_of_ble_eq_true rfl) rfl ?_
  intro p e s m below meth c ls hx hb hr hml hown hts hlocks hE hP hl
  have hK := hE.1
  have hS : va_S noA s.heap s.heap [] := va_S.rf
  generalize hQ : MQ below _ _ s _ _ _ = Q9
  have hl : lv_has ls 3 [(0, .ref m0)] := hl
  have hgr := gr_le w hw8
  have hen := ents_le w hw8
  refine lv_iconst (v := 0) hx hb dX4_allWrongBits_0 (by decide) ?_
  refine lv_istore_n (lv' := [(1, .int 0), (0, .ref m0)]) hx hb dX4_allWrongBits_1 rfl hl (by decide) rfl (fun ls hl => ?_)
  refine lv_iconst (v := 0) hx hb dX4_allWrongBits_2 (by decide) ?_
  refine lv_istore_n (lv' := [(2, .int 0), (1, .int 0), (0, .ref m0)]) hx hb dX4_allWrongBits_3 rfl hl (by decide) rfl (fun ls hl => ?_)
  have lp4 : ∀ (n9 : Nat) (i : Nat), ents w - i < n9 → (i ≤ ents w) → ∀ (z1 : Int32), z1 = sI (mwF rw) i → ∀ (H : Heap) (locs : List Loc), va_P g.1 vwCl [(m0, .inr (4, [.ref m1, .long ma, .ref m2, .ref m3, .int (nI np), .ref m4, .int (nI ln), .int th, .ref m5, .int (nI at_), .long hs])), (m1, .inl (g.2.1 0, 523, .inl rw))] H → va_S noA s.heap H locs → ∀ (ls : Array Slot), lv_has ls 3 [(2, .int (nI i)), (1, .int z1), (0, .ref m0)] → W p l e rm_X4_allWrongBits s m [Value.ref m0].toArray below meth c H locs 0 0 Q9 (F0 m 4 ls []) := by
    intro n9
    induction n9 with
    | zero => intro i h9; exact absurd h9 (Nat.not_lt_zero _)
    | succ n9 ih4 =>
      intro i hm4 hi
      intro z1 e_z1; subst e_z1
      intro H locs hP hS ls hl
      refine lv_iload_n hx hb dX4_allWrongBits_4 rfl (lv_at hl 0 rfl) ?_
      refine lv_aload_n hx hb dX4_allWrongBits_5 rfl (lv_at hl 2 rfl) ?_
      refine kRi (va_runV (As := []) (rest := [.int (nI i)]) ⟨hx, hb, hml, hown, hts⟩ (c_X4_entries l g m0 m1 m2 m3 m4 m5 ma np ln th at_ hs rw w (by first | assumption | omega | exact Nat.le_of_ble_eq_true rfl) (by first | assumption | omega | exact Nat.le_of_ble_eq_true rfl)) (cwV 0 hts gX4_allWrongBits_X4_entries rfl rfl rfl (by decide +kernel) ⟨(Nat.le_of_ble_eq_true rfl), (Nat.le_of_ble_eq_true rfl)⟩) (preV (RX4, TX4, 11) hE hP [0, 1] rfl rfl) rfl rfl hl.1 rfl (lv_room (Nat.le_of_ble_eq_true rfl)) dX4_allWrongBits_6 ⟨(Nat.le_of_ble_eq_true rfl), (Nat.le_of_ble_eq_true rfl)⟩) hP hS (fun r9 H locs hr9 hP hS => ?_)
      subst hr9
      refine lv_icmp_ge (tgt := 26) hx hb dX4_allWrongBits_9 (by decide) (fun c9 => ?_) (fun c9 => ?_)
      · have n9 : ents w ≤ i := (nI_leI (a := ents w) (b := i) (by omega) (by omega)).mp c9
        refine lv_iload_n hx hb dX4_allWrongBits_26 rfl (lv_at hl 1 rfl) ?_
        have e9 : i = ents w := by omega
        subst hQ
        exact W.iret (v := (sI (mwF rw) i)) hx hb hr (fun t ht hW => ⟨⟨(sI (mwF rw) i), (), rfl, by rw [e9], trivial⟩, hS.F ht⟩) hS.2.2 dX4_allWrongBits_27
      · have n9 : i < ents w := Nat.lt_of_not_le (fun h9 => c9 ((nI_leI (a := ents w) (b := i) (by omega) (by omega)).mpr h9))
        refine lv_iload_n hx hb dX4_allWrongBits_12 rfl (lv_at hl 1 rfl) ?_
        refine lv_aload_n hx hb dX4_allWrongBits_13 rfl (lv_at hl 2 rfl) ?_
        refine lv_iload_n hx hb dX4_allWrongBits_14 rfl (lv_at hl 0 rfl) ?_
        refine kRi (va_runV (As := [.int (nI i)]) (rest := [.int (sI (mwF rw) i)]) ⟨hx, hb, hml, hown, hts⟩ (c_X4_wrongBits l g m0 m1 m2 m3 m4 m5 ma np ln th at_ hs rw w i (by first | assumption | omega | exact Nat.le_of_ble_eq_true rfl)) (cwV 1 hts gX4_allWrongBits_X4_wrongBits rfl rfl rfl (by decide +kernel) ⟨(Nat.le_of_ble_eq_true rfl), (Nat.le_of_ble_eq_true rfl)⟩) (preV (RX4, TX4, 11) hE hP [0, 1] rfl rfl) rfl rfl hl.1 rfl (lv_room (Nat.le_of_ble_eq_true rfl)) dX4_allWrongBits_15 ⟨(Nat.le_of_ble_eq_true rfl), (Nat.le_of_ble_eq_true rfl)⟩) hP hS (fun r9 H locs hr9 hP hS => ?_)
        subst hr9
        refine lv_iadd hx hb dX4_allWrongBits_18 ?_
        refine lv_istore_n (lv' := [(1, .int ((sI (mwF rw) i) + (mwF rw i))), (2, .int (nI i)), (0, .ref m0)]) hx hb dX4_allWrongBits_19 rfl hl (by decide) rfl (fun ls hl => ?_)
        refine lv_iinc (v := (nI (i + 1))) (lv' := [(2, .int (nI (i + 1))), (1, .int ((sI (mwF rw) i) + (mwF rw i))), (0, .ref m0)]) hx hb dX4_allWrongBits_20 hl (k := 1) rfl (nI_add (i) 1) (by decide) rfl (fun ls hl => ?_)
        refine lv_goto (tgt := 4) hx hb dX4_allWrongBits_23 (by decide) ?_
        exact ih4 (i + 1) (by omega) (by omega) ((sI (mwF rw) i) + (mwF rw i)) rfl _ _ hP hS _ (lv_sub hl [0, 1, 2] rfl)
  exact lp4 ((ents w - 0) + 1) 0 (Nat.lt_succ_self _) (by omega) 0 rfl _ _ hP hS _ (lv_sub hl [0, 1, 2] rfl)
theorem in_X4_byTable_X4 : ∀ w ∈ wsX40, w ∈ wsX4_byTable := by decide +kernel
abbrev rm_X4_byTable : Room := { frames := 0, cells := 0, slots := 0, locals := 0 }
set_option maxRecDepth 100000 in
set_option maxHeartbeats 4000000 in
theorem c_X4_byTable (l : Launch) (g : GT) (m0 : Nat) (m1 : Nat) (m2 : Nat) (m3 : Nat) (m4 : Nat) (m5 : Nat) (ma : Int64) (np : Nat) (ln : Nat) (th : Int32) (at_ : Nat) (hs : Int64) (rw : Nat → Int32) (w : Nat) (a : Nat) (b : Nat) (hA5 : a ≤ 255) (hB5 : b ≤ 255) : cRi l g yX4_byTable wsX4_byTable rm_X4_byTable [.ref m0, .int (nI a), .int (nI b)] [(m0, .inr (4, [.ref m1, .long ma, .ref m2, .ref m3, .int (nI np), .ref m4, .int (nI ln), .int th, .ref m5, .int (nI at_), .long hs])), (m1, .inl (g.2.1 0, 523, .inl rw))] (fun r => r = (mbF rw a b)) := by
  refine enR (y := yX4_byTable) (ws := wsX4_byTable) (av := [.ref m0, .int (nI a), .int (nI b)]) (cc := cX4_byTable) (maxL := 4) (ret := (some .int)) (by decide) rfl (Nat.le_of_ble_eq_true rfl) rfl ?_
  intro p e s m below meth c ls hx hb hr hml hown hts hlocks hE hP hl
  have hK := hE.1
  have hS : va_S noA s.heap s.heap [] := va_S.rf
  generalize hQ : MQ below _ _ s _ _ _ = Q9
  have hl : lv_has ls 4 [(0, .ref m0), (1, .int (nI a)), (2, .int (nI b))] := hl
  refine lv_iload_n hx hb dX4_byTable_0 rfl (lv_at hl 1 rfl) ?_
  refine lv_iload_n hx hb dX4_byTable_1 rfl (lv_at hl 2 rfl) ?_
  refine lv_icmp_le (tgt := 11) hx hb dX4_byTable_2 (by decide) (fun c2 => ?_) (fun c2 => ?_)
  · have n2 : a ≤ b := (nI_leI (a := a) (b := b) (by omega) (by omega)).mp c2
    refine lv_iload_n hx hb dX4_byTable_11 rfl (lv_at hl 2 rfl) ?_
    refine lv_iload_n hx hb dX4_byTable_12 rfl (lv_at hl 1 rfl) ?_
    refine lv_isub hx hb dX4_byTable_13 ?_
    refine lv_tope (y := (nI (ad a b))) (ad_ng n2) ?_
    refine lv_istore_n (lv' := [(3, .int (nI (ad a b))), (0, .ref m0), (1, .int (nI a)), (2, .int (nI b))]) hx hb dX4_byTable_14 rfl hl (by decide) rfl (fun ls hl => ?_)
    have had := ad_le hA5 hB5
    refine lv_aload_n hx hb dX4_byTable_15 rfl (lv_at hl 1 rfl) ?_
    refine va_get (D := g.1) (ci := 4) (v := .ref m1) (C := RX4) (T := TX4) (N := 11) hx hb hts in_X4_byTable_X4 hown hK hP 0 rfl rfl 0 (by decide) (hts _ (List.mem_of_getElem? (i := 1) rfl)) (fun _ h9 => h9) rfl dX4_byTable_16 ?_
    refine lv_bipush (v := 12) hx hb dX4_byTable_19 (by decide) ?_
    refine lv_iload_n hx hb dX4_byTable_21 rfl (lv_at hl 2 rfl) ?_
    refine lv_iadd hx hb dX4_byTable_22 ?_
    refine lv_tope (y := (nI (12 + a))) (show (12 + (nI a) : Int32) = nI (12 + a) from nI_add (12) (a)) ?_
    refine lv_iload_n hx hb dX4_byTable_23 rfl (lv_at hl 3 rfl) ?_
    refine lv_iadd hx hb dX4_byTable_24 ?_
    refine lv_tope (y := (nI ((12 + a) + b))) (show ((nI (12 + a)) + (nI b) : Int32) = nI ((12 + a) + b) from nI_add (12 + a) (b)) ?_
    refine gIald (k := ((12 + a) + b)) hx hb hE hP 1 rfl (by omega) (by omega) dX4_byTable_25 ?_
    refine lv_aload_n hx hb dX4_byTable_26 rfl (lv_at hl 1 rfl) ?_
    refine va_get (D := g.1) (ci := 4) (v := .ref m1) (C := RX4) (T := TX4) (N := 11) hx hb hts in_X4_byTable_X4 hown hK hP 0 rfl rfl 0 (by decide) (hts _ (List.mem_of_getElem? (i := 1) rfl)) (fun _ h9 => h9) rfl dX4_byTable_27 ?_
    refine lv_bipush (v := 12) hx hb dX4_byTable_30 (by decide) ?_
    refine lv_iload_n hx hb dX4_byTable_32 rfl (lv_at hl 0 rfl) ?_
    refine lv_iadd hx hb dX4_byTable_33 ?_
    refine lv_tope (y := (nI (12 + (ad a b)))) (show (12 + (nI (ad a b)) : Int32) = nI (12 + (ad a b)) from nI_add (12) (ad a b)) ?_
    refine gIald (k := (12 + (ad a b))) hx hb hE hP 1 rfl (by omega) (by omega) dX4_byTable_34 ?_
    refine lv_isub hx hb dX4_byTable_35 ?_
    subst hQ
    exact W.iret (v := ((rw ((12 + a) + b)) - (rw (12 + (ad a b))))) hx hb hr (fun t ht hW => ⟨⟨((rw ((12 + a) + b)) - (rw (12 + (ad a b)))), (), rfl, rfl, trivial⟩, hS.F ht⟩) hS.2.2 dX4_byTable_36
  · have n2 : b < a := Nat.lt_of_not_le (fun h9 => c2 ((nI_leI (a := a) (b := b) (by omega) (by omega)).mpr h9))
    refine lv_iload_n hx hb dX4_byTable_5 rfl (lv_at hl 1 rfl) ?_
    refine lv_iload_n hx hb dX4_byTable_6 rfl (lv_at hl 2 rfl) ?_
    refine lv_isub hx hb dX4_byTable_7 ?_
    refine lv_tope (y := (nI (ad a b))) (ad_gt n2) ?_
    refine lv_goto (tgt := 14) hx hb dX4_byTable_8 (by decide) ?_
    refine lv_istore_n (lv' := [(3, .int (nI (ad a b))), (0, .ref m0), (1, .int (nI a)), (2, .int (nI b))]) hx hb dX4_byTable_14 rfl hl (by decide) rfl (fun ls hl => ?_)
    have had := ad_le hA5 hB5
    refine lv_aload_n hx hb dX4_byTable_15 rfl (lv_at hl 1 rfl) ?_
    refine va_get (D := g.1) (ci := 4) (v := .ref m1) (C := RX4) (T := TX4) (N := 11) hx hb hts in_X4_byTable_X4 hown hK hP 0 rfl rfl 0 (by decide) (hts _ (List.mem_of_getElem? (i := 1) rfl)) (fun _ h9 => h9) rfl dX4_byTable_16 ?_
    refine lv_bipush (v := 12) hx hb dX4_byTable_19 (by decide) ?_
    refine lv_iload_n hx hb dX4_byTable_21 rfl (lv_at hl 2 rfl) ?_
    refine lv_iadd hx hb dX4_byTable_22 ?_
    refine lv_tope (y := (nI (12 + a))) (show (12 + (nI a) : Int32) = nI (12 + a) from nI_add (12) (a)) ?_
    refine lv_iload_n hx hb dX4_byTable_23 rfl (lv_at hl 3 rfl) ?_
    refine lv_iadd hx hb dX4_byTable_24 ?_
    refine lv_tope (y := (nI ((12 + a) + b))) (show ((nI (12 + a)) + (nI b) : Int32) = nI ((12 + a) + b) from nI_add (12 + a) (b)) ?_
    refine gIald (k := ((12 + a) + b)) hx hb hE hP 1 rfl (by omega) (by omega) dX4_byTable_25 ?_
    refine lv_aload_n hx hb dX4_byTable_26 rfl (lv_at hl 1 rfl) ?_
    refine va_get (D := g.1) (ci := 4) (v := .ref m1) (C := RX4) (T := TX4) (N := 11) hx hb hts in_X4_byTable_X4 hown hK hP 0 rfl rfl 0 (by decide) (hts _ (List.mem_of_getElem? (i := 1) rfl)) (fun _ h9 => h9) rfl dX4_byTable_27 ?_
    refine lv_bipush (v := 12) hx hb dX4_byTable_30 (by decide) ?_
    refine lv_iload_n hx hb dX4_byTable_32 rfl (lv_at hl 0 rfl) ?_
    refine lv_iadd hx hb dX4_byTable_33 ?_
    refine lv_tope (y := (nI (12 + (ad a b)))) (show (12 + (nI (ad a b)) : Int32) = nI (12 + (ad a b)) from nI_add (12) (ad a b)) ?_
    refine gIald (k := (12 + (ad a b))) hx hb hE hP 1 rfl (by omega) (by omega) dX4_byTable_34 ?_
    refine lv_isub hx hb dX4_byTable_35 ?_
    subst hQ
    exact W.iret (v := ((rw ((12 + a) + b)) - (rw (12 + (ad a b))))) hx hb hr (fun t ht hW => ⟨⟨((rw ((12 + a) + b)) - (rw (12 + (ad a b)))), (), rfl, rfl, trivial⟩, hS.F ht⟩) hS.2.2 dX4_byTable_36
abbrev rm_X4_bit : Room := { frames := 0, cells := 0, slots := 0, locals := 0 }
set_option maxRecDepth 100000 in
set_option maxHeartbeats 4000000 in
theorem c_X4_bit (l : Launch) (g : GT) (v : Int32) (k : Int32) : cRi l g yX4_bit wsX4_bit rm_X4_bit [.int v, .int k] [] (fun r => r = (btX v k)) := by
  refine enR (y := yX4_bit) (ws := wsX4_bit) (av := [.int v, .int k]) (cc := cX4_bit) (maxL := 2) (ret := (some .int)) (by decide) rfl (Nat.le_of_ble_eq_true rfl) rfl ?_
  intro p e s m below meth c ls hx hb hr hml hown hts hlocks hE hP hl
  have hK := hE.1
  have hS : va_S noA s.heap s.heap [] := va_S.rf
  generalize hQ : MQ below _ _ s _ _ _ = Q9
  have hl : lv_has ls 2 [(0, .int v), (1, .int k)] := hl
  refine lv_iload_n hx hb dX4_bit_0 rfl (lv_at hl 1 rfl) ?_
  refine lv_if_ge (tgt := 8) hx hb dX4_bit_1 (by decide) (fun c1 => ?_) (fun c1 => ?_)
  · refine lv_iload_n hx hb dX4_bit_8 rfl (lv_at hl 0 rfl) ?_
    refine lv_iload_n hx hb dX4_bit_9 rfl (lv_at hl 1 rfl) ?_
    refine lv_ishr hx hb dX4_bit_10 ?_
    refine lv_iconst (v := 1) hx hb dX4_bit_11 (by decide) ?_
    refine lv_iand hx hb dX4_bit_12 ?_
    subst hQ
    exact W.iret (v := ((v >>> (k &&& 31)) &&& 1)) hx hb hr (fun t ht hW => ⟨⟨((v >>> (k &&& 31)) &&& 1), (), rfl, by first | exact (if_pos c1).symm | exact (if_neg c1).symm, trivial⟩, hS.F ht⟩) hS.2.2 dX4_bit_13
  · refine lv_iconst (v := 0) hx hb dX4_bit_4 (by decide) ?_
    refine lv_goto (tgt := 13) hx hb dX4_bit_5 (by decide) ?_
    subst hQ
    exact W.iret (v := 0) hx hb hr (fun t ht hW => ⟨⟨0, (), rfl, by first | exact (if_pos c1).symm | exact (if_neg c1).symm, trivial⟩, hS.F ht⟩) hS.2.2 dX4_bit_13
abbrev rm_X4_turn : Room := { frames := 1, cells := 0, slots := 0, locals := 21 }
set_option maxRecDepth 100000 in
set_option maxHeartbeats 4000000 in
theorem c_X4_turn (l : Launch) (g : GT) (v : Int32) (k : Int32) (mt : Int32) : cRi l g yX4_turn wsX4_turn rm_X4_turn [.int v, .int k, .int mt] [] (fun r => r = (tuX v k mt)) := by
  refine enR (y := yX4_turn) (ws := wsX4_turn) (av := [.int v, .int k, .int mt]) (cc := cX4_turn) (maxL := 3) (ret := (some .int)) (by decide) rfl (Nat.le_of_ble_eq_true rfl) rfl ?_
  intro p e s m below meth c ls hx hb hr hml hown hts hlocks hE hP hl
  have hK := hE.1
  have hS : va_S noA s.heap s.heap [] := va_S.rf
  generalize hQ : MQ below _ _ s _ _ _ = Q9
  have hl : lv_has ls 3 [(0, .int v), (1, .int k), (2, .int mt)] := hl
  refine lv_iload_n hx hb dX4_turn_0 rfl (lv_at hl 2 rfl) ?_
  refine lv_iconst (v := 1) hx hb dX4_turn_1 (by decide) ?_
  refine lv_icmp_ne (tgt := 13) hx hb dX4_turn_2 (by decide) (fun c2 => ?_) (fun c2 => ?_)
  · refine lv_iload_n hx hb dX4_turn_13 rfl (lv_at hl 0 rfl) ?_
    refine lv_iload_n hx hb dX4_turn_14 rfl (lv_at hl 1 rfl) ?_
    refine lv_iconst (v := 1) hx hb dX4_turn_15 (by decide) ?_
    refine lv_isub hx hb dX4_turn_16 ?_
    refine kRi (va_runS (As := [.int v, .int (k - 1)]) (rest := []) ⟨hx, hb, hml, hown, hts⟩ (c_X4_bit l g v (k - 1)) (va_cwS 2 hts gX4_turn_X4_bit rfl rfl rfl (by decide +kernel) ⟨(Nat.le_of_ble_eq_true rfl), (Nat.le_of_ble_eq_true rfl)⟩) (preS hE hP [] rfl) rfl rfl hl.1 rfl (lv_room (Nat.le_of_ble_eq_true rfl)) dX4_turn_17 ⟨(Nat.le_of_ble_eq_true rfl), (Nat.le_of_ble_eq_true rfl)⟩) hP hS (fun r9 H locs hr9 hP hS => ?_)
    subst hr9
    refine lv_iload_n hx hb dX4_turn_20 rfl (lv_at hl 0 rfl) ?_
    refine lv_iload_n hx hb dX4_turn_21 rfl (lv_at hl 1 rfl) ?_
    refine kRi (va_runS (As := [.int v, .int k]) (rest := [.int (btX v (k - 1))]) ⟨hx, hb, hml, hown, hts⟩ (c_X4_bit l g v k) (va_cwS 2 hts gX4_turn_X4_bit rfl rfl rfl (by decide +kernel) ⟨(Nat.le_of_ble_eq_true rfl), (Nat.le_of_ble_eq_true rfl)⟩) (preS hE hP [] rfl) rfl rfl hl.1 rfl (lv_room (Nat.le_of_ble_eq_true rfl)) dX4_turn_22 ⟨(Nat.le_of_ble_eq_true rfl), (Nat.le_of_ble_eq_true rfl)⟩) hP hS (fun r9 H locs hr9 hP hS => ?_)
    subst hr9
    refine lv_isub hx hb dX4_turn_25 ?_
    subst hQ
    exact W.iret (v := ((btX v (k - 1)) - (btX v k))) hx hb hr (fun t ht hW => ⟨⟨((btX v (k - 1)) - (btX v k)), (), rfl, by first | exact (if_pos c2).symm | exact (if_neg c2).symm, trivial⟩, hS.F ht⟩) hS.2.2 dX4_turn_26
  · refine lv_iload_n hx hb dX4_turn_5 rfl (lv_at hl 0 rfl) ?_
    refine lv_iload_n hx hb dX4_turn_6 rfl (lv_at hl 1 rfl) ?_
    refine kRi (va_runS (As := [.int v, .int k]) (rest := []) ⟨hx, hb, hml, hown, hts⟩ (c_X4_bit l g v k) (va_cwS 2 hts gX4_turn_X4_bit rfl rfl rfl (by decide +kernel) ⟨(Nat.le_of_ble_eq_true rfl), (Nat.le_of_ble_eq_true rfl)⟩) (preS hE hP [] rfl) rfl rfl hl.1 rfl (lv_room (Nat.le_of_ble_eq_true rfl)) dX4_turn_7 ⟨(Nat.le_of_ble_eq_true rfl), (Nat.le_of_ble_eq_true rfl)⟩) hP hS (fun r9 H locs hr9 hP hS => ?_)
    subst hr9
    refine lv_goto (tgt := 26) hx hb dX4_turn_10 (by decide) ?_
    subst hQ
    exact W.iret (v := (btX v k)) hx hb hr (fun t ht hW => ⟨⟨(btX v k), (), rfl, by first | exact (if_pos c2).symm | exact (if_neg c2).symm, trivial⟩, hS.F ht⟩) hS.2.2 dX4_turn_26
abbrev rm_X4_byShifts : Room := { frames := 2, cells := 0, slots := 0, locals := 43 }
set_option maxRecDepth 100000 in
set_option maxHeartbeats 4000000 in
theorem c_X4_byShifts (l : Launch) (g : GT) (a : Nat) (b : Nat) (mt : Int32) : cRi l g yX4_byShifts wsX4_byShifts rm_X4_byShifts [.int (nI a), .int (nI b), .int mt] [] (fun r => r = (bsF a b mt)) := by
  refine enR (y := yX4_byShifts) (ws := wsX4_byShifts) (av := [.int (nI a), .int (nI b), .int mt]) (cc := cX4_byShifts) (maxL := 5) (ret := (some .int)) (by decide) rfl (Nat.le_of_ble_eq_true rfl) rfl ?_
  intro p e s m below meth c ls hx hb hr hml hown hts hlocks hE hP hl
  have hK := hE.1
  have hS : va_S noA s.heap s.heap [] := va_S.rf
  generalize hQ : MQ below _ _ s _ _ _ = Q9
  have hl : lv_has ls 5 [(0, .int (nI a)), (1, .int (nI b)), (2, .int mt)] := hl
  refine lv_iconst (v := 0) hx hb dX4_byShifts_0 (by decide) ?_
  refine lv_istore_n (lv' := [(3, .int 0), (0, .int (nI a)), (1, .int (nI b)), (2, .int mt)]) hx hb dX4_byShifts_1 rfl hl (by decide) rfl (fun ls hl => ?_)
  refine lv_iconst (v := 0) hx hb dX4_byShifts_2 (by decide) ?_
  refine lv_istore (lv' := [(4, .int 0), (3, .int 0), (0, .int (nI a)), (1, .int (nI b)), (2, .int mt)]) hx hb dX4_byShifts_3 hl (by decide) rfl (fun ls hl => ?_)
  have lp5 : ∀ (n9 : Nat) (k : Nat), 9 - k < n9 → (k ≤ 9) → ∀ (z1 : Int32), z1 = sI (bsT a b mt) k → ∀ (H : Heap) (locs : List Loc), va_P g.1 vwCl [] H → va_S noA s.heap H locs → ∀ (ls : Array Slot), lv_has ls 5 [(4, .int (nI k)), (3, .int z1), (0, .int (nI a)), (1, .int (nI b)), (2, .int mt)] → W p l e rm_X4_byShifts s m [Value.int (nI a), .int (nI b), .int mt].toArray below meth c H locs 0 0 Q9 (F0 m 5 ls []) := by
    intro n9
    induction n9 with
    | zero => intro k h9; exact absurd h9 (Nat.not_lt_zero _)
    | succ n9 ih5 =>
      intro k hm5 hk
      intro z1 e_z1; subst e_z1
      intro H locs hP hS ls hl
      refine lv_iload hx hb dX4_byShifts_5 (lv_at hl 0 rfl) ?_
      refine lv_bipush (v := 8) hx hb dX4_byShifts_7 (by decide) ?_
      refine lv_icmp_gt (tgt := 33) hx hb dX4_byShifts_9 (by decide) (fun c9 => ?_) (fun c9 => ?_)
      · have n9 : 8 < k := (nI_ltI (a := 8) (b := k) (by omega) (by omega)).mp c9
        have e9 : k = 9 := by omega
        refine lv_iload_n hx hb dX4_byShifts_33 rfl (lv_at hl 1 rfl) ?_
        subst hQ
        exact W.iret (v := (sI (bsT a b mt) k)) hx hb hr (fun t ht hW => ⟨⟨(sI (bsT a b mt) k), (), rfl, by rw [e9]; rfl, trivial⟩, hS.F ht⟩) hS.2.2 dX4_byShifts_34
      · have n9 : k ≤ 8 := Nat.le_of_not_lt (fun h9 => c9 ((nI_ltI (a := 8) (b := k) (by omega) (by omega)).mpr h9))
        refine lv_iload_n hx hb dX4_byShifts_12 rfl (lv_at hl 1 rfl) ?_
        refine lv_iload_n hx hb dX4_byShifts_13 rfl (lv_at hl 3 rfl) ?_
        refine lv_iload hx hb dX4_byShifts_14 (lv_at hl 0 rfl) ?_
        refine lv_iload_n hx hb dX4_byShifts_16 rfl (lv_at hl 4 rfl) ?_
        refine kRi (va_runS (As := [.int (nI b), .int (nI k), .int mt]) (rest := [.int (sI (bsT a b mt) k)]) ⟨hx, hb, hml, hown, hts⟩ (c_X4_turn l g (nI b) (nI k) mt) (va_cwS 3 hts gX4_byShifts_X4_turn rfl rfl rfl (by decide +kernel) ⟨(Nat.le_of_ble_eq_true rfl), (Nat.le_of_ble_eq_true rfl)⟩) (preS hE hP [] rfl) rfl rfl hl.1 rfl (lv_room (Nat.le_of_ble_eq_true rfl)) dX4_byShifts_17 ⟨(Nat.le_of_ble_eq_true rfl), (Nat.le_of_ble_eq_true rfl)⟩) hP hS (fun r9 H locs hr9 hP hS => ?_)
        subst hr9
        refine lv_iload_n hx hb dX4_byShifts_20 rfl (lv_at hl 2 rfl) ?_
        refine lv_iload hx hb dX4_byShifts_21 (lv_at hl 0 rfl) ?_
        refine lv_ishl hx hb dX4_byShifts_23 ?_
        refine lv_imul hx hb dX4_byShifts_24 ?_
        refine lv_iadd hx hb dX4_byShifts_25 ?_
        refine lv_istore_n (lv' := [(3, .int ((sI (bsT a b mt) k) + ((tuX (nI b) (nI k) mt) * ((nI a) <<< ((nI k) &&& 31))))), (4, .int (nI k)), (0, .int (nI a)), (1, .int (nI b)), (2, .int mt)]) hx hb dX4_byShifts_26 rfl hl (by decide) rfl (fun ls hl => ?_)
        refine lv_iinc (v := (nI (k + 1))) (lv' := [(4, .int (nI (k + 1))), (3, .int ((sI (bsT a b mt) k) + ((tuX (nI b) (nI k) mt) * ((nI a) <<< ((nI k) &&& 31))))), (0, .int (nI a)), (1, .int (nI b)), (2, .int mt)]) hx hb dX4_byShifts_27 hl (k := 1) rfl (nI_add (k) 1) (by decide) rfl (fun ls hl => ?_)
        refine lv_goto (tgt := 5) hx hb dX4_byShifts_30 (by decide) ?_
        exact ih5 (k + 1) (by omega) (by omega) ((sI (bsT a b mt) k) + ((tuX (nI b) (nI k) mt) * ((nI a) <<< ((nI k) &&& 31)))) rfl _ _ hP hS _ (lv_sub hl [0, 1, 2, 3, 4] rfl)
  exact lp5 ((9 - 0) + 1) 0 (Nat.lt_succ_self _) (by omega) 0 rfl _ _ hP hS _ (lv_sub hl [0, 1, 2, 3, 4] rfl)
abbrev rm_X4_product : Room := { frames := 3, cells := 0, slots := 0, locals := 67 }
set_option maxRecDepth 100000 in
set_option maxHeartbeats 4000000 in
theorem c_X4_product (l : Launch) (g : GT) (m0 : Nat) (m1 : Nat) (m2 : Nat) (m3 : Nat) (m4 : Nat) (m5 : Nat) (ma : Int64) (np : Nat) (ln : Nat) (th : Int32) (at_ : Nat) (hs : Int64) (rw : Nat → Int32) (w : Nat) (a : Nat) (b : Nat) (mt : Int32) (hA5 : a ≤ 255) (hB5 : b ≤ 255) : cRi l g yX4_product wsX4_product rm_X4_product [.ref m0, .int (nI a), .int (nI b), .int mt] [(m0, .inr (4, [.ref m1, .long ma, .ref m2, .ref m3, .int (nI np), .ref m4, .int (nI ln), .int th, .ref m5, .int (nI at_), .long hs])), (m1, .inl (g.2.1 0, 523, .inl rw))] (fun r => r = (mpF rw a b mt)) := by
  refine enR (y := yX4_product) (ws := wsX4_product) (av := [.ref m0, .int (nI a), .int (nI b), .int mt]) (cc := cX4_product) (maxL := 4) (ret := (some .int)) (by decide) rfl (Nat.le_of_ble_eq_true rfl) rfl ?_
  intro p e s m below meth c ls hx hb hr hml hown hts hlocks hE hP hl
  have hK := hE.1
  have hS : va_S noA s.heap s.heap [] := va_S.rf
  generalize hQ : MQ below _ _ s _ _ _ = Q9
  have hl : lv_has ls 4 [(0, .ref m0), (1, .int (nI a)), (2, .int (nI b)), (3, .int mt)] := hl
  refine lv_iload_n hx hb dX4_product_0 rfl (lv_at hl 3 rfl) ?_
  refine lv_if_ne (tgt := 13) hx hb dX4_product_1 (by decide) (fun c1 => ?_) (fun c1 => ?_)
  · refine lv_iload_n hx hb dX4_product_13 rfl (lv_at hl 1 rfl) ?_
    refine lv_iload_n hx hb dX4_product_14 rfl (lv_at hl 2 rfl) ?_
    refine lv_iload_n hx hb dX4_product_15 rfl (lv_at hl 3 rfl) ?_
    refine kRi (va_runS (As := [.int (nI a), .int (nI b), .int mt]) (rest := []) ⟨hx, hb, hml, hown, hts⟩ (c_X4_byShifts l g a b mt) (va_cwS 3 hts gX4_product_X4_byShifts rfl rfl rfl (by decide +kernel) ⟨(Nat.le_of_ble_eq_true rfl), (Nat.le_of_ble_eq_true rfl)⟩) (preS hE hP [] rfl) rfl rfl hl.1 rfl (lv_room (Nat.le_of_ble_eq_true rfl)) dX4_product_16 ⟨(Nat.le_of_ble_eq_true rfl), (Nat.le_of_ble_eq_true rfl)⟩) hP hS (fun r9 H locs hr9 hP hS => ?_)
    subst hr9
    subst hQ
    exact W.iret (v := (bsF a b mt)) hx hb hr (fun t ht hW => ⟨⟨(bsF a b mt), (), rfl, by first | exact (if_pos c1).symm | exact (if_neg c1).symm, trivial⟩, hS.F ht⟩) hS.2.2 dX4_product_19
  · refine lv_aload_n hx hb dX4_product_4 rfl (lv_at hl 0 rfl) ?_
    refine lv_iload_n hx hb dX4_product_5 rfl (lv_at hl 1 rfl) ?_
    refine lv_iload_n hx hb dX4_product_6 rfl (lv_at hl 2 rfl) ?_
    refine kRi (va_runV (As := [.int (nI a), .int (nI b)]) (rest := []) ⟨hx, hb, hml, hown, hts⟩ (c_X4_byTable l g m0 m1 m2 m3 m4 m5 ma np ln th at_ hs rw w a b (by first | assumption | omega | exact Nat.le_of_ble_eq_true rfl) (by first | assumption | omega | exact Nat.le_of_ble_eq_true rfl)) (cwV 2 hts gX4_product_X4_byTable rfl rfl rfl (by decide +kernel) ⟨(Nat.le_of_ble_eq_true rfl), (Nat.le_of_ble_eq_true rfl)⟩) (preV (RX4, TX4, 11) hE hP [0, 1] rfl rfl) rfl rfl hl.1 rfl (lv_room (Nat.le_of_ble_eq_true rfl)) dX4_product_7 ⟨(Nat.le_of_ble_eq_true rfl), (Nat.le_of_ble_eq_true rfl)⟩) hP hS (fun r9 H locs hr9 hP hS => ?_)
    subst hr9
    refine lv_goto (tgt := 19) hx hb dX4_product_10 (by decide) ?_
    subst hQ
    exact W.iret (v := (mbF rw a b)) hx hb hr (fun t ht hW => ⟨⟨(mbF rw a b), (), rfl, by first | exact (if_pos c1).symm | exact (if_neg c1).symm, trivial⟩, hS.F ht⟩) hS.2.2 dX4_product_19
theorem in_X4_price_X4 : ∀ w ∈ wsX40, w ∈ wsX4_price := by decide +kernel
abbrev rm_X4_price : Room := { frames := 2, cells := 0, slots := 0, locals := 43 }
set_option maxRecDepth 100000 in
set_option maxHeartbeats 4000000 in
theorem c_X4_price (l : Launch) (g : GT) (m0 : Nat) (m1 : Nat) (m2 : Nat) (m3 : Nat) (m4 : Nat) (m5 : Nat) (ma : Int64) (np : Nat) (ln : Nat) (th : Int32) (at_ : Nat) (hs : Int64) (rw : Nat → Int32) (w : Nat) (b : Nat) (mt : Int32) : cRi l g yX4_price wsX4_price rm_X4_price [.ref m0, .int (nI b), .int mt] [(m0, .inr (4, [.ref m1, .long ma, .ref m2, .ref m3, .int (nI np), .ref m4, .int (nI ln), .int th, .ref m5, .int (nI at_), .long hs])), (m1, .inl (g.2.1 0, 523, .inl rw))] (fun r => r = (mcF rw b mt)) := by
  refine enR (y := yX4_price) (ws := wsX4_price) (av := [.ref m0, .int (nI b), .int mt]) (cc := cX4_price) (maxL := 7) (ret := (some .int)) (by decide) rfl (Nat.le_of_ble_eq_true rfl) rfl ?_
  intro p e s m below meth c ls hx hb hr hml hown hts hlocks hE hP hl
  have hK := hE.1
  have hS : va_S noA s.heap s.heap [] := va_S.rf
  generalize hQ : MQ below _ _ s _ _ _ = Q9
  have hl : lv_has ls 7 [(0, .ref m0), (1, .int (nI b)), (2, .int mt)] := hl
  refine lv_iload_n hx hb dX4_price_0 rfl (lv_at hl 2 rfl) ?_
  refine lv_if_ne (tgt := 22) hx hb dX4_price_1 (by decide) (fun c1 => ?_) (fun c1 => ?_)
  · refine lv_iconst (v := 0) hx hb dX4_price_22 (by decide) ?_
    refine lv_istore_n (lv' := [(3, .int 0), (0, .ref m0), (1, .int (nI b)), (2, .int mt)]) hx hb dX4_price_23 rfl hl (by decide) rfl (fun ls hl => ?_)
    refine lv_iconst (v := 0) hx hb dX4_price_24 (by decide) ?_
    refine lv_istore (lv' := [(4, .int 0), (3, .int 0), (0, .ref m0), (1, .int (nI b)), (2, .int mt)]) hx hb dX4_price_25 hl (by decide) rfl (fun ls hl => ?_)
    refine lv_iconst (v := 0) hx hb dX4_price_27 (by decide) ?_
    refine lv_istore (lv' := [(5, .int 0), (4, .int 0), (3, .int 0), (0, .ref m0), (1, .int (nI b)), (2, .int mt)]) hx hb dX4_price_28 hl (by decide) rfl (fun ls hl => ?_)
    have lp30 : ∀ (n9 : Nat) (k : Nat), 9 - k < n9 → (k ≤ 9) → ∀ (z1 : Int32), z1 = sI (taF b mt) k → ∀ (z2 : Int32), z2 = hgF b mt k → ∀ (H : Heap) (locs : List Loc), va_P g.1 vwCl [(m0, .inr (4, [.ref m1, .long ma, .ref m2, .ref m3, .int (nI np), .ref m4, .int (nI ln), .int th, .ref m5, .int (nI at_), .long hs])), (m1, .inl (g.2.1 0, 523, .inl rw))] H → va_S noA s.heap H locs → ∀ (ls : Array Slot), lv_has ls 7 [(5, .int (nI k)), (4, .int z2), (3, .int z1), (0, .ref m0), (1, .int (nI b)), (2, .int mt)] → W p l e rm_X4_price s m [Value.ref m0, .int (nI b), .int mt].toArray below meth c H locs 0 0 Q9 (F0 m 30 ls []) := by
      intro n9
      induction n9 with
      | zero => intro k h9; exact absurd h9 (Nat.not_lt_zero _)
      | succ n9 ih30 =>
        intro k hm30 hk
        intro z1 e_z1; subst e_z1
        intro z2 e_z2; subst e_z2
        intro H locs hP hS ls hl
        refine lv_iload hx hb dX4_price_30 (lv_at hl 0 rfl) ?_
        refine lv_bipush (v := 8) hx hb dX4_price_32 (by decide) ?_
        refine lv_icmp_gt (tgt := 87) hx hb dX4_price_34 (by decide) (fun c34 => ?_) (fun c34 => ?_)
        · have n34 : 8 < k := (nI_ltI (a := 8) (b := k) (by omega) (by omega)).mp c34
          have e9 : k = 9 := by omega
          refine lv_iload_n hx hb dX4_price_87 rfl (lv_at hl 2 rfl) ?_
          refine lv_aload_n hx hb dX4_price_88 rfl (lv_at hl 3 rfl) ?_
          refine va_get (D := g.1) (ci := 4) (v := .ref m1) (C := RX4) (T := TX4) (N := 11) hx hb hts in_X4_price_X4 hown hK hP 0 rfl rfl 0 (by decide) (hts _ (List.mem_of_getElem? (i := 1) rfl)) (fun _ h9 => h9) rfl dX4_price_89 ?_
          refine lv_iconst (v := 2) hx hb dX4_price_92 (by decide) ?_
          refine lv_tope (y := (nI 2)) rfl ?_
          refine gIald (k := 2) hx hb hE hP 1 rfl (by omega) (by omega) dX4_price_93 ?_
          refine lv_imul hx hb dX4_price_94 ?_
          refine lv_iload hx hb dX4_price_95 (lv_at hl 1 rfl) ?_
          refine lv_aload_n hx hb dX4_price_97 rfl (lv_at hl 3 rfl) ?_
          refine va_get (D := g.1) (ci := 4) (v := .ref m1) (C := RX4) (T := TX4) (N := 11) hx hb hts in_X4_price_X4 hown hK hP 0 rfl rfl 0 (by decide) (hts _ (List.mem_of_getElem? (i := 1) rfl)) (fun _ h9 => h9) rfl dX4_price_98 ?_
          refine lv_iconst (v := 3) hx hb dX4_price_101 (by decide) ?_
          refine lv_tope (y := (nI 3)) rfl ?_
          refine gIald (k := 3) hx hb hE hP 1 rfl (by omega) (by omega) dX4_price_102 ?_
          refine lv_imul hx hb dX4_price_103 ?_
          refine lv_iadd hx hb dX4_price_104 ?_
          subst hQ
          exact W.iret (v := (((sI (taF b mt) k) * (rw 2)) + ((hgF b mt k) * (rw 3)))) hx hb hr (fun t ht hW => ⟨⟨(((sI (taF b mt) k) * (rw 2)) + ((hgF b mt k) * (rw 3))), (), rfl, by rw [e9]; exact (if_neg c1).symm, trivial⟩, hS.F ht⟩) hS.2.2 dX4_price_105
        · have n34 : k ≤ 8 := Nat.le_of_not_lt (fun h9 => c34 ((nI_ltI (a := 8) (b := k) (by omega) (by omega)).mpr h9))
          refine lv_iload_n hx hb dX4_price_37 rfl (lv_at hl 4 rfl) ?_
          refine lv_iload hx hb dX4_price_38 (lv_at hl 0 rfl) ?_
          refine lv_iload_n hx hb dX4_price_40 rfl (lv_at hl 5 rfl) ?_
          refine kRi (va_runS (As := [.int (nI b), .int (nI k), .int mt]) (rest := []) ⟨hx, hb, hml, hown, hts⟩ (c_X4_turn l g (nI b) (nI k) mt) (va_cwS 3 hts gX4_price_X4_turn rfl rfl rfl (by decide +kernel) ⟨(Nat.le_of_ble_eq_true rfl), (Nat.le_of_ble_eq_true rfl)⟩) (preS hE hP [] rfl) rfl rfl hl.1 rfl (lv_room (Nat.le_of_ble_eq_true rfl)) dX4_price_41 ⟨(Nat.le_of_ble_eq_true rfl), (Nat.le_of_ble_eq_true rfl)⟩) hP hS (fun r9 H locs hr9 hP hS => ?_)
          subst hr9
          refine lv_if_eq (tgt := 51) hx hb dX4_price_44 (by decide) (fun c44 => ?_) (fun c44 => ?_)
          · refine lv_iconst (v := 0) hx hb dX4_price_51 (by decide) ?_
            refine lv_istore (lv' := [(6, .int 0), (5, .int (nI k)), (4, .int (hgF b mt k)), (3, .int (sI (taF b mt) k)), (0, .ref m0), (1, .int (nI b)), (2, .int mt)]) hx hb dX4_price_52 hl (by decide) rfl (fun ls hl => ?_)
            refine lv_iload_n hx hb dX4_price_54 rfl (lv_at hl 3 rfl) ?_
            refine lv_iload hx hb dX4_price_55 (lv_at hl 0 rfl) ?_
            refine lv_if_eq (tgt := 64) hx hb dX4_price_57 (by decide) (fun c57 => ?_) (fun c57 => ?_)
            · refine lv_iconst (v := 0) hx hb dX4_price_64 (by decide) ?_
              refine lv_iadd hx hb dX4_price_65 ?_
              refine lv_istore_n (lv' := [(3, .int ((sI (taF b mt) k) + 0)), (6, .int 0), (5, .int (nI k)), (4, .int (hgF b mt k)), (0, .ref m0), (1, .int (nI b)), (2, .int mt)]) hx hb dX4_price_66 rfl hl (by decide) rfl (fun ls hl => ?_)
              refine lv_iload hx hb dX4_price_67 (lv_at hl 1 rfl) ?_
              refine lv_if_eq (tgt := 77) hx hb dX4_price_69 (by decide) (fun c69 => ?_) (fun c69 => ?_)
              · refine lv_iload hx hb dX4_price_77 (lv_at hl 3 rfl) ?_
                refine lv_istore (lv' := [(4, .int (hgF b mt k)), (3, .int ((sI (taF b mt) k) + 0)), (6, .int 0), (5, .int (nI k)), (0, .ref m0), (1, .int (nI b)), (2, .int mt)]) hx hb dX4_price_79 hl (by decide) rfl (fun ls hl => ?_)
                refine lv_iinc (v := (nI (k + 1))) (lv' := [(5, .int (nI (k + 1))), (4, .int (hgF b mt k)), (3, .int ((sI (taF b mt) k) + 0)), (6, .int 0), (0, .ref m0), (1, .int (nI b)), (2, .int mt)]) hx hb dX4_price_81 hl (k := 3) rfl (nI_add (k) 1) (by decide) rfl (fun ls hl => ?_)
                refine lv_goto (tgt := 30) hx hb dX4_price_84 (by decide) ?_
                exact ih30 (k + 1) (by omega) (by omega) ((sI (taF b mt) k) + 0) (by first | (show _ = sI (taF b mt) k + taF b mt k; rw [taF, if_pos c44]) | (show _ = sI (taF b mt) k + taF b mt k; rw [taF, if_neg c44])) (hgF b mt k) (by first | rw [hgF, if_pos c44] | rw [hgF, if_neg c44]) _ _ hP hS _ (lv_sub hl [0, 1, 2, 4, 5, 6] rfl)
              · exact absurd c69 (by decide)
            · exact absurd c57 (by decide)
          · refine lv_iconst (v := 1) hx hb dX4_price_47 (by decide) ?_
            refine lv_goto (tgt := 52) hx hb dX4_price_48 (by decide) ?_
            refine lv_istore (lv' := [(6, .int 1), (5, .int (nI k)), (4, .int (hgF b mt k)), (3, .int (sI (taF b mt) k)), (0, .ref m0), (1, .int (nI b)), (2, .int mt)]) hx hb dX4_price_52 hl (by decide) rfl (fun ls hl => ?_)
            refine lv_iload_n hx hb dX4_price_54 rfl (lv_at hl 3 rfl) ?_
            refine lv_iload hx hb dX4_price_55 (lv_at hl 0 rfl) ?_
            refine lv_if_eq (tgt := 64) hx hb dX4_price_57 (by decide) (fun c57 => ?_) (fun c57 => ?_)
            · exact absurd c57 (by decide)
            · refine lv_iconst (v := 1) hx hb dX4_price_60 (by decide) ?_
              refine lv_goto (tgt := 65) hx hb dX4_price_61 (by decide) ?_
              refine lv_iadd hx hb dX4_price_65 ?_
              refine lv_istore_n (lv' := [(3, .int ((sI (taF b mt) k) + 1)), (6, .int 1), (5, .int (nI k)), (4, .int (hgF b mt k)), (0, .ref m0), (1, .int (nI b)), (2, .int mt)]) hx hb dX4_price_66 rfl hl (by decide) rfl (fun ls hl => ?_)
              refine lv_iload hx hb dX4_price_67 (lv_at hl 1 rfl) ?_
              refine lv_if_eq (tgt := 77) hx hb dX4_price_69 (by decide) (fun c69 => ?_) (fun c69 => ?_)
              · exact absurd c69 (by decide)
              · refine lv_iload hx hb dX4_price_72 (lv_at hl 2 rfl) ?_
                refine lv_goto (tgt := 79) hx hb dX4_price_74 (by decide) ?_
                refine lv_istore (lv' := [(4, .int (nI k)), (3, .int ((sI (taF b mt) k) + 1)), (6, .int 1), (5, .int (nI k)), (0, .ref m0), (1, .int (nI b)), (2, .int mt)]) hx hb dX4_price_79 hl (by decide) rfl (fun ls hl => ?_)
                refine lv_iinc (v := (nI (k + 1))) (lv' := [(5, .int (nI (k + 1))), (4, .int (nI k)), (3, .int ((sI (taF b mt) k) + 1)), (6, .int 1), (0, .ref m0), (1, .int (nI b)), (2, .int mt)]) hx hb dX4_price_81 hl (k := 3) rfl (nI_add (k) 1) (by decide) rfl (fun ls hl => ?_)
                refine lv_goto (tgt := 30) hx hb dX4_price_84 (by decide) ?_
                exact ih30 (k + 1) (by omega) (by omega) ((sI (taF b mt) k) + 1) (by first | (show _ = sI (taF b mt) k + taF b mt k; rw [taF, if_pos c44]) | (show _ = sI (taF b mt) k + taF b mt k; rw [taF, if_neg c44])) (nI k) (by first | rw [hgF, if_pos c44] | rw [hgF, if_neg c44]) _ _ hP hS _ (lv_sub hl [0, 1, 2, 4, 5, 6] rfl)
    exact lp30 ((9 - 0) + 1) 0 (Nat.lt_succ_self _) (by omega) 0 rfl 0 rfl _ _ hP hS _ (lv_sub hl [0, 1, 2, 3, 4, 5] rfl)
  · refine lv_iconst (v := 2) hx hb dX4_price_4 (by decide) ?_
    refine lv_aload_n hx hb dX4_price_5 rfl (lv_at hl 0 rfl) ?_
    refine va_get (D := g.1) (ci := 4) (v := .ref m1) (C := RX4) (T := TX4) (N := 11) hx hb hts in_X4_price_X4 hown hK hP 0 rfl rfl 0 (by decide) (hts _ (List.mem_of_getElem? (i := 1) rfl)) (fun _ h9 => h9) rfl dX4_price_6 ?_
    refine lv_iconst (v := 1) hx hb dX4_price_9 (by decide) ?_
    refine lv_tope (y := (nI 1)) rfl ?_
    refine gIald (k := 1) hx hb hE hP 1 rfl (by omega) (by omega) dX4_price_10 ?_
    refine lv_imul hx hb dX4_price_11 ?_
    refine lv_iconst (v := 3) hx hb dX4_price_12 (by decide) ?_
    refine lv_aload_n hx hb dX4_price_13 rfl (lv_at hl 0 rfl) ?_
    refine va_get (D := g.1) (ci := 4) (v := .ref m1) (C := RX4) (T := TX4) (N := 11) hx hb hts in_X4_price_X4 hown hK hP 0 rfl rfl 0 (by decide) (hts _ (List.mem_of_getElem? (i := 1) rfl)) (fun _ h9 => h9) rfl dX4_price_14 ?_
    refine lv_iconst (v := 2) hx hb dX4_price_17 (by decide) ?_
    refine lv_tope (y := (nI 2)) rfl ?_
    refine gIald (k := 2) hx hb hE hP 1 rfl (by omega) (by omega) dX4_price_18 ?_
    refine lv_imul hx hb dX4_price_19 ?_
    refine lv_iadd hx hb dX4_price_20 ?_
    subst hQ
    exact W.iret (v := ((2 * (rw 1)) + (3 * (rw 2)))) hx hb hr (fun t ht hW => ⟨⟨((2 * (rw 1)) + (3 * (rw 2))), (), rfl, (if_pos c1).symm, trivial⟩, hS.F ht⟩) hS.2.2 dX4_price_21
abbrev rm_X4_cheapestOf : Room := { frames := 3, cells := 0, slots := 0, locals := 69 }
set_option maxRecDepth 100000 in
set_option maxHeartbeats 4000000 in
theorem c_X4_cheapestOf (l : Launch) (g : GT) (m0 : Nat) (m1 : Nat) (m2 : Nat) (m3 : Nat) (m4 : Nat) (m5 : Nat) (ma : Int64) (np : Nat) (ln : Nat) (th : Int32) (at_ : Nat) (hs : Int64) (rw : Nat → Int32) (w : Nat) (a : Nat) (b : Nat) (hA5 : a ≤ 255) (hB5 : b ≤ 255) : cRi l g yX4_cheapestOf wsX4_cheapestOf rm_X4_cheapestOf [.ref m0, .int (nI a), .int (nI b)] [(m0, .inr (4, [.ref m1, .long ma, .ref m2, .ref m3, .int (nI np), .ref m4, .int (nI ln), .int th, .ref m5, .int (nI at_), .long hs])), (m1, .inl (g.2.1 0, 523, .inl rw))] (fun r => r = (mhF rw a b)) := by
  refine enR (y := yX4_cheapestOf) (ws := wsX4_cheapestOf) (av := [.ref m0, .int (nI a), .int (nI b)]) (cc := cX4_cheapestOf) (maxL := 5) (ret := (some .int)) (by decide) rfl (Nat.le_of_ble_eq_true rfl) rfl ?_
  intro p e s m below meth c ls hx hb hr hml hown hts hlocks hE hP hl
  have hK := hE.1
  have hS : va_S noA s.heap s.heap [] := va_S.rf
  generalize hQ : MQ below _ _ s _ _ _ = Q9
  have hl : lv_has ls 5 [(0, .ref m0), (1, .int (nI a)), (2, .int (nI b))] := hl
  refine lv_aload_n hx hb dX4_cheapestOf_0 rfl (lv_at hl 0 rfl) ?_
  refine lv_iload_n hx hb dX4_cheapestOf_1 rfl (lv_at hl 2 rfl) ?_
  refine lv_iconst (v := 2) hx hb dX4_cheapestOf_2 (by decide) ?_
  refine kRi (va_runV (As := [.int (nI b), .int 2]) (rest := []) ⟨hx, hb, hml, hown, hts⟩ (c_X4_price l g m0 m1 m2 m3 m4 m5 ma np ln th at_ hs rw w b 2) (cwV 2 hts gX4_cheapestOf_X4_price rfl rfl rfl (by decide +kernel) ⟨(Nat.le_of_ble_eq_true rfl), (Nat.le_of_ble_eq_true rfl)⟩) (preV (RX4, TX4, 11) hE hP [0, 1] rfl rfl) rfl rfl hl.1 rfl (lv_room (Nat.le_of_ble_eq_true rfl)) dX4_cheapestOf_3 ⟨(Nat.le_of_ble_eq_true rfl), (Nat.le_of_ble_eq_true rfl)⟩) hP hS (fun r9 H locs hr9 hP hS => ?_)
  subst hr9
  refine lv_aload_n hx hb dX4_cheapestOf_6 rfl (lv_at hl 0 rfl) ?_
  refine lv_iload_n hx hb dX4_cheapestOf_7 rfl (lv_at hl 2 rfl) ?_
  refine lv_iconst (v := 1) hx hb dX4_cheapestOf_8 (by decide) ?_
  refine kRi (va_runV (As := [.int (nI b), .int 1]) (rest := [.int (mcF rw b 2)]) ⟨hx, hb, hml, hown, hts⟩ (c_X4_price l g m0 m1 m2 m3 m4 m5 ma np ln th at_ hs rw w b 1) (cwV 2 hts gX4_cheapestOf_X4_price rfl rfl rfl (by decide +kernel) ⟨(Nat.le_of_ble_eq_true rfl), (Nat.le_of_ble_eq_true rfl)⟩) (preV (RX4, TX4, 11) hE hP [0, 1] rfl rfl) rfl rfl hl.1 rfl (lv_room (Nat.le_of_ble_eq_true rfl)) dX4_cheapestOf_9 ⟨(Nat.le_of_ble_eq_true rfl), (Nat.le_of_ble_eq_true rfl)⟩) hP hS (fun r9 H locs hr9 hP hS => ?_)
  subst hr9
  refine lv_icmp_ge (tgt := 19) hx hb dX4_cheapestOf_12 (by decide) (fun c12 => ?_) (fun c12 => ?_)
  · refine lv_iconst (v := 1) hx hb dX4_cheapestOf_19 (by decide) ?_
    refine lv_istore_n (lv' := [(3, .int 1), (0, .ref m0), (1, .int (nI a)), (2, .int (nI b))]) hx hb dX4_cheapestOf_20 rfl hl (by decide) rfl (fun ls hl => ?_)
    refine lv_aload_n hx hb dX4_cheapestOf_21 rfl (lv_at hl 1 rfl) ?_
    refine lv_iload_n hx hb dX4_cheapestOf_22 rfl (lv_at hl 2 rfl) ?_
    refine lv_iload_n hx hb dX4_cheapestOf_23 rfl (lv_at hl 3 rfl) ?_
    refine kRi (va_runV (As := [.int (nI a), .int (nI b)]) (rest := []) ⟨hx, hb, hml, hown, hts⟩ (c_X4_byTable l g m0 m1 m2 m3 m4 m5 ma np ln th at_ hs rw w a b (by first | assumption | omega | exact Nat.le_of_ble_eq_true rfl) (by first | assumption | omega | exact Nat.le_of_ble_eq_true rfl)) (cwV 2 hts gX4_cheapestOf_X4_byTable rfl rfl rfl (by decide +kernel) ⟨(Nat.le_of_ble_eq_true rfl), (Nat.le_of_ble_eq_true rfl)⟩) (preV (RX4, TX4, 11) hE hP [0, 1] rfl rfl) rfl rfl hl.1 rfl (lv_room (Nat.le_of_ble_eq_true rfl)) dX4_cheapestOf_24 ⟨(Nat.le_of_ble_eq_true rfl), (Nat.le_of_ble_eq_true rfl)⟩) hP hS (fun r9 H locs hr9 hP hS => ?_)
    subst hr9
    refine lv_iload_n hx hb dX4_cheapestOf_27 rfl (lv_at hl 2 rfl) ?_
    refine lv_iload_n hx hb dX4_cheapestOf_28 rfl (lv_at hl 3 rfl) ?_
    refine lv_imul hx hb dX4_cheapestOf_29 ?_
    refine lv_tope (y := (nI (a * b))) (show ((nI a) * (nI b) : Int32) = nI (a * b) from pk_mul (a) (b)) ?_
    refine lv_icmp_ne (tgt := 52) hx hb dX4_cheapestOf_30 (by decide) (fun c30 => ?_) (fun c30 => ?_)
    · refine lv_iconst (v := 0) hx hb dX4_cheapestOf_52 (by decide) ?_
      refine lv_istore (lv' := [(4, .int 0), (3, .int 1), (0, .ref m0), (1, .int (nI a)), (2, .int (nI b))]) hx hb dX4_cheapestOf_53 hl (by decide) rfl (fun ls hl => ?_)
      refine lv_iload hx hb dX4_cheapestOf_55 (lv_at hl 0 rfl) ?_
      refine lv_if_eq (tgt := 64) hx hb dX4_cheapestOf_57 (by decide) (fun c57 => ?_) (fun c57 => ?_)
      · refine lv_iload_n hx hb dX4_cheapestOf_64 rfl (lv_at hl 1 rfl) ?_
        subst hQ
        exact W.iret (v := 1) hx hb hr (fun t ht hW => ⟨⟨1, (), rfl, by first | (have hB : mhB rw b = 1 := if_neg (Int32.not_lt.mpr c12); rw [mhF, hB]; first | exact (if_neg (fun h => c30 h.1)).symm | exact (if_neg (fun h => absurd h.2 (Int32.not_le.mpr c45))).symm | exact (if_pos ⟨c30, Int32.not_lt.mp c45⟩).symm) | (have hB : mhB rw b = 2 := if_pos (Int32.not_le.mp c12); rw [mhF, hB]; first | exact (if_neg (fun h => c30 h.1)).symm | exact (if_neg (fun h => absurd h.2 (Int32.not_le.mpr c45))).symm | exact (if_pos ⟨c30, Int32.not_lt.mp c45⟩).symm), trivial⟩, hS.F ht⟩) hS.2.2 dX4_cheapestOf_65
      · exact absurd c57 (by decide)
    · refine lv_aload_n hx hb dX4_cheapestOf_33 rfl (lv_at hl 1 rfl) ?_
      refine lv_iload_n hx hb dX4_cheapestOf_34 rfl (lv_at hl 3 rfl) ?_
      refine lv_iconst (v := 0) hx hb dX4_cheapestOf_35 (by decide) ?_
      refine kRi (va_runV (As := [.int (nI b), .int 0]) (rest := []) ⟨hx, hb, hml, hown, hts⟩ (c_X4_price l g m0 m1 m2 m3 m4 m5 ma np ln th at_ hs rw w b 0) (cwV 2 hts gX4_cheapestOf_X4_price rfl rfl rfl (by decide +kernel) ⟨(Nat.le_of_ble_eq_true rfl), (Nat.le_of_ble_eq_true rfl)⟩) (preV (RX4, TX4, 11) hE hP [0, 1] rfl rfl) rfl rfl hl.1 rfl (lv_room (Nat.le_of_ble_eq_true rfl)) dX4_cheapestOf_36 ⟨(Nat.le_of_ble_eq_true rfl), (Nat.le_of_ble_eq_true rfl)⟩) hP hS (fun r9 H locs hr9 hP hS => ?_)
      subst hr9
      refine lv_aload_n hx hb dX4_cheapestOf_39 rfl (lv_at hl 1 rfl) ?_
      refine lv_iload_n hx hb dX4_cheapestOf_40 rfl (lv_at hl 3 rfl) ?_
      refine lv_iload_n hx hb dX4_cheapestOf_41 rfl (lv_at hl 0 rfl) ?_
      refine kRi (va_runV (As := [.int (nI b), .int 1]) (rest := [.int (mcF rw b 0)]) ⟨hx, hb, hml, hown, hts⟩ (c_X4_price l g m0 m1 m2 m3 m4 m5 ma np ln th at_ hs rw w b 1) (cwV 2 hts gX4_cheapestOf_X4_price rfl rfl rfl (by decide +kernel) ⟨(Nat.le_of_ble_eq_true rfl), (Nat.le_of_ble_eq_true rfl)⟩) (preV (RX4, TX4, 11) hE hP [0, 1] rfl rfl) rfl rfl hl.1 rfl (lv_room (Nat.le_of_ble_eq_true rfl)) dX4_cheapestOf_42 ⟨(Nat.le_of_ble_eq_true rfl), (Nat.le_of_ble_eq_true rfl)⟩) hP hS (fun r9 H locs hr9 hP hS => ?_)
      subst hr9
      refine lv_icmp_gt (tgt := 52) hx hb dX4_cheapestOf_45 (by decide) (fun c45 => ?_) (fun c45 => ?_)
      · refine lv_iconst (v := 0) hx hb dX4_cheapestOf_52 (by decide) ?_
        refine lv_istore (lv' := [(4, .int 0), (3, .int 1), (0, .ref m0), (1, .int (nI a)), (2, .int (nI b))]) hx hb dX4_cheapestOf_53 hl (by decide) rfl (fun ls hl => ?_)
        refine lv_iload hx hb dX4_cheapestOf_55 (lv_at hl 0 rfl) ?_
        refine lv_if_eq (tgt := 64) hx hb dX4_cheapestOf_57 (by decide) (fun c57 => ?_) (fun c57 => ?_)
        · refine lv_iload_n hx hb dX4_cheapestOf_64 rfl (lv_at hl 1 rfl) ?_
          subst hQ
          exact W.iret (v := 1) hx hb hr (fun t ht hW => ⟨⟨1, (), rfl, by first | (have hB : mhB rw b = 1 := if_neg (Int32.not_lt.mpr c12); rw [mhF, hB]; first | exact (if_neg (fun h => c30 h.1)).symm | exact (if_neg (fun h => absurd h.2 (Int32.not_le.mpr c45))).symm | exact (if_pos ⟨c30, Int32.not_lt.mp c45⟩).symm) | (have hB : mhB rw b = 2 := if_pos (Int32.not_le.mp c12); rw [mhF, hB]; first | exact (if_neg (fun h => c30 h.1)).symm | exact (if_neg (fun h => absurd h.2 (Int32.not_le.mpr c45))).symm | exact (if_pos ⟨c30, Int32.not_lt.mp c45⟩).symm), trivial⟩, hS.F ht⟩) hS.2.2 dX4_cheapestOf_65
        · exact absurd c57 (by decide)
      · refine lv_iconst (v := 1) hx hb dX4_cheapestOf_48 (by decide) ?_
        refine lv_goto (tgt := 53) hx hb dX4_cheapestOf_49 (by decide) ?_
        refine lv_istore (lv' := [(4, .int 1), (3, .int 1), (0, .ref m0), (1, .int (nI a)), (2, .int (nI b))]) hx hb dX4_cheapestOf_53 hl (by decide) rfl (fun ls hl => ?_)
        refine lv_iload hx hb dX4_cheapestOf_55 (lv_at hl 0 rfl) ?_
        refine lv_if_eq (tgt := 64) hx hb dX4_cheapestOf_57 (by decide) (fun c57 => ?_) (fun c57 => ?_)
        · exact absurd c57 (by decide)
        · refine lv_iconst (v := 0) hx hb dX4_cheapestOf_60 (by decide) ?_
          refine lv_goto (tgt := 65) hx hb dX4_cheapestOf_61 (by decide) ?_
          subst hQ
          exact W.iret (v := 0) hx hb hr (fun t ht hW => ⟨⟨0, (), rfl, by first | (have hB : mhB rw b = 1 := if_neg (Int32.not_lt.mpr c12); rw [mhF, hB]; first | exact (if_neg (fun h => c30 h.1)).symm | exact (if_neg (fun h => absurd h.2 (Int32.not_le.mpr c45))).symm | exact (if_pos ⟨c30, Int32.not_lt.mp c45⟩).symm) | (have hB : mhB rw b = 2 := if_pos (Int32.not_le.mp c12); rw [mhF, hB]; first | exact (if_neg (fun h => c30 h.1)).symm | exact (if_neg (fun h => absurd h.2 (Int32.not_le.mpr c45))).symm | exact (if_pos ⟨c30, Int32.not_lt.mp c45⟩).symm), trivial⟩, hS.F ht⟩) hS.2.2 dX4_cheapestOf_65
  · refine lv_iconst (v := 2) hx hb dX4_cheapestOf_15 (by decide) ?_
    refine lv_goto (tgt := 20) hx hb dX4_cheapestOf_16 (by decide) ?_
    refine lv_istore_n (lv' := [(3, .int 2), (0, .ref m0), (1, .int (nI a)), (2, .int (nI b))]) hx hb dX4_cheapestOf_20 rfl hl (by decide) rfl (fun ls hl => ?_)
    refine lv_aload_n hx hb dX4_cheapestOf_21 rfl (lv_at hl 1 rfl) ?_
    refine lv_iload_n hx hb dX4_cheapestOf_22 rfl (lv_at hl 2 rfl) ?_
    refine lv_iload_n hx hb dX4_cheapestOf_23 rfl (lv_at hl 3 rfl) ?_
    refine kRi (va_runV (As := [.int (nI a), .int (nI b)]) (rest := []) ⟨hx, hb, hml, hown, hts⟩ (c_X4_byTable l g m0 m1 m2 m3 m4 m5 ma np ln th at_ hs rw w a b (by first | assumption | omega | exact Nat.le_of_ble_eq_true rfl) (by first | assumption | omega | exact Nat.le_of_ble_eq_true rfl)) (cwV 2 hts gX4_cheapestOf_X4_byTable rfl rfl rfl (by decide +kernel) ⟨(Nat.le_of_ble_eq_true rfl), (Nat.le_of_ble_eq_true rfl)⟩) (preV (RX4, TX4, 11) hE hP [0, 1] rfl rfl) rfl rfl hl.1 rfl (lv_room (Nat.le_of_ble_eq_true rfl)) dX4_cheapestOf_24 ⟨(Nat.le_of_ble_eq_true rfl), (Nat.le_of_ble_eq_true rfl)⟩) hP hS (fun r9 H locs hr9 hP hS => ?_)
    subst hr9
    refine lv_iload_n hx hb dX4_cheapestOf_27 rfl (lv_at hl 2 rfl) ?_
    refine lv_iload_n hx hb dX4_cheapestOf_28 rfl (lv_at hl 3 rfl) ?_
    refine lv_imul hx hb dX4_cheapestOf_29 ?_
    refine lv_tope (y := (nI (a * b))) (show ((nI a) * (nI b) : Int32) = nI (a * b) from pk_mul (a) (b)) ?_
    refine lv_icmp_ne (tgt := 52) hx hb dX4_cheapestOf_30 (by decide) (fun c30 => ?_) (fun c30 => ?_)
    · refine lv_iconst (v := 0) hx hb dX4_cheapestOf_52 (by decide) ?_
      refine lv_istore (lv' := [(4, .int 0), (3, .int 2), (0, .ref m0), (1, .int (nI a)), (2, .int (nI b))]) hx hb dX4_cheapestOf_53 hl (by decide) rfl (fun ls hl => ?_)
      refine lv_iload hx hb dX4_cheapestOf_55 (lv_at hl 0 rfl) ?_
      refine lv_if_eq (tgt := 64) hx hb dX4_cheapestOf_57 (by decide) (fun c57 => ?_) (fun c57 => ?_)
      · refine lv_iload_n hx hb dX4_cheapestOf_64 rfl (lv_at hl 1 rfl) ?_
        subst hQ
        exact W.iret (v := 2) hx hb hr (fun t ht hW => ⟨⟨2, (), rfl, by first | (have hB : mhB rw b = 1 := if_neg (Int32.not_lt.mpr c12); rw [mhF, hB]; first | exact (if_neg (fun h => c30 h.1)).symm | exact (if_neg (fun h => absurd h.2 (Int32.not_le.mpr c45))).symm | exact (if_pos ⟨c30, Int32.not_lt.mp c45⟩).symm) | (have hB : mhB rw b = 2 := if_pos (Int32.not_le.mp c12); rw [mhF, hB]; first | exact (if_neg (fun h => c30 h.1)).symm | exact (if_neg (fun h => absurd h.2 (Int32.not_le.mpr c45))).symm | exact (if_pos ⟨c30, Int32.not_lt.mp c45⟩).symm), trivial⟩, hS.F ht⟩) hS.2.2 dX4_cheapestOf_65
      · exact absurd c57 (by decide)
    · refine lv_aload_n hx hb dX4_cheapestOf_33 rfl (lv_at hl 1 rfl) ?_
      refine lv_iload_n hx hb dX4_cheapestOf_34 rfl (lv_at hl 3 rfl) ?_
      refine lv_iconst (v := 0) hx hb dX4_cheapestOf_35 (by decide) ?_
      refine kRi (va_runV (As := [.int (nI b), .int 0]) (rest := []) ⟨hx, hb, hml, hown, hts⟩ (c_X4_price l g m0 m1 m2 m3 m4 m5 ma np ln th at_ hs rw w b 0) (cwV 2 hts gX4_cheapestOf_X4_price rfl rfl rfl (by decide +kernel) ⟨(Nat.le_of_ble_eq_true rfl), (Nat.le_of_ble_eq_true rfl)⟩) (preV (RX4, TX4, 11) hE hP [0, 1] rfl rfl) rfl rfl hl.1 rfl (lv_room (Nat.le_of_ble_eq_true rfl)) dX4_cheapestOf_36 ⟨(Nat.le_of_ble_eq_true rfl), (Nat.le_of_ble_eq_true rfl)⟩) hP hS (fun r9 H locs hr9 hP hS => ?_)
      subst hr9
      refine lv_aload_n hx hb dX4_cheapestOf_39 rfl (lv_at hl 1 rfl) ?_
      refine lv_iload_n hx hb dX4_cheapestOf_40 rfl (lv_at hl 3 rfl) ?_
      refine lv_iload_n hx hb dX4_cheapestOf_41 rfl (lv_at hl 0 rfl) ?_
      refine kRi (va_runV (As := [.int (nI b), .int 2]) (rest := [.int (mcF rw b 0)]) ⟨hx, hb, hml, hown, hts⟩ (c_X4_price l g m0 m1 m2 m3 m4 m5 ma np ln th at_ hs rw w b 2) (cwV 2 hts gX4_cheapestOf_X4_price rfl rfl rfl (by decide +kernel) ⟨(Nat.le_of_ble_eq_true rfl), (Nat.le_of_ble_eq_true rfl)⟩) (preV (RX4, TX4, 11) hE hP [0, 1] rfl rfl) rfl rfl hl.1 rfl (lv_room (Nat.le_of_ble_eq_true rfl)) dX4_cheapestOf_42 ⟨(Nat.le_of_ble_eq_true rfl), (Nat.le_of_ble_eq_true rfl)⟩) hP hS (fun r9 H locs hr9 hP hS => ?_)
      subst hr9
      refine lv_icmp_gt (tgt := 52) hx hb dX4_cheapestOf_45 (by decide) (fun c45 => ?_) (fun c45 => ?_)
      · refine lv_iconst (v := 0) hx hb dX4_cheapestOf_52 (by decide) ?_
        refine lv_istore (lv' := [(4, .int 0), (3, .int 2), (0, .ref m0), (1, .int (nI a)), (2, .int (nI b))]) hx hb dX4_cheapestOf_53 hl (by decide) rfl (fun ls hl => ?_)
        refine lv_iload hx hb dX4_cheapestOf_55 (lv_at hl 0 rfl) ?_
        refine lv_if_eq (tgt := 64) hx hb dX4_cheapestOf_57 (by decide) (fun c57 => ?_) (fun c57 => ?_)
        · refine lv_iload_n hx hb dX4_cheapestOf_64 rfl (lv_at hl 1 rfl) ?_
          subst hQ
          exact W.iret (v := 2) hx hb hr (fun t ht hW => ⟨⟨2, (), rfl, by first | (have hB : mhB rw b = 1 := if_neg (Int32.not_lt.mpr c12); rw [mhF, hB]; first | exact (if_neg (fun h => c30 h.1)).symm | exact (if_neg (fun h => absurd h.2 (Int32.not_le.mpr c45))).symm | exact (if_pos ⟨c30, Int32.not_lt.mp c45⟩).symm) | (have hB : mhB rw b = 2 := if_pos (Int32.not_le.mp c12); rw [mhF, hB]; first | exact (if_neg (fun h => c30 h.1)).symm | exact (if_neg (fun h => absurd h.2 (Int32.not_le.mpr c45))).symm | exact (if_pos ⟨c30, Int32.not_lt.mp c45⟩).symm), trivial⟩, hS.F ht⟩) hS.2.2 dX4_cheapestOf_65
        · exact absurd c57 (by decide)
      · refine lv_iconst (v := 1) hx hb dX4_cheapestOf_48 (by decide) ?_
        refine lv_goto (tgt := 53) hx hb dX4_cheapestOf_49 (by decide) ?_
        refine lv_istore (lv' := [(4, .int 1), (3, .int 2), (0, .ref m0), (1, .int (nI a)), (2, .int (nI b))]) hx hb dX4_cheapestOf_53 hl (by decide) rfl (fun ls hl => ?_)
        refine lv_iload hx hb dX4_cheapestOf_55 (lv_at hl 0 rfl) ?_
        refine lv_if_eq (tgt := 64) hx hb dX4_cheapestOf_57 (by decide) (fun c57 => ?_) (fun c57 => ?_)
        · exact absurd c57 (by decide)
        · refine lv_iconst (v := 0) hx hb dX4_cheapestOf_60 (by decide) ?_
          refine lv_goto (tgt := 65) hx hb dX4_cheapestOf_61 (by decide) ?_
          subst hQ
          exact W.iret (v := 0) hx hb hr (fun t ht hW => ⟨⟨0, (), rfl, by first | (have hB : mhB rw b = 1 := if_neg (Int32.not_lt.mpr c12); rw [mhF, hB]; first | exact (if_neg (fun h => c30 h.1)).symm | exact (if_neg (fun h => absurd h.2 (Int32.not_le.mpr c45))).symm | exact (if_pos ⟨c30, Int32.not_lt.mp c45⟩).symm) | (have hB : mhB rw b = 2 := if_pos (Int32.not_le.mp c12); rw [mhF, hB]; first | exact (if_neg (fun h => c30 h.1)).symm | exact (if_neg (fun h => absurd h.2 (Int32.not_le.mpr c45))).symm | exact (if_pos ⟨c30, Int32.not_lt.mp c45⟩).symm), trivial⟩, hS.F ht⟩) hS.2.2 dX4_cheapestOf_65
abbrev rm_X4_rounded : Room := { frames := 0, cells := 0, slots := 0, locals := 0 }
set_option maxRecDepth 100000 in
set_option maxHeartbeats 4000000 in
theorem c_X4_rounded (l : Launch) (g : GT) (pd : Int32) (kp : Int32) (wy : Int32) : cRi l g yX4_rounded wsX4_rounded rm_X4_rounded [.int pd, .int kp, .int wy] [] (fun r => r = (mrF pd kp wy)) := by
  refine enR (y := yX4_rounded) (ws := wsX4_rounded) (av := [.int pd, .int kp, .int wy]) (cc := cX4_rounded) (maxL := 6) (ret := (some .int)) (by decide) rfl (Nat.le_of_ble_eq_true rfl) rfl ?_
  intro p e s m below meth c ls hx hb hr hml hown hts hlocks hE hP hl
  have hK := hE.1
  have hS : va_S noA s.heap s.heap [] := va_S.rf
  generalize hQ : MQ below _ _ s _ _ _ = Q9
  have hl : lv_has ls 6 [(0, .int pd), (1, .int kp), (2, .int wy)] := hl
  refine lv_iload_n hx hb dX4_rounded_0 rfl (lv_at hl 0 rfl) ?_
  refine lv_iload_n hx hb dX4_rounded_1 rfl (lv_at hl 1 rfl) ?_
  refine lv_ishr hx hb dX4_rounded_2 ?_
  refine lv_istore_n (lv' := [(3, .int (pd >>> (kp &&& 31))), (0, .int pd), (1, .int kp), (2, .int wy)]) hx hb dX4_rounded_3 rfl hl (by decide) rfl (fun ls hl => ?_)
  refine lv_iconst (v := 2) hx hb dX4_rounded_4 (by decide) ?_
  refine lv_iload_n hx hb dX4_rounded_5 rfl (lv_at hl 1 rfl) ?_
  refine lv_iload_n hx hb dX4_rounded_6 rfl (lv_at hl 0 rfl) ?_
  refine lv_iload_n hx hb dX4_rounded_7 rfl (lv_at hl 2 rfl) ?_
  refine lv_ishl hx hb dX4_rounded_8 ?_
  refine lv_isub hx hb dX4_rounded_9 ?_
  refine lv_imul hx hb dX4_rounded_10 ?_
  refine lv_istore (lv' := [(4, .int (2 * (pd - ((pd >>> (kp &&& 31)) <<< (kp &&& 31))))), (3, .int (pd >>> (kp &&& 31))), (0, .int pd), (1, .int kp), (2, .int wy)]) hx hb dX4_rounded_11 hl (by decide) rfl (fun ls hl => ?_)
  refine lv_iconst (v := 1) hx hb dX4_rounded_13 (by decide) ?_
  refine lv_iload_n hx hb dX4_rounded_14 rfl (lv_at hl 3 rfl) ?_
  refine lv_ishl hx hb dX4_rounded_15 ?_
  refine lv_istore (lv' := [(5, .int ((1 : Int32) <<< (kp &&& 31))), (4, .int (2 * (pd - ((pd >>> (kp &&& 31)) <<< (kp &&& 31))))), (3, .int (pd >>> (kp &&& 31))), (0, .int pd), (1, .int kp), (2, .int wy)]) hx hb dX4_rounded_16 hl (by decide) rfl (fun ls hl => ?_)
  refine lv_iload_n hx hb dX4_rounded_18 rfl (lv_at hl 5 rfl) ?_
  refine lv_if_eq (tgt := 29) hx hb dX4_rounded_19 (by decide) (fun c19 => ?_) (fun c19 => ?_)
  · refine lv_iload_n hx hb dX4_rounded_29 rfl (lv_at hl 2 rfl) ?_
    subst hQ
    exact W.iret (v := (pd >>> (kp &&& 31))) hx hb hr (fun t ht hW => ⟨⟨(pd >>> (kp &&& 31)), (), rfl, (if_pos (by first | exact Or.inl c19 | exact Or.inr (Int32.not_le.mp c26))).symm, trivial⟩, hS.F ht⟩) hS.2.2 dX4_rounded_30
  · refine lv_iload hx hb dX4_rounded_22 (lv_at hl 1 rfl) ?_
    refine lv_iload hx hb dX4_rounded_24 (lv_at hl 0 rfl) ?_
    refine lv_icmp_ge (tgt := 31) hx hb dX4_rounded_26 (by decide) (fun c26 => ?_) (fun c26 => ?_)
    · refine lv_iload hx hb dX4_rounded_31 (lv_at hl 1 rfl) ?_
      refine lv_iload hx hb dX4_rounded_33 (lv_at hl 0 rfl) ?_
      refine lv_icmp_gt (tgt := 49) hx hb dX4_rounded_35 (by decide) (fun c35 => ?_) (fun c35 => ?_)
      · refine lv_iload_n hx hb dX4_rounded_49 rfl (lv_at hl 2 rfl) ?_
        refine lv_iconst (v := 1) hx hb dX4_rounded_50 (by decide) ?_
        refine lv_iadd hx hb dX4_rounded_51 ?_
        refine lv_goto (tgt := 56) hx hb dX4_rounded_52 (by decide) ?_
        subst hQ
        exact W.iret (v := ((pd >>> (kp &&& 31)) + 1)) hx hb hr (fun t ht hW => ⟨⟨((pd >>> (kp &&& 31)) + 1), (), rfl, ((if_neg (fun h => h.elim c19 (fun h => absurd c26 (Int32.not_le.mpr h)))).trans (by first | exact if_pos (Or.inl c35) | exact if_pos (Or.inr (Or.inl c40)) | exact if_pos (Or.inr (Or.inr c46)) | exact if_neg (fun h => h.elim c35 (fun h => h.elim c40 (fun h => h c46))))).symm, trivial⟩, hS.F ht⟩) hS.2.2 dX4_rounded_56
      · refine lv_iload_n hx hb dX4_rounded_38 rfl (lv_at hl 5 rfl) ?_
        refine lv_iconst (v := 1) hx hb dX4_rounded_39 (by decide) ?_
        refine lv_icmp_eq (tgt := 49) hx hb dX4_rounded_40 (by decide) (fun c40 => ?_) (fun c40 => ?_)
        · refine lv_iload_n hx hb dX4_rounded_49 rfl (lv_at hl 2 rfl) ?_
          refine lv_iconst (v := 1) hx hb dX4_rounded_50 (by decide) ?_
          refine lv_iadd hx hb dX4_rounded_51 ?_
          refine lv_goto (tgt := 56) hx hb dX4_rounded_52 (by decide) ?_
          subst hQ
          exact W.iret (v := ((pd >>> (kp &&& 31)) + 1)) hx hb hr (fun t ht hW => ⟨⟨((pd >>> (kp &&& 31)) + 1), (), rfl, ((if_neg (fun h => h.elim c19 (fun h => absurd c26 (Int32.not_le.mpr h)))).trans (by first | exact if_pos (Or.inl c35) | exact if_pos (Or.inr (Or.inl c40)) | exact if_pos (Or.inr (Or.inr c46)) | exact if_neg (fun h => h.elim c35 (fun h => h.elim c40 (fun h => h c46))))).symm, trivial⟩, hS.F ht⟩) hS.2.2 dX4_rounded_56
        · refine lv_iload_n hx hb dX4_rounded_43 rfl (lv_at hl 2 rfl) ?_
          refine lv_iconst (v := 2) hx hb dX4_rounded_44 (by decide) ?_
          refine lv_irem hx hb dX4_rounded_45 (by decide) ?_
          refine lv_if_eq (tgt := 55) hx hb dX4_rounded_46 (by decide) (fun c46 => ?_) (fun c46 => ?_)
          · refine lv_iload_n hx hb dX4_rounded_55 rfl (lv_at hl 2 rfl) ?_
            subst hQ
            exact W.iret (v := (pd >>> (kp &&& 31))) hx hb hr (fun t ht hW => ⟨⟨(pd >>> (kp &&& 31)), (), rfl, ((if_neg (fun h => h.elim c19 (fun h => absurd c26 (Int32.not_le.mpr h)))).trans (by first | exact if_pos (Or.inl c35) | exact if_pos (Or.inr (Or.inl c40)) | exact if_pos (Or.inr (Or.inr c46)) | exact if_neg (fun h => h.elim c35 (fun h => h.elim c40 (fun h => h c46))))).symm, trivial⟩, hS.F ht⟩) hS.2.2 dX4_rounded_56
          · refine lv_iload_n hx hb dX4_rounded_49 rfl (lv_at hl 2 rfl) ?_
            refine lv_iconst (v := 1) hx hb dX4_rounded_50 (by decide) ?_
            refine lv_iadd hx hb dX4_rounded_51 ?_
            refine lv_goto (tgt := 56) hx hb dX4_rounded_52 (by decide) ?_
            subst hQ
            exact W.iret (v := ((pd >>> (kp &&& 31)) + 1)) hx hb hr (fun t ht hW => ⟨⟨((pd >>> (kp &&& 31)) + 1), (), rfl, ((if_neg (fun h => h.elim c19 (fun h => absurd c26 (Int32.not_le.mpr h)))).trans (by first | exact if_pos (Or.inl c35) | exact if_pos (Or.inr (Or.inl c40)) | exact if_pos (Or.inr (Or.inr c46)) | exact if_neg (fun h => h.elim c35 (fun h => h.elim c40 (fun h => h c46))))).symm, trivial⟩, hS.F ht⟩) hS.2.2 dX4_rounded_56
    · refine lv_iload_n hx hb dX4_rounded_29 rfl (lv_at hl 2 rfl) ?_
      subst hQ
      exact W.iret (v := (pd >>> (kp &&& 31))) hx hb hr (fun t ht hW => ⟨⟨(pd >>> (kp &&& 31)), (), rfl, (if_pos (by first | exact Or.inl c19 | exact Or.inr (Int32.not_le.mp c26))).symm, trivial⟩, hS.F ht⟩) hS.2.2 dX4_rounded_30
theorem in_X4_counted_X4 : ∀ w ∈ wsX40, w ∈ wsX4_counted := by decide +kernel
abbrev rm_X4_counted : Room := { frames := 4, cells := 0, slots := 0, locals := 86 }
set_option maxRecDepth 100000 in
set_option maxHeartbeats 4000000 in
theorem c_X4_counted (l : Launch) (g : GT) (m0 : Nat) (m1 : Nat) (m2 : Nat) (m3 : Nat) (m4 : Nat) (m5 : Nat) (ma : Int64) (np : Nat) (ln : Nat) (th : Int32) (at_ : Nat) (hs : Int64) (rw : Nat → Int32) (w : Nat) (n : Nat) (hw8 : w ≤ 8) (hrw : rw 0 = nI w) (hn : n ≤ 7) : cRi l g yX4_counted wsX4_counted rm_X4_counted [.ref m0, .int (nI n)] [(m0, .inr (4, [.ref m1, .long ma, .ref m2, .ref m3, .int (nI np), .ref m4, .int (nI ln), .int th, .ref m5, .int (nI at_), .long hs])), (m1, .inl (g.2.1 0, 523, .inl rw))] (fun r => r = (mkF rw w n)) := by
  refine enR (y := yX4_counted) (ws := wsX4_counted) (av := [.ref m0, .int (nI n)]) (cc := cX4_counted) (maxL := 2) (ret := (some .int)) (by decide) rfl (Nat.le_of_ble_eq_true rfl) rfl ?_
  intro p e s m below meth c ls hx hb hr hml hown hts hlocks hE hP hl
  have hK := hE.1
  have hS : va_S noA s.heap s.heap [] := va_S.rf
  generalize hQ : MQ below _ _ s _ _ _ = Q9
  have hl : lv_has ls 2 [(0, .ref m0), (1, .int (nI n))] := hl
  have hgr := gr_le w hw8
  have hen := ents_le w hw8
  refine lv_iload_n hx hb dX4_counted_0 rfl (lv_at hl 1 rfl) ?_
  rcases (show n = 0 ∨ n = 1 ∨ n = 2 ∨ n = 3 ∨ n = 4 ∨ n = 5 ∨ n = 6 ∨ n = 7 by omega) with rfl | rfl | rfl | rfl | rfl | rfl | rfl | rfl
  · refine lv_tope (y := 0) rfl ?_
    refine lv_tableIn (tgt := 48) (off := 47) hx hb dX4_counted_1 (by decide) (by decide) rfl (by decide) ?_
    refine lv_aload_n hx hb dX4_counted_48 rfl (lv_at hl 0 rfl) ?_
    refine va_get (D := g.1) (ci := 4) (v := .ref m1) (C := RX4) (T := TX4) (N := 11) hx hb hts in_X4_counted_X4 hown hK hP 0 rfl rfl 0 (by decide) (hts _ (List.mem_of_getElem? (i := 1) rfl)) (fun _ h9 => h9) rfl dX4_counted_49 ?_
    refine lv_iconst (v := 0) hx hb dX4_counted_52 (by decide) ?_
    refine lv_tope (y := (nI 0)) rfl ?_
    refine gIald (k := 0) hx hb hE hP 1 rfl (by omega) (by omega) dX4_counted_53 ?_
    refine lv_tope (y := (nI w)) hrw ?_
    subst hQ
    exact W.iret (v := (nI w)) hx hb hr (fun t ht hW => ⟨⟨(nI w), (), rfl, rfl, trivial⟩, hS.F ht⟩) hS.2.2 dX4_counted_54
  · refine lv_tope (y := 1) rfl ?_
    refine lv_tableIn (tgt := 55) (off := 54) hx hb dX4_counted_1 (by decide) (by decide) rfl (by decide) ?_
    refine lv_aload_n hx hb dX4_counted_55 rfl (lv_at hl 0 rfl) ?_
    refine kRi (va_runV (As := []) (rest := []) ⟨hx, hb, hml, hown, hts⟩ (c_X4_entries l g m0 m1 m2 m3 m4 m5 ma np ln th at_ hs rw w (by first | assumption | omega | exact Nat.le_of_ble_eq_true rfl) (by first | assumption | omega | exact Nat.le_of_ble_eq_true rfl)) (cwV 0 hts gX4_counted_X4_entries rfl rfl rfl (by decide +kernel) ⟨(Nat.le_of_ble_eq_true rfl), (Nat.le_of_ble_eq_true rfl)⟩) (preV (RX4, TX4, 11) hE hP [0, 1] rfl rfl) rfl rfl hl.1 rfl (lv_room (Nat.le_of_ble_eq_true rfl)) dX4_counted_56 ⟨(Nat.le_of_ble_eq_true rfl), (Nat.le_of_ble_eq_true rfl)⟩) hP hS (fun r9 H locs hr9 hP hS => ?_)
    subst hr9
    subst hQ
    exact W.iret (v := (nI (ents w))) hx hb hr (fun t ht hW => ⟨⟨(nI (ents w)), (), rfl, rfl, trivial⟩, hS.F ht⟩) hS.2.2 dX4_counted_59
  · refine lv_tope (y := 2) rfl ?_
    refine lv_tableIn (tgt := 75) (off := 74) hx hb dX4_counted_1 (by decide) (by decide) rfl (by decide) ?_
    refine lv_aload_n hx hb dX4_counted_75 rfl (lv_at hl 0 rfl) ?_
    refine va_get (D := g.1) (ci := 4) (v := .ref m1) (C := RX4) (T := TX4) (N := 11) hx hb hts in_X4_counted_X4 hown hK hP 0 rfl rfl 0 (by decide) (hts _ (List.mem_of_getElem? (i := 1) rfl)) (fun _ h9 => h9) rfl dX4_counted_76 ?_
    refine lv_iconst (v := 1) hx hb dX4_counted_79 (by decide) ?_
    refine lv_iload_n hx hb dX4_counted_80 rfl (lv_at hl 1 rfl) ?_
    refine lv_iadd hx hb dX4_counted_81 ?_
    refine lv_tope (y := (nI (1 + 2))) (show (1 + (nI 2) : Int32) = nI (1 + 2) from nI_add (1) (2)) ?_
    refine lv_iconst (v := 2) hx hb dX4_counted_82 (by decide) ?_
    refine lv_isub hx hb dX4_counted_83 ?_
    refine lv_tope (y := (nI 1)) (by decide) ?_
    refine gIald (k := 1) hx hb hE hP 1 rfl (by omega) (by omega) dX4_counted_84 ?_
    subst hQ
    exact W.iret (v := (rw 1)) hx hb hr (fun t ht hW => ⟨⟨(rw 1), (), rfl, rfl, trivial⟩, hS.F ht⟩) hS.2.2 dX4_counted_85
  · refine lv_tope (y := 3) rfl ?_
    refine lv_tableIn (tgt := 75) (off := 74) hx hb dX4_counted_1 (by decide) (by decide) rfl (by decide) ?_
    refine lv_aload_n hx hb dX4_counted_75 rfl (lv_at hl 0 rfl) ?_
    refine va_get (D := g.1) (ci := 4) (v := .ref m1) (C := RX4) (T := TX4) (N := 11) hx hb hts in_X4_counted_X4 hown hK hP 0 rfl rfl 0 (by decide) (hts _ (List.mem_of_getElem? (i := 1) rfl)) (fun _ h9 => h9) rfl dX4_counted_76 ?_
    refine lv_iconst (v := 1) hx hb dX4_counted_79 (by decide) ?_
    refine lv_iload_n hx hb dX4_counted_80 rfl (lv_at hl 1 rfl) ?_
    refine lv_iadd hx hb dX4_counted_81 ?_
    refine lv_tope (y := (nI (1 + 3))) (show (1 + (nI 3) : Int32) = nI (1 + 3) from nI_add (1) (3)) ?_
    refine lv_iconst (v := 2) hx hb dX4_counted_82 (by decide) ?_
    refine lv_isub hx hb dX4_counted_83 ?_
    refine lv_tope (y := (nI 2)) (by decide) ?_
    refine gIald (k := 2) hx hb hE hP 1 rfl (by omega) (by omega) dX4_counted_84 ?_
    subst hQ
    exact W.iret (v := (rw 2)) hx hb hr (fun t ht hW => ⟨⟨(rw 2), (), rfl, rfl, trivial⟩, hS.F ht⟩) hS.2.2 dX4_counted_85
  · refine lv_tope (y := 4) rfl ?_
    refine lv_tableIn (tgt := 75) (off := 74) hx hb dX4_counted_1 (by decide) (by decide) rfl (by decide) ?_
    refine lv_aload_n hx hb dX4_counted_75 rfl (lv_at hl 0 rfl) ?_
    refine va_get (D := g.1) (ci := 4) (v := .ref m1) (C := RX4) (T := TX4) (N := 11) hx hb hts in_X4_counted_X4 hown hK hP 0 rfl rfl 0 (by decide) (hts _ (List.mem_of_getElem? (i := 1) rfl)) (fun _ h9 => h9) rfl dX4_counted_76 ?_
    refine lv_iconst (v := 1) hx hb dX4_counted_79 (by decide) ?_
    refine lv_iload_n hx hb dX4_counted_80 rfl (lv_at hl 1 rfl) ?_
    refine lv_iadd hx hb dX4_counted_81 ?_
    refine lv_tope (y := (nI (1 + 4))) (show (1 + (nI 4) : Int32) = nI (1 + 4) from nI_add (1) (4)) ?_
    refine lv_iconst (v := 2) hx hb dX4_counted_82 (by decide) ?_
    refine lv_isub hx hb dX4_counted_83 ?_
    refine lv_tope (y := (nI 3)) (by decide) ?_
    refine gIald (k := 3) hx hb hE hP 1 rfl (by omega) (by omega) dX4_counted_84 ?_
    subst hQ
    exact W.iret (v := (rw 3)) hx hb hr (fun t ht hW => ⟨⟨(rw 3), (), rfl, rfl, trivial⟩, hS.F ht⟩) hS.2.2 dX4_counted_85
  · refine lv_tope (y := 5) rfl ?_
    refine lv_tableIn (tgt := 60) (off := 59) hx hb dX4_counted_1 (by decide) (by decide) rfl (by decide) ?_
    refine lv_aload_n hx hb dX4_counted_60 rfl (lv_at hl 0 rfl) ?_
    refine kRi (va_runV (As := []) (rest := []) ⟨hx, hb, hml, hown, hts⟩ (c_X4_wrongEntries l g m0 m1 m2 m3 m4 m5 ma np ln th at_ hs rw w (by first | assumption | omega | exact Nat.le_of_ble_eq_true rfl) (by first | assumption | omega | exact Nat.le_of_ble_eq_true rfl)) (cwV 0 hts gX4_counted_X4_wrongEntries rfl rfl rfl (by decide +kernel) ⟨(Nat.le_of_ble_eq_true rfl), (Nat.le_of_ble_eq_true rfl)⟩) (preV (RX4, TX4, 11) hE hP [0, 1] rfl rfl) rfl rfl hl.1 rfl (lv_room (Nat.le_of_ble_eq_true rfl)) dX4_counted_61 ⟨(Nat.le_of_ble_eq_true rfl), (Nat.le_of_ble_eq_true rfl)⟩) hP hS (fun r9 H locs hr9 hP hS => ?_)
    subst hr9
    subst hQ
    exact W.iret (v := (sI (meF rw) (ents w))) hx hb hr (fun t ht hW => ⟨⟨(sI (meF rw) (ents w)), (), rfl, rfl, trivial⟩, hS.F ht⟩) hS.2.2 dX4_counted_64
  · refine lv_tope (y := 6) rfl ?_
    refine lv_tableIn (tgt := 65) (off := 64) hx hb dX4_counted_1 (by decide) (by decide) rfl (by decide) ?_
    refine lv_aload_n hx hb dX4_counted_65 rfl (lv_at hl 0 rfl) ?_
    refine kRi (va_runV (As := []) (rest := []) ⟨hx, hb, hml, hown, hts⟩ (c_X4_foundEntries l g m0 m1 m2 m3 m4 m5 ma np ln th at_ hs rw w (by first | assumption | omega | exact Nat.le_of_ble_eq_true rfl) (by first | assumption | omega | exact Nat.le_of_ble_eq_true rfl)) (cwV 0 hts gX4_counted_X4_foundEntries rfl rfl rfl (by decide +kernel) ⟨(Nat.le_of_ble_eq_true rfl), (Nat.le_of_ble_eq_true rfl)⟩) (preV (RX4, TX4, 11) hE hP [0, 1] rfl rfl) rfl rfl hl.1 rfl (lv_room (Nat.le_of_ble_eq_true rfl)) dX4_counted_66 ⟨(Nat.le_of_ble_eq_true rfl), (Nat.le_of_ble_eq_true rfl)⟩) hP hS (fun r9 H locs hr9 hP hS => ?_)
    subst hr9
    subst hQ
    exact W.iret (v := (sI (mfF rw) (ents w))) hx hb hr (fun t ht hW => ⟨⟨(sI (mfF rw) (ents w)), (), rfl, rfl, trivial⟩, hS.F ht⟩) hS.2.2 dX4_counted_69
  · refine lv_tope (y := 7) rfl ?_
    refine lv_tableIn (tgt := 70) (off := 69) hx hb dX4_counted_1 (by decide) (by decide) rfl (by decide) ?_
    refine lv_aload_n hx hb dX4_counted_70 rfl (lv_at hl 0 rfl) ?_
    refine kRi (va_runV (As := []) (rest := []) ⟨hx, hb, hml, hown, hts⟩ (c_X4_allWrongBits l g m0 m1 m2 m3 m4 m5 ma np ln th at_ hs rw w (by first | assumption | omega | exact Nat.le_of_ble_eq_true rfl) (by first | assumption | omega | exact Nat.le_of_ble_eq_true rfl)) (cwV 0 hts gX4_counted_X4_allWrongBits rfl rfl rfl (by decide +kernel) ⟨(Nat.le_of_ble_eq_true rfl), (Nat.le_of_ble_eq_true rfl)⟩) (preV (RX4, TX4, 11) hE hP [0, 1] rfl rfl) rfl rfl hl.1 rfl (lv_room (Nat.le_of_ble_eq_true rfl)) dX4_counted_71 ⟨(Nat.le_of_ble_eq_true rfl), (Nat.le_of_ble_eq_true rfl)⟩) hP hS (fun r9 H locs hr9 hP hS => ?_)
    subst hr9
    subst hQ
    exact W.iret (v := (sI (mwF rw) (ents w))) hx hb hr (fun t ht hW => ⟨⟨(sI (mwF rw) (ents w)), (), rfl, rfl, trivial⟩, hS.F ht⟩) hS.2.2 dX4_counted_74
abbrev rm_X4_firstOf : Room := { frames := 1, cells := 0, slots := 0, locals := 23 }
set_option maxRecDepth 100000 in
set_option maxHeartbeats 4000000 in
theorem c_X4_firstOf (l : Launch) (g : GT) (m0 : Nat) (m1 : Nat) (m2 : Nat) (m3 : Nat) (m4 : Nat) (m5 : Nat) (ma : Int64) (np : Nat) (ln : Nat) (th : Int32) (at_ : Nat) (hs : Int64) (rw : Nat → Int32) (w : Nat) (hw8 : w ≤ 8) (hrw : rw 0 = nI w) : cRi l g yX4_firstOf wsX4_firstOf rm_X4_firstOf [.ref m0] [(m0, .inr (4, [.ref m1, .long ma, .ref m2, .ref m3, .int (nI np), .ref m4, .int (nI ln), .int th, .ref m5, .int (nI at_), .long hs])), (m1, .inl (g.2.1 0, 523, .inl rw))] (fun r => r = (fwF (mS rw) (gr w))) := by
  refine enR (y := yX4_firstOf) (ws := wsX4_firstOf) (av := [.ref m0]) (cc := cX4_firstOf) (maxL := 3) (ret := (some .int)) (by decide) rfl (Nat.le_of_ble_eq_true rfl) rfl ?_
  intro p e s m below meth c ls hx hb hr hml hown hts hlocks hE hP hl
  have hK := hE.1
  have hS : va_S noA s.heap s.heap [] := va_S.rf
  generalize hQ : MQ below _ _ s _ _ _ = Q9
  have hl : lv_has ls 3 [(0, .ref m0)] := hl
  have hgr := gr_le w hw8
  have hen := ents_le w hw8
  refine lv_iconst (v := 0) hx hb dX4_firstOf_0 (by decide) ?_
  refine lv_istore_n (lv' := [(1, .int 0), (0, .ref m0)]) hx hb dX4_firstOf_1 rfl hl (by decide) rfl (fun ls hl => ?_)
  have lp2 : ∀ (n9 : Nat) (a : Nat), gr w + 1 - a < n9 → (a ≤ gr w + 1) → (∀ a', a' < a → ∀ b', b' ≤ gr w → ¬ wpP (mS rw) a' b') → ∀ (H : Heap) (locs : List Loc), va_P g.1 vwCl [(m0, .inr (4, [.ref m1, .long ma, .ref m2, .ref m3, .int (nI np), .ref m4, .int (nI ln), .int th, .ref m5, .int (nI at_), .long hs])), (m1, .inl (g.2.1 0, 523, .inl rw))] H → va_S noA s.heap H locs → ∀ (ls : Array Slot), lv_has ls 3 [(1, .int (nI a)), (0, .ref m0)] → W p l e rm_X4_firstOf s m [Value.ref m0].toArray below meth c H locs 0 0 Q9 (F0 m 2 ls []) := by
    intro n9
    induction n9 with
    | zero => intro a h9; exact absurd h9 (Nat.not_lt_zero _)
    | succ n9 ih2 =>
      intro a hm2 ha H1
      intro H locs hP hS ls hl
      refine lv_iload_n hx hb dX4_firstOf_2 rfl (lv_at hl 0 rfl) ?_
      refine lv_aload_n hx hb dX4_firstOf_3 rfl (lv_at hl 1 rfl) ?_
      refine kRi (va_runV (As := []) (rest := [.int (nI a)]) ⟨hx, hb, hml, hown, hts⟩ (c_X4_top l g m0 m1 m2 m3 m4 m5 ma np ln th at_ hs rw w (by first | assumption | omega | exact Nat.le_of_ble_eq_true rfl) (by first | assumption | omega | exact Nat.le_of_ble_eq_true rfl)) (cwV 0 hts gX4_firstOf_X4_top rfl rfl rfl (by decide +kernel) ⟨(Nat.le_of_ble_eq_true rfl), (Nat.le_of_ble_eq_true rfl)⟩) (preV (RX4, TX4, 11) hE hP [0, 1] rfl rfl) rfl rfl hl.1 rfl (lv_room (Nat.le_of_ble_eq_true rfl)) dX4_firstOf_4 ⟨(Nat.le_of_ble_eq_true rfl), (Nat.le_of_ble_eq_true rfl)⟩) hP hS (fun r9 H locs hr9 hP hS => ?_)
      subst hr9
      refine lv_icmp_gt (tgt := 52) hx hb dX4_firstOf_7 (by decide) (fun c7 => ?_) (fun c7 => ?_)
      · have n7 : gr w < a := (nI_ltI (a := gr w) (b := a) (by omega) (by omega)).mp c7
        refine lv_iconst (v := -1) hx hb dX4_firstOf_52 (by decide) ?_
        subst hQ
        exact W.iret (v := (-1)) hx hb hr (fun t ht hW => ⟨⟨(-1), (), rfl, (fwF_none (fun a9 ha9 b9 hb9 => H1 a9 (by omega) b9 hb9)).symm, trivial⟩, hS.F ht⟩) hS.2.2 dX4_firstOf_53
      · have n7 : a ≤ gr w := Nat.le_of_not_lt (fun h9 => c7 ((nI_ltI (a := gr w) (b := a) (by omega) (by omega)).mpr h9))
        refine lv_iconst (v := 0) hx hb dX4_firstOf_10 (by decide) ?_
        refine lv_istore_n (lv' := [(2, .int 0), (1, .int (nI a)), (0, .ref m0)]) hx hb dX4_firstOf_11 rfl hl (by decide) rfl (fun ls hl => ?_)
        have lp12 : ∀ (n9 : Nat) (b : Nat), gr w + 1 - b < n9 → (b ≤ gr w + 1) → (∀ b', b' < b → ¬ wpP (mS rw) a b') → ∀ (H : Heap) (locs : List Loc), va_P g.1 vwCl [(m0, .inr (4, [.ref m1, .long ma, .ref m2, .ref m3, .int (nI np), .ref m4, .int (nI ln), .int th, .ref m5, .int (nI at_), .long hs])), (m1, .inl (g.2.1 0, 523, .inl rw))] H → va_S noA s.heap H locs → ∀ (ls : Array Slot), lv_has ls 3 [(2, .int (nI b)), (1, .int (nI a)), (0, .ref m0)] → W p l e rm_X4_firstOf s m [Value.ref m0].toArray below meth c H locs 0 0 Q9 (F0 m 12 ls []) := by
          intro n9
          induction n9 with
          | zero => intro b h9; exact absurd h9 (Nat.not_lt_zero _)
          | succ n9 ih12 =>
            intro b hm12 hb9 h2
            intro H locs hP hS ls hl
            refine lv_iload_n hx hb dX4_firstOf_12 rfl (lv_at hl 0 rfl) ?_
            refine lv_aload_n hx hb dX4_firstOf_13 rfl (lv_at hl 2 rfl) ?_
            refine kRi (va_runV (As := []) (rest := [.int (nI b)]) ⟨hx, hb, hml, hown, hts⟩ (c_X4_top l g m0 m1 m2 m3 m4 m5 ma np ln th at_ hs rw w (by first | assumption | omega | exact Nat.le_of_ble_eq_true rfl) (by first | assumption | omega | exact Nat.le_of_ble_eq_true rfl)) (cwV 0 hts gX4_firstOf_X4_top rfl rfl rfl (by decide +kernel) ⟨(Nat.le_of_ble_eq_true rfl), (Nat.le_of_ble_eq_true rfl)⟩) (preV (RX4, TX4, 11) hE hP [0, 1] rfl rfl) rfl rfl hl.1 rfl (lv_room (Nat.le_of_ble_eq_true rfl)) dX4_firstOf_14 ⟨(Nat.le_of_ble_eq_true rfl), (Nat.le_of_ble_eq_true rfl)⟩) hP hS (fun r9 H locs hr9 hP hS => ?_)
            subst hr9
            refine lv_icmp_gt (tgt := 46) hx hb dX4_firstOf_17 (by decide) (fun c17 => ?_) (fun c17 => ?_)
            · have n17 : gr w < b := (nI_ltI (a := gr w) (b := b) (by omega) (by omega)).mp c17
              refine lv_iinc (v := (nI (a + 1))) (lv' := [(1, .int (nI (a + 1))), (2, .int (nI b)), (0, .ref m0)]) hx hb dX4_firstOf_46 hl (k := 1) rfl (nI_add (a) 1) (by decide) rfl (fun ls hl => ?_)
              refine lv_goto (tgt := 2) hx hb dX4_firstOf_49 (by decide) ?_
              exact ih2 (a + 1) (by omega) (by omega) (fun a' ha' b' hb' => (Nat.lt_succ_iff_lt_or_eq.mp ha').elim (fun h => H1 a' h b' hb') (fun e => by rw [e]; exact h2 b' (by omega)))  _ _ hP hS _ (lv_sub hl [0, 2] rfl)
            · have n17 : b ≤ gr w := Nat.le_of_not_lt (fun h9 => c17 ((nI_ltI (a := gr w) (b := b) (by omega) (by omega)).mpr h9))
              refine lv_aload_n hx hb dX4_firstOf_20 rfl (lv_at hl 2 rfl) ?_
              refine lv_iload_n hx hb dX4_firstOf_21 rfl (lv_at hl 1 rfl) ?_
              refine lv_iload_n hx hb dX4_firstOf_22 rfl (lv_at hl 0 rfl) ?_
              refine kRi (va_runV (As := [.int (nI a), .int (nI b)]) (rest := []) ⟨hx, hb, hml, hown, hts⟩ (c_X4_byTable l g m0 m1 m2 m3 m4 m5 ma np ln th at_ hs rw w a b (by first | assumption | omega | exact Nat.le_of_ble_eq_true rfl) (by first | assumption | omega | exact Nat.le_of_ble_eq_true rfl)) (cwV 2 hts gX4_firstOf_X4_byTable rfl rfl rfl (by decide +kernel) ⟨(Nat.le_of_ble_eq_true rfl), (Nat.le_of_ble_eq_true rfl)⟩) (preV (RX4, TX4, 11) hE hP [0, 1] rfl rfl) rfl rfl hl.1 rfl (lv_room (Nat.le_of_ble_eq_true rfl)) dX4_firstOf_23 ⟨(Nat.le_of_ble_eq_true rfl), (Nat.le_of_ble_eq_true rfl)⟩) hP hS (fun r9 H locs hr9 hP hS => ?_)
              subst hr9
              refine lv_iload_n hx hb dX4_firstOf_26 rfl (lv_at hl 1 rfl) ?_
              refine lv_iload_n hx hb dX4_firstOf_27 rfl (lv_at hl 0 rfl) ?_
              refine lv_imul hx hb dX4_firstOf_28 ?_
              refine lv_tope (y := (nI (a * b))) (show ((nI a) * (nI b) : Int32) = nI (a * b) from pk_mul (a) (b)) ?_
              refine lv_icmp_eq (tgt := 40) hx hb dX4_firstOf_29 (by decide) (fun c29 => ?_) (fun c29 => ?_)
              · refine lv_iinc (v := (nI (b + 1))) (lv' := [(2, .int (nI (b + 1))), (1, .int (nI a)), (0, .ref m0)]) hx hb dX4_firstOf_40 hl (k := 0) rfl (nI_add (b) 1) (by decide) rfl (fun ls hl => ?_)
                refine lv_goto (tgt := 12) hx hb dX4_firstOf_43 (by decide) ?_
                exact ih12 (b + 1) (by omega) (by omega) (fun b' hb' => (Nat.lt_succ_iff_lt_or_eq.mp hb').elim (h2 b') (fun e => by rw [e]; exact fun h => mb_wp.mpr h c29))  _ _ hP hS _ (lv_sub hl [0, 1, 2] rfl)
              · refine lv_sipush (v := 1000) hx hb dX4_firstOf_32 (by decide) ?_
                refine lv_iload_n hx hb dX4_firstOf_35 rfl (lv_at hl 1 rfl) ?_
                refine lv_imul hx hb dX4_firstOf_36 ?_
                refine lv_tope (y := (nI (1000 * a))) (show (1000 * (nI a) : Int32) = nI (1000 * a) from pk_mul (1000) (a)) ?_
                refine lv_iload_n hx hb dX4_firstOf_37 rfl (lv_at hl 0 rfl) ?_
                refine lv_iadd hx hb dX4_firstOf_38 ?_
                refine lv_tope (y := (nI ((1000 * a) + b))) (show ((nI (1000 * a)) + (nI b) : Int32) = nI ((1000 * a) + b) from nI_add (1000 * a) (b)) ?_
                subst hQ
                exact W.iret (v := (nI ((1000 * a) + b))) hx hb hr (fun t ht hW => ⟨⟨(nI ((1000 * a) + b)), (), rfl, (fwF_some n7 n17 (mb_wp.mp c29) H1 h2).symm, trivial⟩, hS.F ht⟩) hS.2.2 dX4_firstOf_39
        exact lp12 ((gr w + 1 - 0) + 1) 0 (Nat.lt_succ_self _) (by omega) (fun b' h => absurd h (Nat.not_lt_zero _))  _ _ hP hS _ (lv_sub hl [0, 1, 2] rfl)
  exact lp2 ((gr w + 1 - 0) + 1) 0 (Nat.lt_succ_self _) (by omega) (fun a' h => absurd h (Nat.not_lt_zero _))  _ _ hP hS _ (lv_sub hl [0, 1] rfl)
