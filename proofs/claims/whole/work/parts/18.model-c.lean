/-! MODEL, its calls: printed by wip/whole/gen/spec_model3.py -/
abbrev rm_X4_multiply : Room := { frames := 4, cells := 0, slots := 0, locals := 90 }
set_option maxRecDepth 100000 in
set_option maxHeartbeats 4000000 in
theorem c_X4_multiply (l : Launch) (g : GT) (m0 : Nat) (m1 : Nat) (m2 : Nat) (m3 : Nat) (m4 : Nat) (m5 : Nat) (ma : Int64) (np : Nat) (ln : Nat) (th : Int32) (at_ : Nat) (hs : Int64) (rw : Nat → Int32) (w : Nat) (av : Int32) (bv : Int32) (mt : Int32) (hw8 : w ≤ 8) (hrw : rw 0 = nI w) : cUi l g yX4_multiply wsX4_multiply rm_X4_multiply [.ref m0, .int av, .int bv, .int mt] [(m0, .inr (4, [.ref m1, .long ma, .ref m2, .ref m3, .int (nI np), .ref m4, .int (nI ln), .int th, .ref m5, .int (nI at_), .long hs])), (m1, .inl (g.2.1 0, 523, .inl rw))] (fun r (ub : Option Int32) => (ub = none ∧ ((okR 0 (nI (gr w)) av ∧ okR 0 (nI (gr w)) bv) ∧ okR 0 2 mt) ∧ r = mpF rw (tn av) (tn bv) mt) ∨ (ub = some 1 ∧ ¬ ((okR 0 (nI (gr w)) av ∧ okR 0 (nI (gr w)) bv) ∧ okR 0 2 mt))) (fun ub => Option.elim ub [(m0, .inr (4, [.ref m1, .long ma, .ref m2, .ref m3, .int (nI np), .ref m4, .int (nI ln), .int 0, .ref m5, .int (nI at_), .long hs])), (m1, .inl (g.2.1 0, 523, .inl rw))] (fun tq => [(m0, .inr (4, [.ref m1, .long ma, .ref m2, .ref m3, .int (nI np), .ref m4, .int (nI ln), .int tq, .ref m5, .int (nI at_), .long hs])), (m1, .inl (g.2.1 0, 523, .inl rw))])) := by
  refine enU (y := yX4_multiply) (ws := wsX4_multiply) (av := [.ref m0, .int av, .int bv, .int mt]) (cc := cX4_multiply) (maxL := 4) (ret := (some .int)) (by decide) rfl (Nat.le_of_ble_eq_true rfl) rfl ?_
  intro p e s m below meth c ls hx hb hr hml hown hts hlocks hE hP hD hl
  have hK := hE.1
  have hS : va_S (va_Ad [(m0, .inr (4, [.ref m1, .long ma, .ref m2, .ref m3, .int (nI np), .ref m4, .int (nI ln), .int th, .ref m5, .int (nI at_), .long hs])), (m1, .inl (g.2.1 0, 523, .inl rw))]) s.heap s.heap [] := va_S.rf
  generalize hQ : MQ below _ _ s _ _ _ = Q9
  have hl : lv_has ls 4 [(0, .ref m0), (1, .int av), (2, .int bv), (3, .int mt)] := hl
  have hgr := gr_le w hw8
  have hen := ents_le w hw8
  refine lv_aload_n hx hb dX4_multiply_0 rfl (lv_at hl 0 rfl) ?_
  refine lv_iload_n hx hb dX4_multiply_1 rfl (lv_at hl 1 rfl) ?_
  refine lv_iload_n hx hb dX4_multiply_2 rfl (lv_at hl 2 rfl) ?_
  refine kRi (va_runV (As := [.int av, .int bv]) (rest := []) ⟨hx, hb, hml, hown, hts⟩ (c_X4_areOperands l g m0 m1 m2 m3 m4 m5 ma np ln th at_ hs rw w av bv (by first | assumption | omega | exact Nat.le_of_ble_eq_true rfl) (by first | assumption | omega | exact Nat.le_of_ble_eq_true rfl)) (cwV 2 hts gX4_multiply_X4_areOperands rfl rfl rfl (by decide +kernel) ⟨(Nat.le_of_ble_eq_true rfl), (Nat.le_of_ble_eq_true rfl)⟩) (preV (RX4, TX4, 11) hE hP [0, 1] rfl rfl) rfl rfl hl.1 rfl (lv_room (Nat.le_of_ble_eq_true rfl)) dX4_multiply_3 ⟨(Nat.le_of_ble_eq_true rfl), (Nat.le_of_ble_eq_true rfl)⟩) hP hS (fun r9 H locs hr9 hP hS => ?_)
  subst hr9
  refine lv_if_eq (tgt := 30) hx hb dX4_multiply_6 (by decide) (fun c6 => ?_) (fun c6 => ?_)
  · have b6 : ¬ (okR 0 (nI (gr w)) av ∧ okR 0 (nI (gr w)) bv) := bz_f c6
    refine lv_aload_n hx hb dX4_multiply_30 rfl (lv_at hl 0 rfl) ?_
    refine lv_iconst (v := 1) hx hb dX4_multiply_31 (by decide) ?_
    refine kUi (fun _ => [(m0, .inr (4, [.ref m1, .long ma, .ref m2, .ref m3, .int (nI np), .ref m4, .int (nI ln), .int 1, .ref m5, .int (nI at_), .long hs])), (m1, .inl (g.2.1 0, 523, .inl rw))]) (va_runV (As := [.int 1]) (rest := []) ⟨hx, hb, hml, hown, hts⟩ (c_X4_fails l g m0 m1 m2 m3 m4 m5 ma np ln th at_ hs 1) (cwV 1 hts gX4_multiply_X4_fails rfl rfl rfl (by decide +kernel) ⟨(Nat.le_of_ble_eq_true rfl), (Nat.le_of_ble_eq_true rfl)⟩) (preVd (RX4, TX4, 11) hE hP hD [0] (by decide) rfl rfl) rfl rfl hl.1 rfl (lv_room (Nat.le_of_ble_eq_true rfl)) dX4_multiply_32 ⟨(Nat.le_of_ble_eq_true rfl), (Nat.le_of_ble_eq_true rfl)⟩) hP hD hS [0] [1] 2 [m0, m1] [(m1, .inl (g.2.1 0, 523, .inl rw))] rfl rfl rfl (fun _ => rfl) (fun _ => rfl) (fun _ => rfl) rfl (by decide) (fun r9 _ H locs hr9 hP hD hS => ?_)
    subst hr9
    subst hQ
    have hP9 : va_P g.1 vwCl [(m0, .inr (4, [.ref m1, .long ma, .ref m2, .ref m3, .int (nI np), .ref m4, .int (nI ln), .int 1, .ref m5, .int (nI at_), .long hs])), (m1, .inl (g.2.1 0, 523, .inl rw))] H := hP
    exact W.iret (v := 0) hx hb hr (fun t ht hW => ⟨⟨0, (some 1), rfl, by first | exact Or.inr ⟨rfl, fun h => b6 h.1⟩ | exact Or.inr ⟨rfl, fun h => b13 h.2⟩, by show va_P g.1 vwCl _ t.heap; rw [ht]; exact hP9⟩, hS.F ht⟩) hS.2.2 dX4_multiply_35
  · have b6 : okR 0 (nI (gr w)) av ∧ okR 0 (nI (gr w)) bv := bz_t c6
    obtain ⟨ka, hka, rfl⟩ := op_of hw8 b6.1
    obtain ⟨kb, hkb, rfl⟩ := op_of hw8 b6.2
    refine lv_iload_n hx hb dX4_multiply_9 rfl (lv_at hl 3 rfl) ?_
    refine kRi (va_runS (As := [.int mt]) (rest := []) ⟨hx, hb, hml, hown, hts⟩ (c_X4_isMethod l g mt) (va_cwS 1 hts gX4_multiply_X4_isMethod rfl rfl rfl (by decide +kernel) ⟨(Nat.le_of_ble_eq_true rfl), (Nat.le_of_ble_eq_true rfl)⟩) (preS hE hP [] rfl) rfl rfl hl.1 rfl (lv_room (Nat.le_of_ble_eq_true rfl)) dX4_multiply_10 ⟨(Nat.le_of_ble_eq_true rfl), (Nat.le_of_ble_eq_true rfl)⟩) hP hS (fun r9 H locs hr9 hP hS => ?_)
    subst hr9
    refine lv_if_eq (tgt := 30) hx hb dX4_multiply_13 (by decide) (fun c13 => ?_) (fun c13 => ?_)
    · have b13 : ¬ (okR 0 2 mt) := bz_f c13
      refine lv_aload_n hx hb dX4_multiply_30 rfl (lv_at hl 0 rfl) ?_
      refine lv_iconst (v := 1) hx hb dX4_multiply_31 (by decide) ?_
      refine kUi (fun _ => [(m0, .inr (4, [.ref m1, .long ma, .ref m2, .ref m3, .int (nI np), .ref m4, .int (nI ln), .int 1, .ref m5, .int (nI at_), .long hs])), (m1, .inl (g.2.1 0, 523, .inl rw))]) (va_runV (As := [.int 1]) (rest := []) ⟨hx, hb, hml, hown, hts⟩ (c_X4_fails l g m0 m1 m2 m3 m4 m5 ma np ln th at_ hs 1) (cwV 1 hts gX4_multiply_X4_fails rfl rfl rfl (by decide +kernel) ⟨(Nat.le_of_ble_eq_true rfl), (Nat.le_of_ble_eq_true rfl)⟩) (preVd (RX4, TX4, 11) hE hP hD [0] (by decide) rfl rfl) rfl rfl hl.1 rfl (lv_room (Nat.le_of_ble_eq_true rfl)) dX4_multiply_32 ⟨(Nat.le_of_ble_eq_true rfl), (Nat.le_of_ble_eq_true rfl)⟩) hP hD hS [0] [1] 2 [m0, m1] [(m1, .inl (g.2.1 0, 523, .inl rw))] rfl rfl rfl (fun _ => rfl) (fun _ => rfl) (fun _ => rfl) rfl (by decide) (fun r9 _ H locs hr9 hP hD hS => ?_)
      subst hr9
      subst hQ
      have hP9 : va_P g.1 vwCl [(m0, .inr (4, [.ref m1, .long ma, .ref m2, .ref m3, .int (nI np), .ref m4, .int (nI ln), .int 1, .ref m5, .int (nI at_), .long hs])), (m1, .inl (g.2.1 0, 523, .inl rw))] H := hP
      exact W.iret (v := 0) hx hb hr (fun t ht hW => ⟨⟨0, (some 1), rfl, by first | exact Or.inr ⟨rfl, fun h => b6 h.1⟩ | exact Or.inr ⟨rfl, fun h => b13 h.2⟩, by show va_P g.1 vwCl _ t.heap; rw [ht]; exact hP9⟩, hS.F ht⟩) hS.2.2 dX4_multiply_35
    · have b13 : okR 0 2 mt := bz_t c13
      refine lv_aload_n hx hb dX4_multiply_16 rfl (lv_at hl 0 rfl) ?_
      refine lv_aload_n hx hb dX4_multiply_17 rfl (lv_at hl 0 rfl) ?_
      refine lv_iload_n hx hb dX4_multiply_18 rfl (lv_at hl 1 rfl) ?_
      refine lv_iload_n hx hb dX4_multiply_19 rfl (lv_at hl 2 rfl) ?_
      refine lv_iload_n hx hb dX4_multiply_20 rfl (lv_at hl 3 rfl) ?_
      refine kRi (va_runV (As := [.int (nI ka), .int (nI kb), .int mt]) (rest := [.ref m0]) ⟨hx, hb, hml, hown, hts⟩ (c_X4_product l g m0 m1 m2 m3 m4 m5 ma np ln th at_ hs rw w ka kb mt (by first | assumption | omega | exact Nat.le_of_ble_eq_true rfl) (by first | assumption | omega | exact Nat.le_of_ble_eq_true rfl)) (cwV 3 hts gX4_multiply_X4_product rfl rfl rfl (by decide +kernel) ⟨(Nat.le_of_ble_eq_true rfl), (Nat.le_of_ble_eq_true rfl)⟩) (preV (RX4, TX4, 11) hE hP [0, 1] rfl rfl) rfl rfl hl.1 rfl (lv_room (Nat.le_of_ble_eq_true rfl)) dX4_multiply_21 ⟨(Nat.le_of_ble_eq_true rfl), (Nat.le_of_ble_eq_true rfl)⟩) hP hS (fun r9 H locs hr9 hP hS => ?_)
      subst hr9
      refine kUi (fun _ => [(m0, .inr (4, [.ref m1, .long ma, .ref m2, .ref m3, .int (nI np), .ref m4, .int (nI ln), .int 0, .ref m5, .int (nI at_), .long hs])), (m1, .inl (g.2.1 0, 523, .inl rw))]) (va_runV (As := [.int (mpF rw ka kb mt)]) (rest := []) ⟨hx, hb, hml, hown, hts⟩ (c_X4_tells l g m0 m1 m2 m3 m4 m5 ma np ln th at_ hs (mpF rw ka kb mt)) (cwV 1 hts gX4_multiply_X4_tells rfl rfl rfl (by decide +kernel) ⟨(Nat.le_of_ble_eq_true rfl), (Nat.le_of_ble_eq_true rfl)⟩) (preVd (RX4, TX4, 11) hE hP hD [0] (by decide) rfl rfl) rfl rfl hl.1 rfl (lv_room (Nat.le_of_ble_eq_true rfl)) dX4_multiply_24 ⟨(Nat.le_of_ble_eq_true rfl), (Nat.le_of_ble_eq_true rfl)⟩) hP hD hS [0] [1] 2 [m0, m1] [(m1, .inl (g.2.1 0, 523, .inl rw))] rfl rfl rfl (fun _ => rfl) (fun _ => rfl) (fun _ => rfl) rfl (by decide) (fun r9 _ H locs hr9 hP hD hS => ?_)
      subst hr9
      refine lv_goto (tgt := 35) hx hb dX4_multiply_27 (by decide) ?_
      subst hQ
      have hP9 : va_P g.1 vwCl [(m0, .inr (4, [.ref m1, .long ma, .ref m2, .ref m3, .int (nI np), .ref m4, .int (nI ln), .int 0, .ref m5, .int (nI at_), .long hs])), (m1, .inl (g.2.1 0, 523, .inl rw))] H := hP
      exact W.iret (v := (mpF rw ka kb mt)) hx hb hr (fun t ht hW => ⟨⟨(mpF rw ka kb mt), none, rfl, Or.inl ⟨rfl, ⟨b6, b13⟩, by rw [tn_nI (n := ka) (by omega), tn_nI (n := kb) (by omega)]⟩, by show va_P g.1 vwCl _ t.heap; rw [ht]; exact hP9⟩, hS.F ht⟩) hS.2.2 dX4_multiply_35
abbrev rm_X4_cost : Room := { frames := 3, cells := 0, slots := 0, locals := 69 }
set_option maxRecDepth 100000 in
set_option maxHeartbeats 4000000 in
theorem c_X4_cost (l : Launch) (g : GT) (m0 : Nat) (m1 : Nat) (m2 : Nat) (m3 : Nat) (m4 : Nat) (m5 : Nat) (ma : Int64) (np : Nat) (ln : Nat) (th : Int32) (at_ : Nat) (hs : Int64) (rw : Nat → Int32) (w : Nat) (av : Int32) (bv : Int32) (mt : Int32) (hw8 : w ≤ 8) (hrw : rw 0 = nI w) : cUi l g yX4_cost wsX4_cost rm_X4_cost [.ref m0, .int av, .int bv, .int mt] [(m0, .inr (4, [.ref m1, .long ma, .ref m2, .ref m3, .int (nI np), .ref m4, .int (nI ln), .int th, .ref m5, .int (nI at_), .long hs])), (m1, .inl (g.2.1 0, 523, .inl rw))] (fun r (ub : Option Int32) => (ub = none ∧ ((okR 0 (nI (gr w)) av ∧ okR 0 (nI (gr w)) bv) ∧ okR 0 2 mt) ∧ r = mcF rw (tn bv) mt) ∨ (ub = some 1 ∧ ¬ ((okR 0 (nI (gr w)) av ∧ okR 0 (nI (gr w)) bv) ∧ okR 0 2 mt))) (fun ub => Option.elim ub [(m0, .inr (4, [.ref m1, .long ma, .ref m2, .ref m3, .int (nI np), .ref m4, .int (nI ln), .int 0, .ref m5, .int (nI at_), .long hs])), (m1, .inl (g.2.1 0, 523, .inl rw))] (fun tq => [(m0, .inr (4, [.ref m1, .long ma, .ref m2, .ref m3, .int (nI np), .ref m4, .int (nI ln), .int tq, .ref m5, .int (nI at_), .long hs])), (m1, .inl (g.2.1 0, 523, .inl rw))])) := by
  refine enU (y := yX4_cost) (ws := wsX4_cost) (av := [.ref m0, .int av, .int bv, .int mt]) (cc := cX4_cost) (maxL := 4) (ret := (some .int)) (by decide) rfl (Nat.le_of_ble_eq_true rfl) rfl ?_
  intro p e s m below meth c ls hx hb hr hml hown hts hlocks hE hP hD hl
  have hK := hE.1
  have hS : va_S (va_Ad [(m0, .inr (4, [.ref m1, .long ma, .ref m2, .ref m3, .int (nI np), .ref m4, .int (nI ln), .int th, .ref m5, .int (nI at_), .long hs])), (m1, .inl (g.2.1 0, 523, .inl rw))]) s.heap s.heap [] := va_S.rf
  generalize hQ : MQ below _ _ s _ _ _ = Q9
  have hl : lv_has ls 4 [(0, .ref m0), (1, .int av), (2, .int bv), (3, .int mt)] := hl
  have hgr := gr_le w hw8
  have hen := ents_le w hw8
  refine lv_aload_n hx hb dX4_cost_0 rfl (lv_at hl 0 rfl) ?_
  refine lv_iload_n hx hb dX4_cost_1 rfl (lv_at hl 1 rfl) ?_
  refine lv_iload_n hx hb dX4_cost_2 rfl (lv_at hl 2 rfl) ?_
  refine kRi (va_runV (As := [.int av, .int bv]) (rest := []) ⟨hx, hb, hml, hown, hts⟩ (c_X4_areOperands l g m0 m1 m2 m3 m4 m5 ma np ln th at_ hs rw w av bv (by first | assumption | omega | exact Nat.le_of_ble_eq_true rfl) (by first | assumption | omega | exact Nat.le_of_ble_eq_true rfl)) (cwV 2 hts gX4_cost_X4_areOperands rfl rfl rfl (by decide +kernel) ⟨(Nat.le_of_ble_eq_true rfl), (Nat.le_of_ble_eq_true rfl)⟩) (preV (RX4, TX4, 11) hE hP [0, 1] rfl rfl) rfl rfl hl.1 rfl (lv_room (Nat.le_of_ble_eq_true rfl)) dX4_cost_3 ⟨(Nat.le_of_ble_eq_true rfl), (Nat.le_of_ble_eq_true rfl)⟩) hP hS (fun r9 H locs hr9 hP hS => ?_)
  subst hr9
  refine lv_if_eq (tgt := 29) hx hb dX4_cost_6 (by decide) (fun c6 => ?_) (fun c6 => ?_)
  · have b6 : ¬ (okR 0 (nI (gr w)) av ∧ okR 0 (nI (gr w)) bv) := bz_f c6
    refine lv_aload_n hx hb dX4_cost_29 rfl (lv_at hl 0 rfl) ?_
    refine lv_iconst (v := 1) hx hb dX4_cost_30 (by decide) ?_
    refine kUi (fun _ => [(m0, .inr (4, [.ref m1, .long ma, .ref m2, .ref m3, .int (nI np), .ref m4, .int (nI ln), .int 1, .ref m5, .int (nI at_), .long hs])), (m1, .inl (g.2.1 0, 523, .inl rw))]) (va_runV (As := [.int 1]) (rest := []) ⟨hx, hb, hml, hown, hts⟩ (c_X4_fails l g m0 m1 m2 m3 m4 m5 ma np ln th at_ hs 1) (cwV 1 hts gX4_cost_X4_fails rfl rfl rfl (by decide +kernel) ⟨(Nat.le_of_ble_eq_true rfl), (Nat.le_of_ble_eq_true rfl)⟩) (preVd (RX4, TX4, 11) hE hP hD [0] (by decide) rfl rfl) rfl rfl hl.1 rfl (lv_room (Nat.le_of_ble_eq_true rfl)) dX4_cost_31 ⟨(Nat.le_of_ble_eq_true rfl), (Nat.le_of_ble_eq_true rfl)⟩) hP hD hS [0] [1] 2 [m0, m1] [(m1, .inl (g.2.1 0, 523, .inl rw))] rfl rfl rfl (fun _ => rfl) (fun _ => rfl) (fun _ => rfl) rfl (by decide) (fun r9 _ H locs hr9 hP hD hS => ?_)
    subst hr9
    subst hQ
    have hP9 : va_P g.1 vwCl [(m0, .inr (4, [.ref m1, .long ma, .ref m2, .ref m3, .int (nI np), .ref m4, .int (nI ln), .int 1, .ref m5, .int (nI at_), .long hs])), (m1, .inl (g.2.1 0, 523, .inl rw))] H := hP
    exact W.iret (v := 0) hx hb hr (fun t ht hW => ⟨⟨0, (some 1), rfl, by first | exact Or.inr ⟨rfl, fun h => b6 h.1⟩ | exact Or.inr ⟨rfl, fun h => b13 h.2⟩, by show va_P g.1 vwCl _ t.heap; rw [ht]; exact hP9⟩, hS.F ht⟩) hS.2.2 dX4_cost_34
  · have b6 : okR 0 (nI (gr w)) av ∧ okR 0 (nI (gr w)) bv := bz_t c6
    obtain ⟨ka, hka, rfl⟩ := op_of hw8 b6.1
    obtain ⟨kb, hkb, rfl⟩ := op_of hw8 b6.2
    refine lv_iload_n hx hb dX4_cost_9 rfl (lv_at hl 3 rfl) ?_
    refine kRi (va_runS (As := [.int mt]) (rest := []) ⟨hx, hb, hml, hown, hts⟩ (c_X4_isMethod l g mt) (va_cwS 1 hts gX4_cost_X4_isMethod rfl rfl rfl (by decide +kernel) ⟨(Nat.le_of_ble_eq_true rfl), (Nat.le_of_ble_eq_true rfl)⟩) (preS hE hP [] rfl) rfl rfl hl.1 rfl (lv_room (Nat.le_of_ble_eq_true rfl)) dX4_cost_10 ⟨(Nat.le_of_ble_eq_true rfl), (Nat.le_of_ble_eq_true rfl)⟩) hP hS (fun r9 H locs hr9 hP hS => ?_)
    subst hr9
    refine lv_if_eq (tgt := 29) hx hb dX4_cost_13 (by decide) (fun c13 => ?_) (fun c13 => ?_)
    · have b13 : ¬ (okR 0 2 mt) := bz_f c13
      refine lv_aload_n hx hb dX4_cost_29 rfl (lv_at hl 0 rfl) ?_
      refine lv_iconst (v := 1) hx hb dX4_cost_30 (by decide) ?_
      refine kUi (fun _ => [(m0, .inr (4, [.ref m1, .long ma, .ref m2, .ref m3, .int (nI np), .ref m4, .int (nI ln), .int 1, .ref m5, .int (nI at_), .long hs])), (m1, .inl (g.2.1 0, 523, .inl rw))]) (va_runV (As := [.int 1]) (rest := []) ⟨hx, hb, hml, hown, hts⟩ (c_X4_fails l g m0 m1 m2 m3 m4 m5 ma np ln th at_ hs 1) (cwV 1 hts gX4_cost_X4_fails rfl rfl rfl (by decide +kernel) ⟨(Nat.le_of_ble_eq_true rfl), (Nat.le_of_ble_eq_true rfl)⟩) (preVd (RX4, TX4, 11) hE hP hD [0] (by decide) rfl rfl) rfl rfl hl.1 rfl (lv_room (Nat.le_of_ble_eq_true rfl)) dX4_cost_31 ⟨(Nat.le_of_ble_eq_true rfl), (Nat.le_of_ble_eq_true rfl)⟩) hP hD hS [0] [1] 2 [m0, m1] [(m1, .inl (g.2.1 0, 523, .inl rw))] rfl rfl rfl (fun _ => rfl) (fun _ => rfl) (fun _ => rfl) rfl (by decide) (fun r9 _ H locs hr9 hP hD hS => ?_)
      subst hr9
      subst hQ
      have hP9 : va_P g.1 vwCl [(m0, .inr (4, [.ref m1, .long ma, .ref m2, .ref m3, .int (nI np), .ref m4, .int (nI ln), .int 1, .ref m5, .int (nI at_), .long hs])), (m1, .inl (g.2.1 0, 523, .inl rw))] H := hP
      exact W.iret (v := 0) hx hb hr (fun t ht hW => ⟨⟨0, (some 1), rfl, by first | exact Or.inr ⟨rfl, fun h => b6 h.1⟩ | exact Or.inr ⟨rfl, fun h => b13 h.2⟩, by show va_P g.1 vwCl _ t.heap; rw [ht]; exact hP9⟩, hS.F ht⟩) hS.2.2 dX4_cost_34
    · have b13 : okR 0 2 mt := bz_t c13
      refine lv_aload_n hx hb dX4_cost_16 rfl (lv_at hl 0 rfl) ?_
      refine lv_aload_n hx hb dX4_cost_17 rfl (lv_at hl 0 rfl) ?_
      refine lv_iload_n hx hb dX4_cost_18 rfl (lv_at hl 2 rfl) ?_
      refine lv_iload_n hx hb dX4_cost_19 rfl (lv_at hl 3 rfl) ?_
      refine kRi (va_runV (As := [.int (nI kb), .int mt]) (rest := [.ref m0]) ⟨hx, hb, hml, hown, hts⟩ (c_X4_price l g m0 m1 m2 m3 m4 m5 ma np ln th at_ hs rw w kb mt) (cwV 2 hts gX4_cost_X4_price rfl rfl rfl (by decide +kernel) ⟨(Nat.le_of_ble_eq_true rfl), (Nat.le_of_ble_eq_true rfl)⟩) (preV (RX4, TX4, 11) hE hP [0, 1] rfl rfl) rfl rfl hl.1 rfl (lv_room (Nat.le_of_ble_eq_true rfl)) dX4_cost_20 ⟨(Nat.le_of_ble_eq_true rfl), (Nat.le_of_ble_eq_true rfl)⟩) hP hS (fun r9 H locs hr9 hP hS => ?_)
      subst hr9
      refine kUi (fun _ => [(m0, .inr (4, [.ref m1, .long ma, .ref m2, .ref m3, .int (nI np), .ref m4, .int (nI ln), .int 0, .ref m5, .int (nI at_), .long hs])), (m1, .inl (g.2.1 0, 523, .inl rw))]) (va_runV (As := [.int (mcF rw kb mt)]) (rest := []) ⟨hx, hb, hml, hown, hts⟩ (c_X4_tells l g m0 m1 m2 m3 m4 m5 ma np ln th at_ hs (mcF rw kb mt)) (cwV 1 hts gX4_cost_X4_tells rfl rfl rfl (by decide +kernel) ⟨(Nat.le_of_ble_eq_true rfl), (Nat.le_of_ble_eq_true rfl)⟩) (preVd (RX4, TX4, 11) hE hP hD [0] (by decide) rfl rfl) rfl rfl hl.1 rfl (lv_room (Nat.le_of_ble_eq_true rfl)) dX4_cost_23 ⟨(Nat.le_of_ble_eq_true rfl), (Nat.le_of_ble_eq_true rfl)⟩) hP hD hS [0] [1] 2 [m0, m1] [(m1, .inl (g.2.1 0, 523, .inl rw))] rfl rfl rfl (fun _ => rfl) (fun _ => rfl) (fun _ => rfl) rfl (by decide) (fun r9 _ H locs hr9 hP hD hS => ?_)
      subst hr9
      refine lv_goto (tgt := 34) hx hb dX4_cost_26 (by decide) ?_
      subst hQ
      have hP9 : va_P g.1 vwCl [(m0, .inr (4, [.ref m1, .long ma, .ref m2, .ref m3, .int (nI np), .ref m4, .int (nI ln), .int 0, .ref m5, .int (nI at_), .long hs])), (m1, .inl (g.2.1 0, 523, .inl rw))] H := hP
      exact W.iret (v := (mcF rw kb mt)) hx hb hr (fun t ht hW => ⟨⟨(mcF rw kb mt), none, rfl, Or.inl ⟨rfl, ⟨b6, b13⟩, by rw [tn_nI (n := kb) (by omega)]⟩, by show va_P g.1 vwCl _ t.heap; rw [ht]; exact hP9⟩, hS.F ht⟩) hS.2.2 dX4_cost_34
abbrev rm_X4_cheapest : Room := { frames := 4, cells := 0, slots := 0, locals := 93 }
set_option maxRecDepth 100000 in
set_option maxHeartbeats 4000000 in
theorem c_X4_cheapest (l : Launch) (g : GT) (m0 : Nat) (m1 : Nat) (m2 : Nat) (m3 : Nat) (m4 : Nat) (m5 : Nat) (ma : Int64) (np : Nat) (ln : Nat) (th : Int32) (at_ : Nat) (hs : Int64) (rw : Nat → Int32) (w : Nat) (av : Int32) (bv : Int32) (hw8 : w ≤ 8) (hrw : rw 0 = nI w) : cUi l g yX4_cheapest wsX4_cheapest rm_X4_cheapest [.ref m0, .int av, .int bv] [(m0, .inr (4, [.ref m1, .long ma, .ref m2, .ref m3, .int (nI np), .ref m4, .int (nI ln), .int th, .ref m5, .int (nI at_), .long hs])), (m1, .inl (g.2.1 0, 523, .inl rw))] (fun r (ub : Option Int32) => (ub = none ∧ (okR 0 (nI (gr w)) av ∧ okR 0 (nI (gr w)) bv) ∧ r = mhF rw (tn av) (tn bv)) ∨ (ub = some 1 ∧ ¬ (okR 0 (nI (gr w)) av ∧ okR 0 (nI (gr w)) bv))) (fun ub => Option.elim ub [(m0, .inr (4, [.ref m1, .long ma, .ref m2, .ref m3, .int (nI np), .ref m4, .int (nI ln), .int 0, .ref m5, .int (nI at_), .long hs])), (m1, .inl (g.2.1 0, 523, .inl rw))] (fun tq => [(m0, .inr (4, [.ref m1, .long ma, .ref m2, .ref m3, .int (nI np), .ref m4, .int (nI ln), .int tq, .ref m5, .int (nI at_), .long hs])), (m1, .inl (g.2.1 0, 523, .inl rw))])) := by
  refine enU (y := yX4_cheapest) (ws := wsX4_cheapest) (av := [.ref m0, .int av, .int bv]) (cc := cX4_cheapest) (maxL := 3) (ret := (some .int)) (by decide) rfl (Nat.le_of_ble_eq_true rfl) rfl ?_
  intro p e s m below meth c ls hx hb hr hml hown hts hlocks hE hP hD hl
  have hK := hE.1
  have hS : va_S (va_Ad [(m0, .inr (4, [.ref m1, .long ma, .ref m2, .ref m3, .int (nI np), .ref m4, .int (nI ln), .int th, .ref m5, .int (nI at_), .long hs])), (m1, .inl (g.2.1 0, 523, .inl rw))]) s.heap s.heap [] := va_S.rf
  generalize hQ : MQ below _ _ s _ _ _ = Q9
  have hl : lv_has ls 3 [(0, .ref m0), (1, .int av), (2, .int bv)] := hl
  have hgr := gr_le w hw8
  have hen := ents_le w hw8
  refine lv_aload_n hx hb dX4_cheapest_0 rfl (lv_at hl 0 rfl) ?_
  refine lv_iload_n hx hb dX4_cheapest_1 rfl (lv_at hl 1 rfl) ?_
  refine lv_iload_n hx hb dX4_cheapest_2 rfl (lv_at hl 2 rfl) ?_
  refine kRi (va_runV (As := [.int av, .int bv]) (rest := []) ⟨hx, hb, hml, hown, hts⟩ (c_X4_areOperands l g m0 m1 m2 m3 m4 m5 ma np ln th at_ hs rw w av bv (by first | assumption | omega | exact Nat.le_of_ble_eq_true rfl) (by first | assumption | omega | exact Nat.le_of_ble_eq_true rfl)) (cwV 2 hts gX4_cheapest_X4_areOperands rfl rfl rfl (by decide +kernel) ⟨(Nat.le_of_ble_eq_true rfl), (Nat.le_of_ble_eq_true rfl)⟩) (preV (RX4, TX4, 11) hE hP [0, 1] rfl rfl) rfl rfl hl.1 rfl (lv_room (Nat.le_of_ble_eq_true rfl)) dX4_cheapest_3 ⟨(Nat.le_of_ble_eq_true rfl), (Nat.le_of_ble_eq_true rfl)⟩) hP hS (fun r9 H locs hr9 hP hS => ?_)
  subst hr9
  refine lv_if_eq (tgt := 22) hx hb dX4_cheapest_6 (by decide) (fun c6 => ?_) (fun c6 => ?_)
  · have b6 : ¬ (okR 0 (nI (gr w)) av ∧ okR 0 (nI (gr w)) bv) := bz_f c6
    refine lv_aload_n hx hb dX4_cheapest_22 rfl (lv_at hl 0 rfl) ?_
    refine lv_iconst (v := 1) hx hb dX4_cheapest_23 (by decide) ?_
    refine kUi (fun _ => [(m0, .inr (4, [.ref m1, .long ma, .ref m2, .ref m3, .int (nI np), .ref m4, .int (nI ln), .int 1, .ref m5, .int (nI at_), .long hs])), (m1, .inl (g.2.1 0, 523, .inl rw))]) (va_runV (As := [.int 1]) (rest := []) ⟨hx, hb, hml, hown, hts⟩ (c_X4_fails l g m0 m1 m2 m3 m4 m5 ma np ln th at_ hs 1) (cwV 1 hts gX4_cheapest_X4_fails rfl rfl rfl (by decide +kernel) ⟨(Nat.le_of_ble_eq_true rfl), (Nat.le_of_ble_eq_true rfl)⟩) (preVd (RX4, TX4, 11) hE hP hD [0] (by decide) rfl rfl) rfl rfl hl.1 rfl (lv_room (Nat.le_of_ble_eq_true rfl)) dX4_cheapest_24 ⟨(Nat.le_of_ble_eq_true rfl), (Nat.le_of_ble_eq_true rfl)⟩) hP hD hS [0] [1] 2 [m0, m1] [(m1, .inl (g.2.1 0, 523, .inl rw))] rfl rfl rfl (fun _ => rfl) (fun _ => rfl) (fun _ => rfl) rfl (by decide) (fun r9 _ H locs hr9 hP hD hS => ?_)
    subst hr9
    subst hQ
    have hP9 : va_P g.1 vwCl [(m0, .inr (4, [.ref m1, .long ma, .ref m2, .ref m3, .int (nI np), .ref m4, .int (nI ln), .int 1, .ref m5, .int (nI at_), .long hs])), (m1, .inl (g.2.1 0, 523, .inl rw))] H := hP
    exact W.iret (v := 0) hx hb hr (fun t ht hW => ⟨⟨0, (some 1), rfl, Or.inr ⟨rfl, b6⟩, by show va_P g.1 vwCl _ t.heap; rw [ht]; exact hP9⟩, hS.F ht⟩) hS.2.2 dX4_cheapest_27
  · have b6 : okR 0 (nI (gr w)) av ∧ okR 0 (nI (gr w)) bv := bz_t c6
    obtain ⟨ka, hka, rfl⟩ := op_of hw8 b6.1
    obtain ⟨kb, hkb, rfl⟩ := op_of hw8 b6.2
    refine lv_aload_n hx hb dX4_cheapest_9 rfl (lv_at hl 0 rfl) ?_
    refine lv_aload_n hx hb dX4_cheapest_10 rfl (lv_at hl 0 rfl) ?_
    refine lv_iload_n hx hb dX4_cheapest_11 rfl (lv_at hl 1 rfl) ?_
    refine lv_iload_n hx hb dX4_cheapest_12 rfl (lv_at hl 2 rfl) ?_
    refine kRi (va_runV (As := [.int (nI ka), .int (nI kb)]) (rest := [.ref m0]) ⟨hx, hb, hml, hown, hts⟩ (c_X4_cheapestOf l g m0 m1 m2 m3 m4 m5 ma np ln th at_ hs rw w ka kb (by first | assumption | omega | exact Nat.le_of_ble_eq_true rfl) (by first | assumption | omega | exact Nat.le_of_ble_eq_true rfl)) (cwV 2 hts gX4_cheapest_X4_cheapestOf rfl rfl rfl (by decide +kernel) ⟨(Nat.le_of_ble_eq_true rfl), (Nat.le_of_ble_eq_true rfl)⟩) (preV (RX4, TX4, 11) hE hP [0, 1] rfl rfl) rfl rfl hl.1 rfl (lv_room (Nat.le_of_ble_eq_true rfl)) dX4_cheapest_13 ⟨(Nat.le_of_ble_eq_true rfl), (Nat.le_of_ble_eq_true rfl)⟩) hP hS (fun r9 H locs hr9 hP hS => ?_)
    subst hr9
    refine kUi (fun _ => [(m0, .inr (4, [.ref m1, .long ma, .ref m2, .ref m3, .int (nI np), .ref m4, .int (nI ln), .int 0, .ref m5, .int (nI at_), .long hs])), (m1, .inl (g.2.1 0, 523, .inl rw))]) (va_runV (As := [.int (mhF rw ka kb)]) (rest := []) ⟨hx, hb, hml, hown, hts⟩ (c_X4_tells l g m0 m1 m2 m3 m4 m5 ma np ln th at_ hs (mhF rw ka kb)) (cwV 1 hts gX4_cheapest_X4_tells rfl rfl rfl (by decide +kernel) ⟨(Nat.le_of_ble_eq_true rfl), (Nat.le_of_ble_eq_true rfl)⟩) (preVd (RX4, TX4, 11) hE hP hD [0] (by decide) rfl rfl) rfl rfl hl.1 rfl (lv_room (Nat.le_of_ble_eq_true rfl)) dX4_cheapest_16 ⟨(Nat.le_of_ble_eq_true rfl), (Nat.le_of_ble_eq_true rfl)⟩) hP hD hS [0] [1] 2 [m0, m1] [(m1, .inl (g.2.1 0, 523, .inl rw))] rfl rfl rfl (fun _ => rfl) (fun _ => rfl) (fun _ => rfl) rfl (by decide) (fun r9 _ H locs hr9 hP hD hS => ?_)
    subst hr9
    refine lv_goto (tgt := 27) hx hb dX4_cheapest_19 (by decide) ?_
    subst hQ
    have hP9 : va_P g.1 vwCl [(m0, .inr (4, [.ref m1, .long ma, .ref m2, .ref m3, .int (nI np), .ref m4, .int (nI ln), .int 0, .ref m5, .int (nI at_), .long hs])), (m1, .inl (g.2.1 0, 523, .inl rw))] H := hP
    exact W.iret (v := (mhF rw ka kb)) hx hb hr (fun t ht hW => ⟨⟨(mhF rw ka kb), none, rfl, Or.inl ⟨rfl, b6, by rw [tn_nI (n := ka) (by omega), tn_nI (n := kb) (by omega)]⟩, by show va_P g.1 vwCl _ t.heap; rw [ht]; exact hP9⟩, hS.F ht⟩) hS.2.2 dX4_cheapest_27
abbrev rm_X4_fraction : Room := { frames := 4, cells := 0, slots := 0, locals := 90 }
set_option maxRecDepth 100000 in
set_option maxHeartbeats 4000000 in
theorem c_X4_fraction (l : Launch) (g : GT) (m0 : Nat) (m1 : Nat) (m2 : Nat) (m3 : Nat) (m4 : Nat) (m5 : Nat) (ma : Int64) (np : Nat) (ln : Nat) (th : Int32) (at_ : Nat) (hs : Int64) (rw : Nat → Int32) (w : Nat) (av : Int32) (bv : Int32) (mt : Int32) (kp : Int32) (wy : Int32) (hw8 : w ≤ 8) (hrw : rw 0 = nI w) : cUi l g yX4_fraction wsX4_fraction rm_X4_fraction [.ref m0, .int av, .int bv, .int mt, .int kp, .int wy] [(m0, .inr (4, [.ref m1, .long ma, .ref m2, .ref m3, .int (nI np), .ref m4, .int (nI ln), .int th, .ref m5, .int (nI at_), .long hs])), (m1, .inl (g.2.1 0, 523, .inl rw))] (fun r (ub : Option Int32) => (ub = none ∧ (((okR 0 (nI (gr w)) av ∧ okR 0 (nI (gr w)) bv) ∧ okR 0 2 mt) ∧ (okR 0 16 kp ∧ okR 0 2 wy)) ∧ r = mrF (mpF rw (tn av) (tn bv) mt) kp wy) ∨ (ub = some 1 ∧ ¬ (((okR 0 (nI (gr w)) av ∧ okR 0 (nI (gr w)) bv) ∧ okR 0 2 mt) ∧ (okR 0 16 kp ∧ okR 0 2 wy)))) (fun ub => Option.elim ub [(m0, .inr (4, [.ref m1, .long ma, .ref m2, .ref m3, .int (nI np), .ref m4, .int (nI ln), .int 0, .ref m5, .int (nI at_), .long hs])), (m1, .inl (g.2.1 0, 523, .inl rw))] (fun tq => [(m0, .inr (4, [.ref m1, .long ma, .ref m2, .ref m3, .int (nI np), .ref m4, .int (nI ln), .int tq, .ref m5, .int (nI at_), .long hs])), (m1, .inl (g.2.1 0, 523, .inl rw))])) := by
  refine enU (y := yX4_fraction) (ws := wsX4_fraction) (av := [.ref m0, .int av, .int bv, .int mt, .int kp, .int wy]) (cc := cX4_fraction) (maxL := 6) (ret := (some .int)) (by decide) rfl (Nat.le_of_ble_eq_true rfl) rfl ?_
  intro p e s m below meth c ls hx hb hr hml hown hts hlocks hE hP hD hl
  have hK := hE.1
  have hS : va_S (va_Ad [(m0, .inr (4, [.ref m1, .long ma, .ref m2, .ref m3, .int (nI np), .ref m4, .int (nI ln), .int th, .ref m5, .int (nI at_), .long hs])), (m1, .inl (g.2.1 0, 523, .inl rw))]) s.heap s.heap [] := va_S.rf
  generalize hQ : MQ below _ _ s _ _ _ = Q9
  have hl : lv_has ls 6 [(0, .ref m0), (1, .int av), (2, .int bv), (3, .int mt), (4, .int kp), (5, .int wy)] := hl
  have hgr := gr_le w hw8
  have hen := ents_le w hw8
  refine lv_aload_n hx hb dX4_fraction_0 rfl (lv_at hl 0 rfl) ?_
  refine lv_iload_n hx hb dX4_fraction_1 rfl (lv_at hl 1 rfl) ?_
  refine lv_iload_n hx hb dX4_fraction_2 rfl (lv_at hl 2 rfl) ?_
  refine kRi (va_runV (As := [.int av, .int bv]) (rest := []) ⟨hx, hb, hml, hown, hts⟩ (c_X4_areOperands l g m0 m1 m2 m3 m4 m5 ma np ln th at_ hs rw w av bv (by first | assumption | omega | exact Nat.le_of_ble_eq_true rfl) (by first | assumption | omega | exact Nat.le_of_ble_eq_true rfl)) (cwV 2 hts gX4_fraction_X4_areOperands rfl rfl rfl (by decide +kernel) ⟨(Nat.le_of_ble_eq_true rfl), (Nat.le_of_ble_eq_true rfl)⟩) (preV (RX4, TX4, 11) hE hP [0, 1] rfl rfl) rfl rfl hl.1 rfl (lv_room (Nat.le_of_ble_eq_true rfl)) dX4_fraction_3 ⟨(Nat.le_of_ble_eq_true rfl), (Nat.le_of_ble_eq_true rfl)⟩) hP hS (fun r9 H locs hr9 hP hS => ?_)
  subst hr9
  refine lv_if_eq (tgt := 26) hx hb dX4_fraction_6 (by decide) (fun c6 => ?_) (fun c6 => ?_)
  · have b6 : ¬ (okR 0 (nI (gr w)) av ∧ okR 0 (nI (gr w)) bv) := bz_f c6
    refine lv_aload_n hx hb dX4_fraction_26 rfl (lv_at hl 0 rfl) ?_
    refine lv_iconst (v := 1) hx hb dX4_fraction_27 (by decide) ?_
    refine kUi (fun _ => [(m0, .inr (4, [.ref m1, .long ma, .ref m2, .ref m3, .int (nI np), .ref m4, .int (nI ln), .int 1, .ref m5, .int (nI at_), .long hs])), (m1, .inl (g.2.1 0, 523, .inl rw))]) (va_runV (As := [.int 1]) (rest := []) ⟨hx, hb, hml, hown, hts⟩ (c_X4_fails l g m0 m1 m2 m3 m4 m5 ma np ln th at_ hs 1) (cwV 1 hts gX4_fraction_X4_fails rfl rfl rfl (by decide +kernel) ⟨(Nat.le_of_ble_eq_true rfl), (Nat.le_of_ble_eq_true rfl)⟩) (preVd (RX4, TX4, 11) hE hP hD [0] (by decide) rfl rfl) rfl rfl hl.1 rfl (lv_room (Nat.le_of_ble_eq_true rfl)) dX4_fraction_28 ⟨(Nat.le_of_ble_eq_true rfl), (Nat.le_of_ble_eq_true rfl)⟩) hP hD hS [0] [1] 2 [m0, m1] [(m1, .inl (g.2.1 0, 523, .inl rw))] rfl rfl rfl (fun _ => rfl) (fun _ => rfl) (fun _ => rfl) rfl (by decide) (fun r9 _ H locs hr9 hP hD hS => ?_)
    subst hr9
    subst hQ
    have hP9 : va_P g.1 vwCl [(m0, .inr (4, [.ref m1, .long ma, .ref m2, .ref m3, .int (nI np), .ref m4, .int (nI ln), .int 1, .ref m5, .int (nI at_), .long hs])), (m1, .inl (g.2.1 0, 523, .inl rw))] H := hP
    exact W.iret (v := 0) hx hb hr (fun t ht hW => ⟨⟨0, (some 1), rfl, by first | exact Or.inr ⟨rfl, fun h => b6 h.1.1⟩ | exact Or.inr ⟨rfl, fun h => b13 h.1.2⟩ | exact Or.inr ⟨rfl, fun h => b23 h.2⟩, by show va_P g.1 vwCl _ t.heap; rw [ht]; exact hP9⟩, hS.F ht⟩) hS.2.2 dX4_fraction_31
  · have b6 : okR 0 (nI (gr w)) av ∧ okR 0 (nI (gr w)) bv := bz_t c6
    obtain ⟨ka, hka, rfl⟩ := op_of hw8 b6.1
    obtain ⟨kb, hkb, rfl⟩ := op_of hw8 b6.2
    refine lv_iload_n hx hb dX4_fraction_9 rfl (lv_at hl 3 rfl) ?_
    refine kRi (va_runS (As := [.int mt]) (rest := []) ⟨hx, hb, hml, hown, hts⟩ (c_X4_isMethod l g mt) (va_cwS 1 hts gX4_fraction_X4_isMethod rfl rfl rfl (by decide +kernel) ⟨(Nat.le_of_ble_eq_true rfl), (Nat.le_of_ble_eq_true rfl)⟩) (preS hE hP [] rfl) rfl rfl hl.1 rfl (lv_room (Nat.le_of_ble_eq_true rfl)) dX4_fraction_10 ⟨(Nat.le_of_ble_eq_true rfl), (Nat.le_of_ble_eq_true rfl)⟩) hP hS (fun r9 H locs hr9 hP hS => ?_)
    subst hr9
    refine lv_if_eq (tgt := 26) hx hb dX4_fraction_13 (by decide) (fun c13 => ?_) (fun c13 => ?_)
    · have b13 : ¬ (okR 0 2 mt) := bz_f c13
      refine lv_aload_n hx hb dX4_fraction_26 rfl (lv_at hl 0 rfl) ?_
      refine lv_iconst (v := 1) hx hb dX4_fraction_27 (by decide) ?_
      refine kUi (fun _ => [(m0, .inr (4, [.ref m1, .long ma, .ref m2, .ref m3, .int (nI np), .ref m4, .int (nI ln), .int 1, .ref m5, .int (nI at_), .long hs])), (m1, .inl (g.2.1 0, 523, .inl rw))]) (va_runV (As := [.int 1]) (rest := []) ⟨hx, hb, hml, hown, hts⟩ (c_X4_fails l g m0 m1 m2 m3 m4 m5 ma np ln th at_ hs 1) (cwV 1 hts gX4_fraction_X4_fails rfl rfl rfl (by decide +kernel) ⟨(Nat.le_of_ble_eq_true rfl), (Nat.le_of_ble_eq_true rfl)⟩) (preVd (RX4, TX4, 11) hE hP hD [0] (by decide) rfl rfl) rfl rfl hl.1 rfl (lv_room (Nat.le_of_ble_eq_true rfl)) dX4_fraction_28 ⟨(Nat.le_of_ble_eq_true rfl), (Nat.le_of_ble_eq_true rfl)⟩) hP hD hS [0] [1] 2 [m0, m1] [(m1, .inl (g.2.1 0, 523, .inl rw))] rfl rfl rfl (fun _ => rfl) (fun _ => rfl) (fun _ => rfl) rfl (by decide) (fun r9 _ H locs hr9 hP hD hS => ?_)
      subst hr9
      subst hQ
      have hP9 : va_P g.1 vwCl [(m0, .inr (4, [.ref m1, .long ma, .ref m2, .ref m3, .int (nI np), .ref m4, .int (nI ln), .int 1, .ref m5, .int (nI at_), .long hs])), (m1, .inl (g.2.1 0, 523, .inl rw))] H := hP
      exact W.iret (v := 0) hx hb hr (fun t ht hW => ⟨⟨0, (some 1), rfl, by first | exact Or.inr ⟨rfl, fun h => b6 h.1.1⟩ | exact Or.inr ⟨rfl, fun h => b13 h.1.2⟩ | exact Or.inr ⟨rfl, fun h => b23 h.2⟩, by show va_P g.1 vwCl _ t.heap; rw [ht]; exact hP9⟩, hS.F ht⟩) hS.2.2 dX4_fraction_31
    · have b13 : okR 0 2 mt := bz_t c13
      refine lv_iload hx hb dX4_fraction_16 (lv_at hl 4 rfl) ?_
      refine lv_iload hx hb dX4_fraction_18 (lv_at hl 5 rfl) ?_
      refine kRi (va_runS (As := [.int kp, .int wy]) (rest := []) ⟨hx, hb, hml, hown, hts⟩ (c_X4_isWay l g kp wy) (va_cwS 2 hts gX4_fraction_X4_isWay rfl rfl rfl (by decide +kernel) ⟨(Nat.le_of_ble_eq_true rfl), (Nat.le_of_ble_eq_true rfl)⟩) (preS hE hP [] rfl) rfl rfl hl.1 rfl (lv_room (Nat.le_of_ble_eq_true rfl)) dX4_fraction_20 ⟨(Nat.le_of_ble_eq_true rfl), (Nat.le_of_ble_eq_true rfl)⟩) hP hS (fun r9 H locs hr9 hP hS => ?_)
      subst hr9
      refine lv_if_ne (tgt := 32) hx hb dX4_fraction_23 (by decide) (fun c23 => ?_) (fun c23 => ?_)
      · have b23 : okR 0 16 kp ∧ okR 0 2 wy := bz_t c23
        refine lv_aload_n hx hb dX4_fraction_32 rfl (lv_at hl 0 rfl) ?_
        refine lv_aload_n hx hb dX4_fraction_33 rfl (lv_at hl 0 rfl) ?_
        refine lv_iload_n hx hb dX4_fraction_34 rfl (lv_at hl 1 rfl) ?_
        refine lv_iload_n hx hb dX4_fraction_35 rfl (lv_at hl 2 rfl) ?_
        refine lv_iload_n hx hb dX4_fraction_36 rfl (lv_at hl 3 rfl) ?_
        refine kRi (va_runV (As := [.int (nI ka), .int (nI kb), .int mt]) (rest := [.ref m0]) ⟨hx, hb, hml, hown, hts⟩ (c_X4_product l g m0 m1 m2 m3 m4 m5 ma np ln th at_ hs rw w ka kb mt (by first | assumption | omega | exact Nat.le_of_ble_eq_true rfl) (by first | assumption | omega | exact Nat.le_of_ble_eq_true rfl)) (cwV 3 hts gX4_fraction_X4_product rfl rfl rfl (by decide +kernel) ⟨(Nat.le_of_ble_eq_true rfl), (Nat.le_of_ble_eq_true rfl)⟩) (preV (RX4, TX4, 11) hE hP [0, 1] rfl rfl) rfl rfl hl.1 rfl (lv_room (Nat.le_of_ble_eq_true rfl)) dX4_fraction_37 ⟨(Nat.le_of_ble_eq_true rfl), (Nat.le_of_ble_eq_true rfl)⟩) hP hS (fun r9 H locs hr9 hP hS => ?_)
        subst hr9
        refine lv_iload hx hb dX4_fraction_40 (lv_at hl 4 rfl) ?_
        refine lv_iload hx hb dX4_fraction_42 (lv_at hl 5 rfl) ?_
        refine kRi (va_runS (As := [.int (mpF rw ka kb mt), .int kp, .int wy]) (rest := [.ref m0]) ⟨hx, hb, hml, hown, hts⟩ (c_X4_rounded l g (mpF rw ka kb mt) kp wy) (va_cwS 3 hts gX4_fraction_X4_rounded rfl rfl rfl (by decide +kernel) ⟨(Nat.le_of_ble_eq_true rfl), (Nat.le_of_ble_eq_true rfl)⟩) (preS hE hP [] rfl) rfl rfl hl.1 rfl (lv_room (Nat.le_of_ble_eq_true rfl)) dX4_fraction_44 ⟨(Nat.le_of_ble_eq_true rfl), (Nat.le_of_ble_eq_true rfl)⟩) hP hS (fun r9 H locs hr9 hP hS => ?_)
        subst hr9
        refine kUi (fun _ => [(m0, .inr (4, [.ref m1, .long ma, .ref m2, .ref m3, .int (nI np), .ref m4, .int (nI ln), .int 0, .ref m5, .int (nI at_), .long hs])), (m1, .inl (g.2.1 0, 523, .inl rw))]) (va_runV (As := [.int (mrF (mpF rw ka kb mt) kp wy)]) (rest := []) ⟨hx, hb, hml, hown, hts⟩ (c_X4_tells l g m0 m1 m2 m3 m4 m5 ma np ln th at_ hs (mrF (mpF rw ka kb mt) kp wy)) (cwV 1 hts gX4_fraction_X4_tells rfl rfl rfl (by decide +kernel) ⟨(Nat.le_of_ble_eq_true rfl), (Nat.le_of_ble_eq_true rfl)⟩) (preVd (RX4, TX4, 11) hE hP hD [0] (by decide) rfl rfl) rfl rfl hl.1 rfl (lv_room (Nat.le_of_ble_eq_true rfl)) dX4_fraction_47 ⟨(Nat.le_of_ble_eq_true rfl), (Nat.le_of_ble_eq_true rfl)⟩) hP hD hS [0] [1] 2 [m0, m1] [(m1, .inl (g.2.1 0, 523, .inl rw))] rfl rfl rfl (fun _ => rfl) (fun _ => rfl) (fun _ => rfl) rfl (by decide) (fun r9 _ H locs hr9 hP hD hS => ?_)
        subst hr9
        subst hQ
        have hP9 : va_P g.1 vwCl [(m0, .inr (4, [.ref m1, .long ma, .ref m2, .ref m3, .int (nI np), .ref m4, .int (nI ln), .int 0, .ref m5, .int (nI at_), .long hs])), (m1, .inl (g.2.1 0, 523, .inl rw))] H := hP
        exact W.iret (v := (mrF (mpF rw ka kb mt) kp wy)) hx hb hr (fun t ht hW => ⟨⟨(mrF (mpF rw ka kb mt) kp wy), none, rfl, Or.inl ⟨rfl, ⟨⟨b6, b13⟩, b23⟩, by rw [tn_nI (n := ka) (by omega), tn_nI (n := kb) (by omega)]⟩, by show va_P g.1 vwCl _ t.heap; rw [ht]; exact hP9⟩, hS.F ht⟩) hS.2.2 dX4_fraction_50
      · have b23 : ¬ (okR 0 16 kp ∧ okR 0 2 wy) := bz_f c23
        refine lv_aload_n hx hb dX4_fraction_26 rfl (lv_at hl 0 rfl) ?_
        refine lv_iconst (v := 1) hx hb dX4_fraction_27 (by decide) ?_
        refine kUi (fun _ => [(m0, .inr (4, [.ref m1, .long ma, .ref m2, .ref m3, .int (nI np), .ref m4, .int (nI ln), .int 1, .ref m5, .int (nI at_), .long hs])), (m1, .inl (g.2.1 0, 523, .inl rw))]) (va_runV (As := [.int 1]) (rest := []) ⟨hx, hb, hml, hown, hts⟩ (c_X4_fails l g m0 m1 m2 m3 m4 m5 ma np ln th at_ hs 1) (cwV 1 hts gX4_fraction_X4_fails rfl rfl rfl (by decide +kernel) ⟨(Nat.le_of_ble_eq_true rfl), (Nat.le_of_ble_eq_true rfl)⟩) (preVd (RX4, TX4, 11) hE hP hD [0] (by decide) rfl rfl) rfl rfl hl.1 rfl (lv_room (Nat.le_of_ble_eq_true rfl)) dX4_fraction_28 ⟨(Nat.le_of_ble_eq_true rfl), (Nat.le_of_ble_eq_true rfl)⟩) hP hD hS [0] [1] 2 [m0, m1] [(m1, .inl (g.2.1 0, 523, .inl rw))] rfl rfl rfl (fun _ => rfl) (fun _ => rfl) (fun _ => rfl) rfl (by decide) (fun r9 _ H locs hr9 hP hD hS => ?_)
        subst hr9
        subst hQ
        have hP9 : va_P g.1 vwCl [(m0, .inr (4, [.ref m1, .long ma, .ref m2, .ref m3, .int (nI np), .ref m4, .int (nI ln), .int 1, .ref m5, .int (nI at_), .long hs])), (m1, .inl (g.2.1 0, 523, .inl rw))] H := hP
        exact W.iret (v := 0) hx hb hr (fun t ht hW => ⟨⟨0, (some 1), rfl, by first | exact Or.inr ⟨rfl, fun h => b6 h.1.1⟩ | exact Or.inr ⟨rfl, fun h => b13 h.1.2⟩ | exact Or.inr ⟨rfl, fun h => b23 h.2⟩, by show va_P g.1 vwCl _ t.heap; rw [ht]; exact hP9⟩, hS.F ht⟩) hS.2.2 dX4_fraction_31
theorem in_X4_error_X4 : ∀ w ∈ wsX40, w ∈ wsX4_error := by decide +kernel
abbrev rm_X4_error : Room := { frames := 3, cells := 0, slots := 0, locals := 65 }
set_option maxRecDepth 100000 in
set_option maxHeartbeats 4000000 in
theorem c_X4_error (l : Launch) (g : GT) (m0 : Nat) (m1 : Nat) (m2 : Nat) (m3 : Nat) (m4 : Nat) (m5 : Nat) (ma : Int64) (np : Nat) (ln : Nat) (th : Int32) (at_ : Nat) (hs : Int64) (rw : Nat → Int32) (w : Nat) (av : Int32) (bv : Int32) (kp : Int32) (wy : Int32) (hw8 : w ≤ 8) (hrw : rw 0 = nI w) : cUd l g yX4_error wsX4_error rm_X4_error [.ref m0, .int av, .int bv, .int kp, .int wy] [(m0, .inr (4, [.ref m1, .long ma, .ref m2, .ref m3, .int (nI np), .ref m4, .int (nI ln), .int th, .ref m5, .int (nI at_), .long hs])), (m1, .inl (g.2.1 0, 523, .inl rw))] (fun r (ub : Option Int32) => (ub = none ∧ ((okR 0 (nI (gr w)) av ∧ okR 0 (nI (gr w)) bv) ∧ (okR 0 16 kp ∧ okR 0 2 wy)) ∧ r = meR (tn av) (tn bv) kp wy) ∨ (ub = some 1 ∧ ¬ ((okR 0 (nI (gr w)) av ∧ okR 0 (nI (gr w)) bv) ∧ (okR 0 16 kp ∧ okR 0 2 wy)))) (fun ub => Option.elim ub [(m0, .inr (4, [.ref m1, .long ma, .ref m2, .ref m3, .int (nI np), .ref m4, .int (nI ln), .int 0, .ref m5, .int (nI at_), .long hs])), (m1, .inl (g.2.1 0, 523, .inl rw))] (fun tq => [(m0, .inr (4, [.ref m1, .long ma, .ref m2, .ref m3, .int (nI np), .ref m4, .int (nI ln), .int tq, .ref m5, .int (nI at_), .long hs])), (m1, .inl (g.2.1 0, 523, .inl rw))])) := by
  refine enU (y := yX4_error) (ws := wsX4_error) (av := [.ref m0, .int av, .int bv, .int kp, .int wy]) (cc := cX4_error) (maxL := 11) (ret := (some .double)) (by decide) rfl (Nat.le_of_ble_eq_true rfl) rfl ?_
  intro p e s m below meth c ls hx hb hr hml hown hts hlocks hE hP hD hl
  have hK := hE.1
  have hS : va_S (va_Ad [(m0, .inr (4, [.ref m1, .long ma, .ref m2, .ref m3, .int (nI np), .ref m4, .int (nI ln), .int th, .ref m5, .int (nI at_), .long hs])), (m1, .inl (g.2.1 0, 523, .inl rw))]) s.heap s.heap [] := va_S.rf
  generalize hQ : MQ below _ _ s _ _ _ = Q9
  have hl : lv_has ls 11 [(0, .ref m0), (1, .int av), (2, .int bv), (3, .int kp), (4, .int wy)] := hl
  have hgr := gr_le w hw8
  have hen := ents_le w hw8
  refine lv_aload_n hx hb dX4_error_0 rfl (lv_at hl 0 rfl) ?_
  refine lv_aload_n hx hb dX4_error_1 rfl (lv_at hl 0 rfl) ?_
  refine lv_iload_n hx hb dX4_error_2 rfl (lv_at hl 1 rfl) ?_
  refine lv_iload_n hx hb dX4_error_3 rfl (lv_at hl 2 rfl) ?_
  refine kRi (va_runV (As := [.int av, .int bv]) (rest := [.ref m0]) ⟨hx, hb, hml, hown, hts⟩ (c_X4_areOperands l g m0 m1 m2 m3 m4 m5 ma np ln th at_ hs rw w av bv (by first | assumption | omega | exact Nat.le_of_ble_eq_true rfl) (by first | assumption | omega | exact Nat.le_of_ble_eq_true rfl)) (cwV 2 hts gX4_error_X4_areOperands rfl rfl rfl (by decide +kernel) ⟨(Nat.le_of_ble_eq_true rfl), (Nat.le_of_ble_eq_true rfl)⟩) (preV (RX4, TX4, 11) hE hP [0, 1] rfl rfl) rfl rfl hl.1 rfl (lv_room (Nat.le_of_ble_eq_true rfl)) dX4_error_4 ⟨(Nat.le_of_ble_eq_true rfl), (Nat.le_of_ble_eq_true rfl)⟩) hP hS (fun r9 H locs hr9 hP hS => ?_)
  subst hr9
  refine lv_if_eq (tgt := 23) hx hb dX4_error_7 (by decide) (fun c7 => ?_) (fun c7 => ?_)
  · have b7 : ¬ (okR 0 (nI (gr w)) av ∧ okR 0 (nI (gr w)) bv) := bz_f c7
    refine lv_iconst (v := 1) hx hb dX4_error_23 (by decide) ?_
    refine va_put (D := g.1) (ci := 4) (v := .int 1) (ty := .int) (C := RX4) (T := TX4) (N := 11) hx hb hts in_X4_error_X4 tyX4 tyX4_ok nmX4 hown hK hP hD hS 0 rfl rfl 7 (by decide) (hts _ (List.mem_of_getElem? (i := 1) rfl)) (fun _ h9 => h9) rfl (by decide +kernel) rfl rfl (Nat.le_of_ble_eq_true rfl) dX4_error_24 (fun H locs hP hD hS => ?_)
    have hP : va_P g.1 vwCl [(m0, .inr (4, [.ref m1, .long ma, .ref m2, .ref m3, .int (nI np), .ref m4, .int (nI ln), .int 1, .ref m5, .int (nI at_), .long hs])), (m1, .inl (g.2.1 0, 523, .inl rw))] _ := hP
    have hD : va_D (va_Ad [(m0, .inr (4, [.ref m1, .long ma, .ref m2, .ref m3, .int (nI np), .ref m4, .int (nI ln), .int th, .ref m5, .int (nI at_), .long hs])), (m1, .inl (g.2.1 0, 523, .inl rw))]) [(m0, .inr (4, [.ref m1, .long ma, .ref m2, .ref m3, .int (nI np), .ref m4, .int (nI ln), .int 1, .ref m5, .int (nI at_), .long hs])), (m1, .inl (g.2.1 0, 523, .inl rw))] := hD
    refine lv_aload_n hx hb dX4_error_27 rfl (lv_at hl 0 rfl) ?_
    refine va_get (D := g.1) (ci := 4) (v := .int 1) (C := RX4) (T := TX4) (N := 11) hx hb hts in_X4_error_X4 hown hK hP 0 rfl rfl 7 (by decide) (hts _ (List.mem_of_getElem? (i := 1) rfl)) (fun _ h9 => h9) rfl dX4_error_28 ?_
    refine lv_if_le (tgt := 36) hx hb dX4_error_31 (by decide) (fun c31 => ?_) (fun c31 => ?_)
    · exact absurd c31 (by decide)
    · refine lv_dconst0 hx hb dX4_error_34 ?_
      subst hQ
      have hP9 : va_P g.1 vwCl [(m0, .inr (4, [.ref m1, .long ma, .ref m2, .ref m3, .int (nI np), .ref m4, .int (nI ln), .int 1, .ref m5, .int (nI at_), .long hs])), (m1, .inl (g.2.1 0, 523, .inl rw))] H := hP
      exact W.dret (v := FP.dconst0) hx hb hr (fun t ht hW => ⟨⟨FP.dconst0, (some 1), rfl, by first | exact Or.inr ⟨rfl, fun h => b7 h.1⟩ | exact Or.inr ⟨rfl, fun h => b16 h.2⟩, by show va_P g.1 vwCl _ t.heap; rw [ht]; exact hP9⟩, hS.F ht⟩) hS.2.2 dX4_error_35
  · have b7 : okR 0 (nI (gr w)) av ∧ okR 0 (nI (gr w)) bv := bz_t c7
    obtain ⟨ka, hka, rfl⟩ := op_of hw8 b7.1
    obtain ⟨kb, hkb, rfl⟩ := op_of hw8 b7.2
    refine lv_iload_n hx hb dX4_error_10 rfl (lv_at hl 3 rfl) ?_
    refine lv_iload hx hb dX4_error_11 (lv_at hl 4 rfl) ?_
    refine kRi (va_runS (As := [.int kp, .int wy]) (rest := [.ref m0]) ⟨hx, hb, hml, hown, hts⟩ (c_X4_isWay l g kp wy) (va_cwS 2 hts gX4_error_X4_isWay rfl rfl rfl (by decide +kernel) ⟨(Nat.le_of_ble_eq_true rfl), (Nat.le_of_ble_eq_true rfl)⟩) (preS hE hP [] rfl) rfl rfl hl.1 rfl (lv_room (Nat.le_of_ble_eq_true rfl)) dX4_error_13 ⟨(Nat.le_of_ble_eq_true rfl), (Nat.le_of_ble_eq_true rfl)⟩) hP hS (fun r9 H locs hr9 hP hS => ?_)
    subst hr9
    refine lv_if_eq (tgt := 23) hx hb dX4_error_16 (by decide) (fun c16 => ?_) (fun c16 => ?_)
    · have b16 : ¬ (okR 0 16 kp ∧ okR 0 2 wy) := bz_f c16
      refine lv_iconst (v := 1) hx hb dX4_error_23 (by decide) ?_
      refine va_put (D := g.1) (ci := 4) (v := .int 1) (ty := .int) (C := RX4) (T := TX4) (N := 11) hx hb hts in_X4_error_X4 tyX4 tyX4_ok nmX4 hown hK hP hD hS 0 rfl rfl 7 (by decide) (hts _ (List.mem_of_getElem? (i := 1) rfl)) (fun _ h9 => h9) rfl (by decide +kernel) rfl rfl (Nat.le_of_ble_eq_true rfl) dX4_error_24 (fun H locs hP hD hS => ?_)
      have hP : va_P g.1 vwCl [(m0, .inr (4, [.ref m1, .long ma, .ref m2, .ref m3, .int (nI np), .ref m4, .int (nI ln), .int 1, .ref m5, .int (nI at_), .long hs])), (m1, .inl (g.2.1 0, 523, .inl rw))] _ := hP
      have hD : va_D (va_Ad [(m0, .inr (4, [.ref m1, .long ma, .ref m2, .ref m3, .int (nI np), .ref m4, .int (nI ln), .int th, .ref m5, .int (nI at_), .long hs])), (m1, .inl (g.2.1 0, 523, .inl rw))]) [(m0, .inr (4, [.ref m1, .long ma, .ref m2, .ref m3, .int (nI np), .ref m4, .int (nI ln), .int 1, .ref m5, .int (nI at_), .long hs])), (m1, .inl (g.2.1 0, 523, .inl rw))] := hD
      refine lv_aload_n hx hb dX4_error_27 rfl (lv_at hl 0 rfl) ?_
      refine va_get (D := g.1) (ci := 4) (v := .int 1) (C := RX4) (T := TX4) (N := 11) hx hb hts in_X4_error_X4 hown hK hP 0 rfl rfl 7 (by decide) (hts _ (List.mem_of_getElem? (i := 1) rfl)) (fun _ h9 => h9) rfl dX4_error_28 ?_
      refine lv_if_le (tgt := 36) hx hb dX4_error_31 (by decide) (fun c31 => ?_) (fun c31 => ?_)
      · exact absurd c31 (by decide)
      · refine lv_dconst0 hx hb dX4_error_34 ?_
        subst hQ
        have hP9 : va_P g.1 vwCl [(m0, .inr (4, [.ref m1, .long ma, .ref m2, .ref m3, .int (nI np), .ref m4, .int (nI ln), .int 1, .ref m5, .int (nI at_), .long hs])), (m1, .inl (g.2.1 0, 523, .inl rw))] H := hP
        exact W.dret (v := FP.dconst0) hx hb hr (fun t ht hW => ⟨⟨FP.dconst0, (some 1), rfl, by first | exact Or.inr ⟨rfl, fun h => b7 h.1⟩ | exact Or.inr ⟨rfl, fun h => b16 h.2⟩, by show va_P g.1 vwCl _ t.heap; rw [ht]; exact hP9⟩, hS.F ht⟩) hS.2.2 dX4_error_35
    · have b16 : okR 0 16 kp ∧ okR 0 2 wy := bz_t c16
      refine lv_iconst (v := 0) hx hb dX4_error_19 (by decide) ?_
      refine lv_goto (tgt := 24) hx hb dX4_error_20 (by decide) ?_
      refine va_put (D := g.1) (ci := 4) (v := .int 0) (ty := .int) (C := RX4) (T := TX4) (N := 11) hx hb hts in_X4_error_X4 tyX4 tyX4_ok nmX4 hown hK hP hD hS 0 rfl rfl 7 (by decide) (hts _ (List.mem_of_getElem? (i := 1) rfl)) (fun _ h9 => h9) rfl (by decide +kernel) rfl rfl (Nat.le_of_ble_eq_true rfl) dX4_error_24 (fun H locs hP hD hS => ?_)
      have hP : va_P g.1 vwCl [(m0, .inr (4, [.ref m1, .long ma, .ref m2, .ref m3, .int (nI np), .ref m4, .int (nI ln), .int 0, .ref m5, .int (nI at_), .long hs])), (m1, .inl (g.2.1 0, 523, .inl rw))] _ := hP
      have hD : va_D (va_Ad [(m0, .inr (4, [.ref m1, .long ma, .ref m2, .ref m3, .int (nI np), .ref m4, .int (nI ln), .int th, .ref m5, .int (nI at_), .long hs])), (m1, .inl (g.2.1 0, 523, .inl rw))]) [(m0, .inr (4, [.ref m1, .long ma, .ref m2, .ref m3, .int (nI np), .ref m4, .int (nI ln), .int 0, .ref m5, .int (nI at_), .long hs])), (m1, .inl (g.2.1 0, 523, .inl rw))] := hD
      refine lv_aload_n hx hb dX4_error_27 rfl (lv_at hl 0 rfl) ?_
      refine va_get (D := g.1) (ci := 4) (v := .int 0) (C := RX4) (T := TX4) (N := 11) hx hb hts in_X4_error_X4 hown hK hP 0 rfl rfl 7 (by decide) (hts _ (List.mem_of_getElem? (i := 1) rfl)) (fun _ h9 => h9) rfl dX4_error_28 ?_
      refine lv_if_le (tgt := 36) hx hb dX4_error_31 (by decide) (fun c31 => ?_) (fun c31 => ?_)
      · refine lv_iload_n hx hb dX4_error_36 rfl (lv_at hl 1 rfl) ?_
        refine lv_iload_n hx hb dX4_error_37 rfl (lv_at hl 2 rfl) ?_
        refine lv_imul hx hb dX4_error_38 ?_
        refine lv_tope (y := (nI (ka * kb))) (show ((nI ka) * (nI kb) : Int32) = nI (ka * kb) from pk_mul (ka) (kb)) ?_
        refine lv_iload_n hx hb dX4_error_39 rfl (lv_at hl 3 rfl) ?_
        refine lv_iload hx hb dX4_error_40 (lv_at hl 4 rfl) ?_
        refine kRi (va_runS (As := [.int (nI (ka * kb)), .int kp, .int wy]) (rest := []) ⟨hx, hb, hml, hown, hts⟩ (c_X4_rounded l g (nI (ka * kb)) kp wy) (va_cwS 3 hts gX4_error_X4_rounded rfl rfl rfl (by decide +kernel) ⟨(Nat.le_of_ble_eq_true rfl), (Nat.le_of_ble_eq_true rfl)⟩) (preS hE hP [] rfl) rfl rfl hl.1 rfl (lv_room (Nat.le_of_ble_eq_true rfl)) dX4_error_42 ⟨(Nat.le_of_ble_eq_true rfl), (Nat.le_of_ble_eq_true rfl)⟩) hP hS (fun r9 H locs hr9 hP hS => ?_)
        subst hr9
        refine lv_i2d hx hb dX4_error_45 ?_
        refine lv_dstore (lv' := [(5, .double (FP.i2d (mrF (nI (ka * kb)) kp wy))), (0, .ref m0), (1, .int (nI ka)), (2, .int (nI kb)), (3, .int kp), (4, .int wy)]) hx hb dX4_error_46 hl (by decide) rfl (fun ls hl => ?_)
        refine lv_iload_n hx hb dX4_error_48 rfl (lv_at hl 2 rfl) ?_
        refine lv_iload_n hx hb dX4_error_49 rfl (lv_at hl 3 rfl) ?_
        refine lv_imul hx hb dX4_error_50 ?_
        refine lv_tope (y := (nI (ka * kb))) (show ((nI ka) * (nI kb) : Int32) = nI (ka * kb) from pk_mul (ka) (kb)) ?_
        refine lv_i2d hx hb dX4_error_51 ?_
        refine lv_dstore (lv' := [(7, .double (FP.i2d (nI (ka * kb)))), (5, .double (FP.i2d (mrF (nI (ka * kb)) kp wy))), (0, .ref m0), (1, .int (nI ka)), (2, .int (nI kb)), (3, .int kp), (4, .int wy)]) hx hb dX4_error_52 hl (by decide) rfl (fun ls hl => ?_)
        refine lv_iconst (v := 1) hx hb dX4_error_54 (by decide) ?_
        refine lv_iload_n hx hb dX4_error_55 rfl (lv_at hl 5 rfl) ?_
        refine lv_ishl hx hb dX4_error_56 ?_
        refine lv_i2d hx hb dX4_error_57 ?_
        refine lv_dstore (lv' := [(9, .double (FP.i2d ((1 : Int32) <<< (kp &&& 31)))), (7, .double (FP.i2d (nI (ka * kb)))), (5, .double (FP.i2d (mrF (nI (ka * kb)) kp wy))), (0, .ref m0), (1, .int (nI ka)), (2, .int (nI kb)), (3, .int kp), (4, .int wy)]) hx hb dX4_error_58 hl (by decide) rfl (fun ls hl => ?_)
        refine lv_dload hx hb dX4_error_60 (lv_at hl 2 rfl) ?_
        refine lv_dload hx hb dX4_error_62 (lv_at hl 1 rfl) ?_
        refine lv_dload hx hb dX4_error_64 (lv_at hl 0 rfl) ?_
        refine lv_ddiv hx hb dX4_error_66 (er_nan1 b16.1) ?_
        refine lv_dsub hx hb dX4_error_67 (er_nan2 b16.1) ?_
        subst hQ
        have hP9 : va_P g.1 vwCl [(m0, .inr (4, [.ref m1, .long ma, .ref m2, .ref m3, .int (nI np), .ref m4, .int (nI ln), .int 0, .ref m5, .int (nI at_), .long hs])), (m1, .inl (g.2.1 0, 523, .inl rw))] H := hP
        exact W.dret (v := (FP.dsub (FP.i2d (mrF (nI (ka * kb)) kp wy)) (FP.ddiv (FP.i2d (nI (ka * kb))) (FP.i2d ((1 : Int32) <<< (kp &&& 31)))))) hx hb hr (fun t ht hW => ⟨⟨(FP.dsub (FP.i2d (mrF (nI (ka * kb)) kp wy)) (FP.ddiv (FP.i2d (nI (ka * kb))) (FP.i2d ((1 : Int32) <<< (kp &&& 31))))), none, rfl, Or.inl ⟨rfl, ⟨b7, b16⟩, by rw [tn_nI (n := ka) (by omega), tn_nI (n := kb) (by omega)]; rfl⟩, by show va_P g.1 vwCl _ t.heap; rw [ht]; exact hP9⟩, hS.F ht⟩) hS.2.2 dX4_error_68
      · exact absurd c31 (by decide)
theorem in_X4_entry_X4 : ∀ w ∈ wsX40, w ∈ wsX4_entry := by decide +kernel
abbrev rm_X4_entry : Room := { frames := 3, cells := 0, slots := 0, locals := 64 }
set_option maxRecDepth 100000 in
set_option maxHeartbeats 4000000 in
theorem c_X4_entry (l : Launch) (g : GT) (m0 : Nat) (m1 : Nat) (m2 : Nat) (m3 : Nat) (m4 : Nat) (m5 : Nat) (ma : Int64) (np : Nat) (ln : Nat) (th : Int32) (at_ : Nat) (hs : Int64) (rw : Nat → Int32) (w : Nat) (ev : Int32) (wh : Int32) (hw8 : w ≤ 8) (hrw : rw 0 = nI w) : cUi l g yX4_entry wsX4_entry rm_X4_entry [.ref m0, .int ev, .int wh] [(m0, .inr (4, [.ref m1, .long ma, .ref m2, .ref m3, .int (nI np), .ref m4, .int (nI ln), .int th, .ref m5, .int (nI at_), .long hs])), (m1, .inl (g.2.1 0, 523, .inl rw))] (fun r (ub : Option Int32) => (ub = none ∧ (okE w ev ∧ okR 0 4 wh) ∧ r = menF rw (tn ev) wh) ∨ (ub = some 1 ∧ ¬ okE w ev) ∨ (ub = some 2 ∧ okE w ev ∧ ¬ okR 0 4 wh)) (fun ub => Option.elim ub [(m0, .inr (4, [.ref m1, .long ma, .ref m2, .ref m3, .int (nI np), .ref m4, .int (nI ln), .int 0, .ref m5, .int (nI at_), .long hs])), (m1, .inl (g.2.1 0, 523, .inl rw))] (fun tq => [(m0, .inr (4, [.ref m1, .long ma, .ref m2, .ref m3, .int (nI np), .ref m4, .int (nI ln), .int tq, .ref m5, .int (nI at_), .long hs])), (m1, .inl (g.2.1 0, 523, .inl rw))])) := by
  refine enU (y := yX4_entry) (ws := wsX4_entry) (av := [.ref m0, .int ev, .int wh]) (cc := cX4_entry) (maxL := 3) (ret := (some .int)) (by decide) rfl (Nat.le_of_ble_eq_true rfl) rfl ?_
  intro p e s m below meth c ls hx hb hr hml hown hts hlocks hE hP hD hl
  have hK := hE.1
  have hS : va_S (va_Ad [(m0, .inr (4, [.ref m1, .long ma, .ref m2, .ref m3, .int (nI np), .ref m4, .int (nI ln), .int th, .ref m5, .int (nI at_), .long hs])), (m1, .inl (g.2.1 0, 523, .inl rw))]) s.heap s.heap [] := va_S.rf
  generalize hQ : MQ below _ _ s _ _ _ = Q9
  have hl : lv_has ls 3 [(0, .ref m0), (1, .int ev), (2, .int wh)] := hl
  have hgr := gr_le w hw8
  have hen := ents_le w hw8
  refine lv_aload_n hx hb dX4_entry_0 rfl (lv_at hl 0 rfl) ?_
  refine lv_iload_n hx hb dX4_entry_1 rfl (lv_at hl 1 rfl) ?_
  refine kRi (va_runV (As := [.int ev]) (rest := []) ⟨hx, hb, hml, hown, hts⟩ (c_X4_isEntry l g m0 m1 m2 m3 m4 m5 ma np ln th at_ hs rw w ev (by first | assumption | omega | exact Nat.le_of_ble_eq_true rfl) (by first | assumption | omega | exact Nat.le_of_ble_eq_true rfl)) (cwV 1 hts gX4_entry_X4_isEntry rfl rfl rfl (by decide +kernel) ⟨(Nat.le_of_ble_eq_true rfl), (Nat.le_of_ble_eq_true rfl)⟩) (preV (RX4, TX4, 11) hE hP [0, 1] rfl rfl) rfl rfl hl.1 rfl (lv_room (Nat.le_of_ble_eq_true rfl)) dX4_entry_2 ⟨(Nat.le_of_ble_eq_true rfl), (Nat.le_of_ble_eq_true rfl)⟩) hP hS (fun r9 H locs hr9 hP hS => ?_)
  subst hr9
  refine lv_if_ne (tgt := 14) hx hb dX4_entry_5 (by decide) (fun c5 => ?_) (fun c5 => ?_)
  · have b5 : okE w ev := bz_t c5
    obtain ⟨ke, hke, rfl⟩ := en_of hw8 b5
    refine lv_iload_n hx hb dX4_entry_14 rfl (lv_at hl 2 rfl) ?_
    by_cases q15_0 : wh = 0
    · refine lv_tope (y := 0) q15_0 ?_
      refine lv_tableIn (tgt := 48) (off := 33) hx hb dX4_entry_15 (by decide) (by decide) rfl (by decide) ?_
      refine lv_aload_n hx hb dX4_entry_48 rfl (lv_at hl 0 rfl) ?_
      refine lv_aload_n hx hb dX4_entry_49 rfl (lv_at hl 0 rfl) ?_
      refine va_get (D := g.1) (ci := 4) (v := .ref m1) (C := RX4) (T := TX4) (N := 11) hx hb hts in_X4_entry_X4 hown hK hP 0 rfl rfl 0 (by decide) (hts _ (List.mem_of_getElem? (i := 1) rfl)) (fun _ h9 => h9) rfl dX4_entry_50 ?_
      refine lv_bipush (v := 12) hx hb dX4_entry_53 (by decide) ?_
      refine lv_iload_n hx hb dX4_entry_55 rfl (lv_at hl 1 rfl) ?_
      refine lv_iadd hx hb dX4_entry_56 ?_
      refine lv_tope (y := (nI (12 + ke))) (show (12 + (nI ke) : Int32) = nI (12 + ke) from nI_add (12) (ke)) ?_
      refine gIald (k := (12 + ke)) hx hb hE hP 1 rfl (by omega) (by omega) dX4_entry_57 ?_
      refine kUi (fun _ => [(m0, .inr (4, [.ref m1, .long ma, .ref m2, .ref m3, .int (nI np), .ref m4, .int (nI ln), .int 0, .ref m5, .int (nI at_), .long hs])), (m1, .inl (g.2.1 0, 523, .inl rw))]) (va_runV (As := [.int (rw (12 + ke))]) (rest := []) ⟨hx, hb, hml, hown, hts⟩ (c_X4_tells l g m0 m1 m2 m3 m4 m5 ma np ln th at_ hs (rw (12 + ke))) (cwV 1 hts gX4_entry_X4_tells rfl rfl rfl (by decide +kernel) ⟨(Nat.le_of_ble_eq_true rfl), (Nat.le_of_ble_eq_true rfl)⟩) (preVd (RX4, TX4, 11) hE hP hD [0] (by decide) rfl rfl) rfl rfl hl.1 rfl (lv_room (Nat.le_of_ble_eq_true rfl)) dX4_entry_58 ⟨(Nat.le_of_ble_eq_true rfl), (Nat.le_of_ble_eq_true rfl)⟩) hP hD hS [0] [1] 2 [m0, m1] [(m1, .inl (g.2.1 0, 523, .inl rw))] rfl rfl rfl (fun _ => rfl) (fun _ => rfl) (fun _ => rfl) rfl (by decide) (fun r9 _ H locs hr9 hP hD hS => ?_)
      subst hr9
      subst hQ
      have hP9 : va_P g.1 vwCl [(m0, .inr (4, [.ref m1, .long ma, .ref m2, .ref m3, .int (nI np), .ref m4, .int (nI ln), .int 0, .ref m5, .int (nI at_), .long hs])), (m1, .inl (g.2.1 0, 523, .inl rw))] H := hP
      exact W.iret (v := (rw (12 + ke))) hx hb hr (fun t ht hW => ⟨⟨(rw (12 + ke)), none, rfl, Or.inl ⟨rfl, ⟨b5, by rw [q15_0]; decide⟩, by rw [tn_nI (n := ke) (by omega), q15_0]; rfl⟩, by show va_P g.1 vwCl _ t.heap; rw [ht]; exact hP9⟩, hS.F ht⟩) hS.2.2 dX4_entry_61
    · skip
      by_cases q15_1 : wh = 1
      · refine lv_tope (y := 1) q15_1 ?_
        refine lv_tableIn (tgt := 62) (off := 47) hx hb dX4_entry_15 (by decide) (by decide) rfl (by decide) ?_
        refine lv_aload_n hx hb dX4_entry_62 rfl (lv_at hl 0 rfl) ?_
        refine lv_iload_n hx hb dX4_entry_63 rfl (lv_at hl 1 rfl) ?_
        refine kRi (va_runS (As := [.int (nI ke)]) (rest := [.ref m0]) ⟨hx, hb, hml, hown, hts⟩ (c_X4_truth l g ke (by first | assumption | omega | exact Nat.le_of_ble_eq_true rfl)) (va_cwS 1 hts gX4_entry_X4_truth rfl rfl rfl (by decide +kernel) ⟨(Nat.le_of_ble_eq_true rfl), (Nat.le_of_ble_eq_true rfl)⟩) (preS hE hP [] rfl) rfl rfl hl.1 rfl (lv_room (Nat.le_of_ble_eq_true rfl)) dX4_entry_64 ⟨(Nat.le_of_ble_eq_true rfl), (Nat.le_of_ble_eq_true rfl)⟩) hP hS (fun r9 H locs hr9 hP hS => ?_)
        subst hr9
        refine kUi (fun _ => [(m0, .inr (4, [.ref m1, .long ma, .ref m2, .ref m3, .int (nI np), .ref m4, .int (nI ln), .int 0, .ref m5, .int (nI at_), .long hs])), (m1, .inl (g.2.1 0, 523, .inl rw))]) (va_runV (As := [.int (tv ke)]) (rest := []) ⟨hx, hb, hml, hown, hts⟩ (c_X4_tells l g m0 m1 m2 m3 m4 m5 ma np ln th at_ hs (tv ke)) (cwV 1 hts gX4_entry_X4_tells rfl rfl rfl (by decide +kernel) ⟨(Nat.le_of_ble_eq_true rfl), (Nat.le_of_ble_eq_true rfl)⟩) (preVd (RX4, TX4, 11) hE hP hD [0] (by decide) rfl rfl) rfl rfl hl.1 rfl (lv_room (Nat.le_of_ble_eq_true rfl)) dX4_entry_67 ⟨(Nat.le_of_ble_eq_true rfl), (Nat.le_of_ble_eq_true rfl)⟩) hP hD hS [0] [1] 2 [m0, m1] [(m1, .inl (g.2.1 0, 523, .inl rw))] rfl rfl rfl (fun _ => rfl) (fun _ => rfl) (fun _ => rfl) rfl (by decide) (fun r9 _ H locs hr9 hP hD hS => ?_)
        subst hr9
        subst hQ
        have hP9 : va_P g.1 vwCl [(m0, .inr (4, [.ref m1, .long ma, .ref m2, .ref m3, .int (nI np), .ref m4, .int (nI ln), .int 0, .ref m5, .int (nI at_), .long hs])), (m1, .inl (g.2.1 0, 523, .inl rw))] H := hP
        exact W.iret (v := (tv ke)) hx hb hr (fun t ht hW => ⟨⟨(tv ke), none, rfl, Or.inl ⟨rfl, ⟨b5, by rw [q15_1]; decide⟩, by rw [tn_nI (n := ke) (by omega), q15_1]; rfl⟩, by show va_P g.1 vwCl _ t.heap; rw [ht]; exact hP9⟩, hS.F ht⟩) hS.2.2 dX4_entry_70
      · skip
        by_cases q15_2 : wh = 2
        · refine lv_tope (y := 2) q15_2 ?_
          refine lv_tableIn (tgt := 71) (off := 56) hx hb dX4_entry_15 (by decide) (by decide) rfl (by decide) ?_
          refine lv_aload_n hx hb dX4_entry_71 rfl (lv_at hl 0 rfl) ?_
          refine lv_iload_n hx hb dX4_entry_72 rfl (lv_at hl 1 rfl) ?_
          refine kRi (va_runS (As := [.int (nI ke)]) (rest := [.ref m0]) ⟨hx, hb, hml, hown, hts⟩ (c_X4_truth l g ke (by first | assumption | omega | exact Nat.le_of_ble_eq_true rfl)) (va_cwS 1 hts gX4_entry_X4_truth rfl rfl rfl (by decide +kernel) ⟨(Nat.le_of_ble_eq_true rfl), (Nat.le_of_ble_eq_true rfl)⟩) (preS hE hP [] rfl) rfl rfl hl.1 rfl (lv_room (Nat.le_of_ble_eq_true rfl)) dX4_entry_73 ⟨(Nat.le_of_ble_eq_true rfl), (Nat.le_of_ble_eq_true rfl)⟩) hP hS (fun r9 H locs hr9 hP hS => ?_)
          subst hr9
          refine kRi (va_runS (As := [.int (tv ke)]) (rest := [.ref m0]) ⟨hx, hb, hml, hown, hts⟩ (c_X4_ones l g (tv ke)) (va_cwS 1 hts gX4_entry_X4_ones rfl rfl rfl (by decide +kernel) ⟨(Nat.le_of_ble_eq_true rfl), (Nat.le_of_ble_eq_true rfl)⟩) (preS hE hP [] rfl) rfl rfl hl.1 rfl (lv_room (Nat.le_of_ble_eq_true rfl)) dX4_entry_76 ⟨(Nat.le_of_ble_eq_true rfl), (Nat.le_of_ble_eq_true rfl)⟩) hP hS (fun r9 H locs hr9 hP hS => ?_)
          subst hr9
          refine lv_iconst (v := 2) hx hb dX4_entry_79 (by decide) ?_
          refine lv_irem hx hb dX4_entry_80 (by decide) ?_
          refine kUi (fun _ => [(m0, .inr (4, [.ref m1, .long ma, .ref m2, .ref m3, .int (nI np), .ref m4, .int (nI ln), .int 0, .ref m5, .int (nI at_), .long hs])), (m1, .inl (g.2.1 0, 523, .inl rw))]) (va_runV (As := [.int ((onF (tv ke)) - (onF (tv ke)) / 2 * 2)]) (rest := []) ⟨hx, hb, hml, hown, hts⟩ (c_X4_tells l g m0 m1 m2 m3 m4 m5 ma np ln th at_ hs ((onF (tv ke)) - (onF (tv ke)) / 2 * 2)) (cwV 1 hts gX4_entry_X4_tells rfl rfl rfl (by decide +kernel) ⟨(Nat.le_of_ble_eq_true rfl), (Nat.le_of_ble_eq_true rfl)⟩) (preVd (RX4, TX4, 11) hE hP hD [0] (by decide) rfl rfl) rfl rfl hl.1 rfl (lv_room (Nat.le_of_ble_eq_true rfl)) dX4_entry_81 ⟨(Nat.le_of_ble_eq_true rfl), (Nat.le_of_ble_eq_true rfl)⟩) hP hD hS [0] [1] 2 [m0, m1] [(m1, .inl (g.2.1 0, 523, .inl rw))] rfl rfl rfl (fun _ => rfl) (fun _ => rfl) (fun _ => rfl) rfl (by decide) (fun r9 _ H locs hr9 hP hD hS => ?_)
          subst hr9
          subst hQ
          have hP9 : va_P g.1 vwCl [(m0, .inr (4, [.ref m1, .long ma, .ref m2, .ref m3, .int (nI np), .ref m4, .int (nI ln), .int 0, .ref m5, .int (nI at_), .long hs])), (m1, .inl (g.2.1 0, 523, .inl rw))] H := hP
          exact W.iret (v := ((onF (tv ke)) - (onF (tv ke)) / 2 * 2)) hx hb hr (fun t ht hW => ⟨⟨((onF (tv ke)) - (onF (tv ke)) / 2 * 2), none, rfl, Or.inl ⟨rfl, ⟨b5, by rw [q15_2]; decide⟩, by rw [tn_nI (n := ke) (by omega), q15_2]; rfl⟩, by show va_P g.1 vwCl _ t.heap; rw [ht]; exact hP9⟩, hS.F ht⟩) hS.2.2 dX4_entry_84
        · skip
          by_cases q15_3 : wh = 3
          · refine lv_tope (y := 3) q15_3 ?_
            refine lv_tableIn (tgt := 85) (off := 70) hx hb dX4_entry_15 (by decide) (by decide) rfl (by decide) ?_
            refine lv_aload_n hx hb dX4_entry_85 rfl (lv_at hl 0 rfl) ?_
            refine lv_aload_n hx hb dX4_entry_86 rfl (lv_at hl 0 rfl) ?_
            refine lv_iload_n hx hb dX4_entry_87 rfl (lv_at hl 1 rfl) ?_
            refine kRi (va_runV (As := [.int (nI ke)]) (rest := [.ref m0]) ⟨hx, hb, hml, hown, hts⟩ (c_X4_isFound l g m0 m1 m2 m3 m4 m5 ma np ln th at_ hs rw w ke (by first | assumption | omega | exact Nat.le_of_ble_eq_true rfl)) (cwV 1 hts gX4_entry_X4_isFound rfl rfl rfl (by decide +kernel) ⟨(Nat.le_of_ble_eq_true rfl), (Nat.le_of_ble_eq_true rfl)⟩) (preV (RX4, TX4, 11) hE hP [0, 1] rfl rfl) rfl rfl hl.1 rfl (lv_room (Nat.le_of_ble_eq_true rfl)) dX4_entry_88 ⟨(Nat.le_of_ble_eq_true rfl), (Nat.le_of_ble_eq_true rfl)⟩) hP hS (fun r9 H locs hr9 hP hS => ?_)
            subst hr9
            refine lv_if_eq (tgt := 98) hx hb dX4_entry_91 (by decide) (fun c91 => ?_) (fun c91 => ?_)
            · have b91 : ¬ (fdP (mwF rw ke)) := bz_f c91
              refine lv_iconst (v := 1) hx hb dX4_entry_98 (by decide) ?_
              refine kUi (fun _ => [(m0, .inr (4, [.ref m1, .long ma, .ref m2, .ref m3, .int (nI np), .ref m4, .int (nI ln), .int 0, .ref m5, .int (nI at_), .long hs])), (m1, .inl (g.2.1 0, 523, .inl rw))]) (va_runV (As := [.int 1]) (rest := []) ⟨hx, hb, hml, hown, hts⟩ (c_X4_tells l g m0 m1 m2 m3 m4 m5 ma np ln th at_ hs 1) (cwV 1 hts gX4_entry_X4_tells rfl rfl rfl (by decide +kernel) ⟨(Nat.le_of_ble_eq_true rfl), (Nat.le_of_ble_eq_true rfl)⟩) (preVd (RX4, TX4, 11) hE hP hD [0] (by decide) rfl rfl) rfl rfl hl.1 rfl (lv_room (Nat.le_of_ble_eq_true rfl)) dX4_entry_99 ⟨(Nat.le_of_ble_eq_true rfl), (Nat.le_of_ble_eq_true rfl)⟩) hP hD hS [0] [1] 2 [m0, m1] [(m1, .inl (g.2.1 0, 523, .inl rw))] rfl rfl rfl (fun _ => rfl) (fun _ => rfl) (fun _ => rfl) rfl (by decide) (fun r9 _ H locs hr9 hP hD hS => ?_)
              subst hr9
              subst hQ
              have hP9 : va_P g.1 vwCl [(m0, .inr (4, [.ref m1, .long ma, .ref m2, .ref m3, .int (nI np), .ref m4, .int (nI ln), .int 0, .ref m5, .int (nI at_), .long hs])), (m1, .inl (g.2.1 0, 523, .inl rw))] H := hP
              exact W.iret (v := 1) hx hb hr (fun t ht hW => ⟨⟨1, none, rfl, Or.inl ⟨rfl, ⟨b5, by rw [q15_3]; decide⟩, by rw [tn_nI (n := ke) (by omega), q15_3]; first | exact (if_pos b91).symm | exact (if_neg b91).symm⟩, by show va_P g.1 vwCl _ t.heap; rw [ht]; exact hP9⟩, hS.F ht⟩) hS.2.2 dX4_entry_102
            · have b91 : fdP (mwF rw ke) := bz_t c91
              refine lv_iconst (v := 0) hx hb dX4_entry_94 (by decide) ?_
              refine lv_goto (tgt := 99) hx hb dX4_entry_95 (by decide) ?_
              refine kUi (fun _ => [(m0, .inr (4, [.ref m1, .long ma, .ref m2, .ref m3, .int (nI np), .ref m4, .int (nI ln), .int 0, .ref m5, .int (nI at_), .long hs])), (m1, .inl (g.2.1 0, 523, .inl rw))]) (va_runV (As := [.int 0]) (rest := []) ⟨hx, hb, hml, hown, hts⟩ (c_X4_tells l g m0 m1 m2 m3 m4 m5 ma np ln th at_ hs 0) (cwV 1 hts gX4_entry_X4_tells rfl rfl rfl (by decide +kernel) ⟨(Nat.le_of_ble_eq_true rfl), (Nat.le_of_ble_eq_true rfl)⟩) (preVd (RX4, TX4, 11) hE hP hD [0] (by decide) rfl rfl) rfl rfl hl.1 rfl (lv_room (Nat.le_of_ble_eq_true rfl)) dX4_entry_99 ⟨(Nat.le_of_ble_eq_true rfl), (Nat.le_of_ble_eq_true rfl)⟩) hP hD hS [0] [1] 2 [m0, m1] [(m1, .inl (g.2.1 0, 523, .inl rw))] rfl rfl rfl (fun _ => rfl) (fun _ => rfl) (fun _ => rfl) rfl (by decide) (fun r9 _ H locs hr9 hP hD hS => ?_)
              subst hr9
              subst hQ
              have hP9 : va_P g.1 vwCl [(m0, .inr (4, [.ref m1, .long ma, .ref m2, .ref m3, .int (nI np), .ref m4, .int (nI ln), .int 0, .ref m5, .int (nI at_), .long hs])), (m1, .inl (g.2.1 0, 523, .inl rw))] H := hP
              exact W.iret (v := 0) hx hb hr (fun t ht hW => ⟨⟨0, none, rfl, Or.inl ⟨rfl, ⟨b5, by rw [q15_3]; decide⟩, by rw [tn_nI (n := ke) (by omega), q15_3]; first | exact (if_pos b91).symm | exact (if_neg b91).symm⟩, by show va_P g.1 vwCl _ t.heap; rw [ht]; exact hP9⟩, hS.F ht⟩) hS.2.2 dX4_entry_102
          · skip
            by_cases q15_4 : wh = 4
            · refine lv_tope (y := 4) q15_4 ?_
              refine lv_tableIn (tgt := 103) (off := 88) hx hb dX4_entry_15 (by decide) (by decide) rfl (by decide) ?_
              refine lv_aload_n hx hb dX4_entry_103 rfl (lv_at hl 0 rfl) ?_
              refine lv_aload_n hx hb dX4_entry_104 rfl (lv_at hl 0 rfl) ?_
              refine lv_iload_n hx hb dX4_entry_105 rfl (lv_at hl 1 rfl) ?_
              refine kRi (va_runV (As := [.int (nI ke)]) (rest := [.ref m0]) ⟨hx, hb, hml, hown, hts⟩ (c_X4_wrongBits l g m0 m1 m2 m3 m4 m5 ma np ln th at_ hs rw w ke (by first | assumption | omega | exact Nat.le_of_ble_eq_true rfl)) (cwV 1 hts gX4_entry_X4_wrongBits rfl rfl rfl (by decide +kernel) ⟨(Nat.le_of_ble_eq_true rfl), (Nat.le_of_ble_eq_true rfl)⟩) (preV (RX4, TX4, 11) hE hP [0, 1] rfl rfl) rfl rfl hl.1 rfl (lv_room (Nat.le_of_ble_eq_true rfl)) dX4_entry_106 ⟨(Nat.le_of_ble_eq_true rfl), (Nat.le_of_ble_eq_true rfl)⟩) hP hS (fun r9 H locs hr9 hP hS => ?_)
              subst hr9
              refine kUi (fun _ => [(m0, .inr (4, [.ref m1, .long ma, .ref m2, .ref m3, .int (nI np), .ref m4, .int (nI ln), .int 0, .ref m5, .int (nI at_), .long hs])), (m1, .inl (g.2.1 0, 523, .inl rw))]) (va_runV (As := [.int (mwF rw ke)]) (rest := []) ⟨hx, hb, hml, hown, hts⟩ (c_X4_tells l g m0 m1 m2 m3 m4 m5 ma np ln th at_ hs (mwF rw ke)) (cwV 1 hts gX4_entry_X4_tells rfl rfl rfl (by decide +kernel) ⟨(Nat.le_of_ble_eq_true rfl), (Nat.le_of_ble_eq_true rfl)⟩) (preVd (RX4, TX4, 11) hE hP hD [0] (by decide) rfl rfl) rfl rfl hl.1 rfl (lv_room (Nat.le_of_ble_eq_true rfl)) dX4_entry_109 ⟨(Nat.le_of_ble_eq_true rfl), (Nat.le_of_ble_eq_true rfl)⟩) hP hD hS [0] [1] 2 [m0, m1] [(m1, .inl (g.2.1 0, 523, .inl rw))] rfl rfl rfl (fun _ => rfl) (fun _ => rfl) (fun _ => rfl) rfl (by decide) (fun r9 _ H locs hr9 hP hD hS => ?_)
              subst hr9
              subst hQ
              have hP9 : va_P g.1 vwCl [(m0, .inr (4, [.ref m1, .long ma, .ref m2, .ref m3, .int (nI np), .ref m4, .int (nI ln), .int 0, .ref m5, .int (nI at_), .long hs])), (m1, .inl (g.2.1 0, 523, .inl rw))] H := hP
              exact W.iret (v := (mwF rw ke)) hx hb hr (fun t ht hW => ⟨⟨(mwF rw ke), none, rfl, Or.inl ⟨rfl, ⟨b5, by rw [q15_4]; decide⟩, by rw [tn_nI (n := ke) (by omega), q15_4]; rfl⟩, by show va_P g.1 vwCl _ t.heap; rw [ht]; exact hP9⟩, hS.F ht⟩) hS.2.2 dX4_entry_112
            · skip
              refine lv_tableOut (tgt := 113) hx hb dX4_entry_15 (t5_out q15_0 q15_1 q15_2 q15_3 q15_4) (by decide) ?_
              refine lv_aload_n hx hb dX4_entry_113 rfl (lv_at hl 0 rfl) ?_
              refine lv_iconst (v := 2) hx hb dX4_entry_114 (by decide) ?_
              refine kUi (fun _ => [(m0, .inr (4, [.ref m1, .long ma, .ref m2, .ref m3, .int (nI np), .ref m4, .int (nI ln), .int 2, .ref m5, .int (nI at_), .long hs])), (m1, .inl (g.2.1 0, 523, .inl rw))]) (va_runV (As := [.int 2]) (rest := []) ⟨hx, hb, hml, hown, hts⟩ (c_X4_fails l g m0 m1 m2 m3 m4 m5 ma np ln th at_ hs 2) (cwV 1 hts gX4_entry_X4_fails rfl rfl rfl (by decide +kernel) ⟨(Nat.le_of_ble_eq_true rfl), (Nat.le_of_ble_eq_true rfl)⟩) (preVd (RX4, TX4, 11) hE hP hD [0] (by decide) rfl rfl) rfl rfl hl.1 rfl (lv_room (Nat.le_of_ble_eq_true rfl)) dX4_entry_115 ⟨(Nat.le_of_ble_eq_true rfl), (Nat.le_of_ble_eq_true rfl)⟩) hP hD hS [0] [1] 2 [m0, m1] [(m1, .inl (g.2.1 0, 523, .inl rw))] rfl rfl rfl (fun _ => rfl) (fun _ => rfl) (fun _ => rfl) rfl (by decide) (fun r9 _ H locs hr9 hP hD hS => ?_)
              subst hr9
              subst hQ
              have hP9 : va_P g.1 vwCl [(m0, .inr (4, [.ref m1, .long ma, .ref m2, .ref m3, .int (nI np), .ref m4, .int (nI ln), .int 2, .ref m5, .int (nI at_), .long hs])), (m1, .inl (g.2.1 0, 523, .inl rw))] H := hP
              exact W.iret (v := 0) hx hb hr (fun t ht hW => ⟨⟨0, (some 2), rfl, Or.inr (Or.inr ⟨rfl, b5, t5_no q15_0 q15_1 q15_2 q15_3 q15_4⟩), by show va_P g.1 vwCl _ t.heap; rw [ht]; exact hP9⟩, hS.F ht⟩) hS.2.2 dX4_entry_118
  · have b5 : ¬ (okE w ev) := bz_f c5
    refine lv_aload_n hx hb dX4_entry_8 rfl (lv_at hl 0 rfl) ?_
    refine lv_iconst (v := 1) hx hb dX4_entry_9 (by decide) ?_
    refine kUi (fun _ => [(m0, .inr (4, [.ref m1, .long ma, .ref m2, .ref m3, .int (nI np), .ref m4, .int (nI ln), .int 1, .ref m5, .int (nI at_), .long hs])), (m1, .inl (g.2.1 0, 523, .inl rw))]) (va_runV (As := [.int 1]) (rest := []) ⟨hx, hb, hml, hown, hts⟩ (c_X4_fails l g m0 m1 m2 m3 m4 m5 ma np ln th at_ hs 1) (cwV 1 hts gX4_entry_X4_fails rfl rfl rfl (by decide +kernel) ⟨(Nat.le_of_ble_eq_true rfl), (Nat.le_of_ble_eq_true rfl)⟩) (preVd (RX4, TX4, 11) hE hP hD [0] (by decide) rfl rfl) rfl rfl hl.1 rfl (lv_room (Nat.le_of_ble_eq_true rfl)) dX4_entry_10 ⟨(Nat.le_of_ble_eq_true rfl), (Nat.le_of_ble_eq_true rfl)⟩) hP hD hS [0] [1] 2 [m0, m1] [(m1, .inl (g.2.1 0, 523, .inl rw))] rfl rfl rfl (fun _ => rfl) (fun _ => rfl) (fun _ => rfl) rfl (by decide) (fun r9 _ H locs hr9 hP hD hS => ?_)
    subst hr9
    subst hQ
    have hP9 : va_P g.1 vwCl [(m0, .inr (4, [.ref m1, .long ma, .ref m2, .ref m3, .int (nI np), .ref m4, .int (nI ln), .int 1, .ref m5, .int (nI at_), .long hs])), (m1, .inl (g.2.1 0, 523, .inl rw))] H := hP
    exact W.iret (v := 0) hx hb hr (fun t ht hW => ⟨⟨0, (some 1), rfl, Or.inr (Or.inl ⟨rfl, b5⟩), by show va_P g.1 vwCl _ t.heap; rw [ht]; exact hP9⟩, hS.F ht⟩) hS.2.2 dX4_entry_13
theorem in_X4_register_X4 : ∀ w ∈ wsX40, w ∈ wsX4_register := by decide +kernel
abbrev rm_X4_register : Room := { frames := 2, cells := 0, slots := 0, locals := 42 }
set_option maxRecDepth 100000 in
set_option maxHeartbeats 4000000 in
theorem c_X4_register (l : Launch) (g : GT) (m0 : Nat) (m1 : Nat) (m2 : Nat) (m3 : Nat) (m4 : Nat) (m5 : Nat) (ma : Int64) (np : Nat) (ln : Nat) (th : Int32) (at_ : Nat) (hs : Int64) (rw : Nat → Int32) (w : Nat) (rg_ : Int32) : cUi l g yX4_register wsX4_register rm_X4_register [.ref m0, .int rg_] [(m0, .inr (4, [.ref m1, .long ma, .ref m2, .ref m3, .int (nI np), .ref m4, .int (nI ln), .int th, .ref m5, .int (nI at_), .long hs])), (m1, .inl (g.2.1 0, 523, .inl rw))] (fun r (ub : Option Int32) => (ub = none ∧ (okG rg_) ∧ r = rw (4 + tn rg_)) ∨ (ub = some 1 ∧ ¬ okG rg_)) (fun ub => Option.elim ub [(m0, .inr (4, [.ref m1, .long ma, .ref m2, .ref m3, .int (nI np), .ref m4, .int (nI ln), .int 0, .ref m5, .int (nI at_), .long hs])), (m1, .inl (g.2.1 0, 523, .inl rw))] (fun tq => [(m0, .inr (4, [.ref m1, .long ma, .ref m2, .ref m3, .int (nI np), .ref m4, .int (nI ln), .int tq, .ref m5, .int (nI at_), .long hs])), (m1, .inl (g.2.1 0, 523, .inl rw))])) := by
  refine enU (y := yX4_register) (ws := wsX4_register) (av := [.ref m0, .int rg_]) (cc := cX4_register) (maxL := 2) (ret := (some .int)) (by decide) rfl (Nat.le_of_ble_eq_true rfl) rfl ?_
  intro p e s m below meth c ls hx hb hr hml hown hts hlocks hE hP hD hl
  have hK := hE.1
  have hS : va_S (va_Ad [(m0, .inr (4, [.ref m1, .long ma, .ref m2, .ref m3, .int (nI np), .ref m4, .int (nI ln), .int th, .ref m5, .int (nI at_), .long hs])), (m1, .inl (g.2.1 0, 523, .inl rw))]) s.heap s.heap [] := va_S.rf
  generalize hQ : MQ below _ _ s _ _ _ = Q9
  have hl : lv_has ls 2 [(0, .ref m0), (1, .int rg_)] := hl
  refine lv_iload_n hx hb dX4_register_0 rfl (lv_at hl 1 rfl) ?_
  refine kRi (va_runS (As := [.int rg_]) (rest := []) ⟨hx, hb, hml, hown, hts⟩ (c_X4_isRegister l g rg_) (va_cwS 1 hts gX4_register_X4_isRegister rfl rfl rfl (by decide +kernel) ⟨(Nat.le_of_ble_eq_true rfl), (Nat.le_of_ble_eq_true rfl)⟩) (preS hE hP [] rfl) rfl rfl hl.1 rfl (lv_room (Nat.le_of_ble_eq_true rfl)) dX4_register_1 ⟨(Nat.le_of_ble_eq_true rfl), (Nat.le_of_ble_eq_true rfl)⟩) hP hS (fun r9 H locs hr9 hP hS => ?_)
  subst hr9
  refine lv_if_eq (tgt := 22) hx hb dX4_register_4 (by decide) (fun c4 => ?_) (fun c4 => ?_)
  · have b4 : ¬ (okG rg_) := bz_f c4
    refine lv_aload_n hx hb dX4_register_22 rfl (lv_at hl 0 rfl) ?_
    refine lv_iconst (v := 1) hx hb dX4_register_23 (by decide) ?_
    refine kUi (fun _ => [(m0, .inr (4, [.ref m1, .long ma, .ref m2, .ref m3, .int (nI np), .ref m4, .int (nI ln), .int 1, .ref m5, .int (nI at_), .long hs])), (m1, .inl (g.2.1 0, 523, .inl rw))]) (va_runV (As := [.int 1]) (rest := []) ⟨hx, hb, hml, hown, hts⟩ (c_X4_fails l g m0 m1 m2 m3 m4 m5 ma np ln th at_ hs 1) (cwV 1 hts gX4_register_X4_fails rfl rfl rfl (by decide +kernel) ⟨(Nat.le_of_ble_eq_true rfl), (Nat.le_of_ble_eq_true rfl)⟩) (preVd (RX4, TX4, 11) hE hP hD [0] (by decide) rfl rfl) rfl rfl hl.1 rfl (lv_room (Nat.le_of_ble_eq_true rfl)) dX4_register_24 ⟨(Nat.le_of_ble_eq_true rfl), (Nat.le_of_ble_eq_true rfl)⟩) hP hD hS [0] [1] 2 [m0, m1] [(m1, .inl (g.2.1 0, 523, .inl rw))] rfl rfl rfl (fun _ => rfl) (fun _ => rfl) (fun _ => rfl) rfl (by decide) (fun r9 _ H locs hr9 hP hD hS => ?_)
    subst hr9
    subst hQ
    have hP9 : va_P g.1 vwCl [(m0, .inr (4, [.ref m1, .long ma, .ref m2, .ref m3, .int (nI np), .ref m4, .int (nI ln), .int 1, .ref m5, .int (nI at_), .long hs])), (m1, .inl (g.2.1 0, 523, .inl rw))] H := hP
    exact W.iret (v := 0) hx hb hr (fun t ht hW => ⟨⟨0, (some 1), rfl, Or.inr ⟨rfl, b4⟩, by show va_P g.1 vwCl _ t.heap; rw [ht]; exact hP9⟩, hS.F ht⟩) hS.2.2 dX4_register_27
  · have b4 : okG rg_ := bz_t c4
    obtain ⟨kr, hkr, rfl⟩ := rg_of b4
    refine lv_aload_n hx hb dX4_register_7 rfl (lv_at hl 0 rfl) ?_
    refine lv_aload_n hx hb dX4_register_8 rfl (lv_at hl 0 rfl) ?_
    refine va_get (D := g.1) (ci := 4) (v := .ref m1) (C := RX4) (T := TX4) (N := 11) hx hb hts in_X4_register_X4 hown hK hP 0 rfl rfl 0 (by decide) (hts _ (List.mem_of_getElem? (i := 1) rfl)) (fun _ h9 => h9) rfl dX4_register_9 ?_
    refine lv_iconst (v := 4) hx hb dX4_register_12 (by decide) ?_
    refine lv_iload_n hx hb dX4_register_13 rfl (lv_at hl 1 rfl) ?_
    refine lv_iadd hx hb dX4_register_14 ?_
    refine lv_tope (y := (nI (4 + kr))) (show (4 + (nI kr) : Int32) = nI (4 + kr) from nI_add (4) (kr)) ?_
    refine gIald (k := (4 + kr)) hx hb hE hP 1 rfl (by omega) (by omega) dX4_register_15 ?_
    refine kUi (fun _ => [(m0, .inr (4, [.ref m1, .long ma, .ref m2, .ref m3, .int (nI np), .ref m4, .int (nI ln), .int 0, .ref m5, .int (nI at_), .long hs])), (m1, .inl (g.2.1 0, 523, .inl rw))]) (va_runV (As := [.int (rw (4 + kr))]) (rest := []) ⟨hx, hb, hml, hown, hts⟩ (c_X4_tells l g m0 m1 m2 m3 m4 m5 ma np ln th at_ hs (rw (4 + kr))) (cwV 1 hts gX4_register_X4_tells rfl rfl rfl (by decide +kernel) ⟨(Nat.le_of_ble_eq_true rfl), (Nat.le_of_ble_eq_true rfl)⟩) (preVd (RX4, TX4, 11) hE hP hD [0] (by decide) rfl rfl) rfl rfl hl.1 rfl (lv_room (Nat.le_of_ble_eq_true rfl)) dX4_register_16 ⟨(Nat.le_of_ble_eq_true rfl), (Nat.le_of_ble_eq_true rfl)⟩) hP hD hS [0] [1] 2 [m0, m1] [(m1, .inl (g.2.1 0, 523, .inl rw))] rfl rfl rfl (fun _ => rfl) (fun _ => rfl) (fun _ => rfl) rfl (by decide) (fun r9 _ H locs hr9 hP hD hS => ?_)
    subst hr9
    refine lv_goto (tgt := 27) hx hb dX4_register_19 (by decide) ?_
    subst hQ
    have hP9 : va_P g.1 vwCl [(m0, .inr (4, [.ref m1, .long ma, .ref m2, .ref m3, .int (nI np), .ref m4, .int (nI ln), .int 0, .ref m5, .int (nI at_), .long hs])), (m1, .inl (g.2.1 0, 523, .inl rw))] H := hP
    exact W.iret (v := (rw (4 + kr))) hx hb hr (fun t ht hW => ⟨⟨(rw (4 + kr)), none, rfl, Or.inl ⟨rfl, b4, by rw [tn_nI (n := kr) (by omega)]⟩, by show va_P g.1 vwCl _ t.heap; rw [ht]; exact hP9⟩, hS.F ht⟩) hS.2.2 dX4_register_27
abbrev rm_X4_value : Room := { frames := 5, cells := 0, slots := 0, locals := 107 }
set_option maxRecDepth 100000 in
set_option maxHeartbeats 4000000 in
theorem c_X4_value (l : Launch) (g : GT) (m0 : Nat) (m1 : Nat) (m2 : Nat) (m3 : Nat) (m4 : Nat) (m5 : Nat) (ma : Int64) (np : Nat) (ln : Nat) (th : Int32) (at_ : Nat) (hs : Int64) (rw : Nat → Int32) (w : Nat) (wh : Int32) (hw8 : w ≤ 8) (hrw : rw 0 = nI w) : cUi l g yX4_value wsX4_value rm_X4_value [.ref m0, .int wh] [(m0, .inr (4, [.ref m1, .long ma, .ref m2, .ref m3, .int (nI np), .ref m4, .int (nI ln), .int th, .ref m5, .int (nI at_), .long hs])), (m1, .inl (g.2.1 0, 523, .inl rw))] (fun r (ub : Option Int32) => (ub = none ∧ (okR 0 7 wh) ∧ r = mkF rw w (tn wh)) ∨ (ub = some 1 ∧ ¬ okR 0 7 wh)) (fun ub => Option.elim ub [(m0, .inr (4, [.ref m1, .long ma, .ref m2, .ref m3, .int (nI np), .ref m4, .int (nI ln), .int 0, .ref m5, .int (nI at_), .long hs])), (m1, .inl (g.2.1 0, 523, .inl rw))] (fun tq => [(m0, .inr (4, [.ref m1, .long ma, .ref m2, .ref m3, .int (nI np), .ref m4, .int (nI ln), .int tq, .ref m5, .int (nI at_), .long hs])), (m1, .inl (g.2.1 0, 523, .inl rw))])) := by
  refine enU (y := yX4_value) (ws := wsX4_value) (av := [.ref m0, .int wh]) (cc := cX4_value) (maxL := 2) (ret := (some .int)) (by decide) rfl (Nat.le_of_ble_eq_true rfl) rfl ?_
  intro p e s m below meth c ls hx hb hr hml hown hts hlocks hE hP hD hl
  have hK := hE.1
  have hS : va_S (va_Ad [(m0, .inr (4, [.ref m1, .long ma, .ref m2, .ref m3, .int (nI np), .ref m4, .int (nI ln), .int th, .ref m5, .int (nI at_), .long hs])), (m1, .inl (g.2.1 0, 523, .inl rw))]) s.heap s.heap [] := va_S.rf
  generalize hQ : MQ below _ _ s _ _ _ = Q9
  have hl : lv_has ls 2 [(0, .ref m0), (1, .int wh)] := hl
  refine lv_iload_n hx hb dX4_value_0 rfl (lv_at hl 1 rfl) ?_
  refine lv_iconst (v := 0) hx hb dX4_value_1 (by decide) ?_
  refine lv_bipush (v := 7) hx hb dX4_value_2 (by decide) ?_
  refine kRi (va_runS (As := [.int wh, .int 0, .int 7]) (rest := []) ⟨hx, hb, hml, hown, hts⟩ (c_X4_in l g wh 0 7) (va_cwS 3 hts gX4_value_X4_in rfl rfl rfl (by decide +kernel) ⟨(Nat.le_of_ble_eq_true rfl), (Nat.le_of_ble_eq_true rfl)⟩) (preS hE hP [] rfl) rfl rfl hl.1 rfl (lv_room (Nat.le_of_ble_eq_true rfl)) dX4_value_4 ⟨(Nat.le_of_ble_eq_true rfl), (Nat.le_of_ble_eq_true rfl)⟩) hP hS (fun r9 H locs hr9 hP hS => ?_)
  subst hr9
  refine lv_if_eq (tgt := 22) hx hb dX4_value_7 (by decide) (fun c7 => ?_) (fun c7 => ?_)
  · have b7 : ¬ (okR 0 7 wh) := bz_f c7
    refine lv_aload_n hx hb dX4_value_22 rfl (lv_at hl 0 rfl) ?_
    refine lv_iconst (v := 1) hx hb dX4_value_23 (by decide) ?_
    refine kUi (fun _ => [(m0, .inr (4, [.ref m1, .long ma, .ref m2, .ref m3, .int (nI np), .ref m4, .int (nI ln), .int 1, .ref m5, .int (nI at_), .long hs])), (m1, .inl (g.2.1 0, 523, .inl rw))]) (va_runV (As := [.int 1]) (rest := []) ⟨hx, hb, hml, hown, hts⟩ (c_X4_fails l g m0 m1 m2 m3 m4 m5 ma np ln th at_ hs 1) (cwV 1 hts gX4_value_X4_fails rfl rfl rfl (by decide +kernel) ⟨(Nat.le_of_ble_eq_true rfl), (Nat.le_of_ble_eq_true rfl)⟩) (preVd (RX4, TX4, 11) hE hP hD [0] (by decide) rfl rfl) rfl rfl hl.1 rfl (lv_room (Nat.le_of_ble_eq_true rfl)) dX4_value_24 ⟨(Nat.le_of_ble_eq_true rfl), (Nat.le_of_ble_eq_true rfl)⟩) hP hD hS [0] [1] 2 [m0, m1] [(m1, .inl (g.2.1 0, 523, .inl rw))] rfl rfl rfl (fun _ => rfl) (fun _ => rfl) (fun _ => rfl) rfl (by decide) (fun r9 _ H locs hr9 hP hD hS => ?_)
    subst hr9
    subst hQ
    have hP9 : va_P g.1 vwCl [(m0, .inr (4, [.ref m1, .long ma, .ref m2, .ref m3, .int (nI np), .ref m4, .int (nI ln), .int 1, .ref m5, .int (nI at_), .long hs])), (m1, .inl (g.2.1 0, 523, .inl rw))] H := hP
    exact W.iret (v := 0) hx hb hr (fun t ht hW => ⟨⟨0, (some 1), rfl, Or.inr ⟨rfl, b7⟩, by show va_P g.1 vwCl _ t.heap; rw [ht]; exact hP9⟩, hS.F ht⟩) hS.2.2 dX4_value_27
  · have b7 : okR 0 7 wh := bz_t c7
    obtain ⟨kw, hkw, rfl⟩ := rN_of (n := 7) (by omega) b7
    refine lv_aload_n hx hb dX4_value_10 rfl (lv_at hl 0 rfl) ?_
    refine lv_aload_n hx hb dX4_value_11 rfl (lv_at hl 0 rfl) ?_
    refine lv_iload_n hx hb dX4_value_12 rfl (lv_at hl 1 rfl) ?_
    refine kRi (va_runV (As := [.int (nI kw)]) (rest := [.ref m0]) ⟨hx, hb, hml, hown, hts⟩ (c_X4_counted l g m0 m1 m2 m3 m4 m5 ma np ln th at_ hs rw w kw (by first | assumption | omega | exact Nat.le_of_ble_eq_true rfl) (by first | assumption | omega | exact Nat.le_of_ble_eq_true rfl) (by first | assumption | omega | exact Nat.le_of_ble_eq_true rfl)) (cwV 1 hts gX4_value_X4_counted rfl rfl rfl (by decide +kernel) ⟨(Nat.le_of_ble_eq_true rfl), (Nat.le_of_ble_eq_true rfl)⟩) (preV (RX4, TX4, 11) hE hP [0, 1] rfl rfl) rfl rfl hl.1 rfl (lv_room (Nat.le_of_ble_eq_true rfl)) dX4_value_13 ⟨(Nat.le_of_ble_eq_true rfl), (Nat.le_of_ble_eq_true rfl)⟩) hP hS (fun r9 H locs hr9 hP hS => ?_)
    subst hr9
    refine kUi (fun _ => [(m0, .inr (4, [.ref m1, .long ma, .ref m2, .ref m3, .int (nI np), .ref m4, .int (nI ln), .int 0, .ref m5, .int (nI at_), .long hs])), (m1, .inl (g.2.1 0, 523, .inl rw))]) (va_runV (As := [.int (mkF rw w kw)]) (rest := []) ⟨hx, hb, hml, hown, hts⟩ (c_X4_tells l g m0 m1 m2 m3 m4 m5 ma np ln th at_ hs (mkF rw w kw)) (cwV 1 hts gX4_value_X4_tells rfl rfl rfl (by decide +kernel) ⟨(Nat.le_of_ble_eq_true rfl), (Nat.le_of_ble_eq_true rfl)⟩) (preVd (RX4, TX4, 11) hE hP hD [0] (by decide) rfl rfl) rfl rfl hl.1 rfl (lv_room (Nat.le_of_ble_eq_true rfl)) dX4_value_16 ⟨(Nat.le_of_ble_eq_true rfl), (Nat.le_of_ble_eq_true rfl)⟩) hP hD hS [0] [1] 2 [m0, m1] [(m1, .inl (g.2.1 0, 523, .inl rw))] rfl rfl rfl (fun _ => rfl) (fun _ => rfl) (fun _ => rfl) rfl (by decide) (fun r9 _ H locs hr9 hP hD hS => ?_)
    subst hr9
    refine lv_goto (tgt := 27) hx hb dX4_value_19 (by decide) ?_
    subst hQ
    have hP9 : va_P g.1 vwCl [(m0, .inr (4, [.ref m1, .long ma, .ref m2, .ref m3, .int (nI np), .ref m4, .int (nI ln), .int 0, .ref m5, .int (nI at_), .long hs])), (m1, .inl (g.2.1 0, 523, .inl rw))] H := hP
    exact W.iret (v := (mkF rw w kw)) hx hb hr (fun t ht hW => ⟨⟨(mkF rw w kw), none, rfl, Or.inl ⟨rfl, b7, by rw [tn_nI (n := kw) (by omega)]⟩, by show va_P g.1 vwCl _ t.heap; rw [ht]; exact hP9⟩, hS.F ht⟩) hS.2.2 dX4_value_27
theorem in_X4_account_X4 : ∀ w ∈ wsX40, w ∈ wsX4_account := by decide +kernel
abbrev rm_X4_account : Room := { frames := 0, cells := 0, slots := 0, locals := 0 }
set_option maxRecDepth 100000 in
set_option maxHeartbeats 4000000 in
theorem c_X4_account (l : Launch) (g : GT) (m0 : Nat) (m1 : Nat) (m2 : Nat) (m3 : Nat) (m4 : Nat) (m5 : Nat) (ma : Int64) (np : Nat) (ln : Nat) (th : Int32) (at_ : Nat) (hs : Int64) : cUl l g yX4_account wsX4_account rm_X4_account [.ref m0] [(m0, .inr (4, [.ref m1, .long ma, .ref m2, .ref m3, .int (nI np), .ref m4, .int (nI ln), .int th, .ref m5, .int (nI at_), .long hs]))] (fun r (_ : Unit) => r = ma) (fun _ => [(m0, .inr (4, [.ref m1, .long ma, .ref m2, .ref m3, .int (nI np), .ref m4, .int (nI ln), .int 0, .ref m5, .int (nI at_), .long hs]))]) := by
  refine enU (y := yX4_account) (ws := wsX4_account) (av := [.ref m0]) (cc := cX4_account) (maxL := 1) (ret := (some .long)) (by decide) rfl (Nat.le_of_ble_eq_true rfl) rfl ?_
  intro p e s m below meth c ls hx hb hr hml hown hts hlocks hE hP hD hl
  have hK := hE.1
  have hS : va_S (va_Ad [(m0, .inr (4, [.ref m1, .long ma, .ref m2, .ref m3, .int (nI np), .ref m4, .int (nI ln), .int th, .ref m5, .int (nI at_), .long hs]))]) s.heap s.heap [] := va_S.rf
  generalize hQ : MQ below _ _ s _ _ _ = Q9
  have hl : lv_has ls 1 [(0, .ref m0)] := hl
  refine lv_aload_n hx hb dX4_account_0 rfl (lv_at hl 0 rfl) ?_
  refine lv_iconst (v := 0) hx hb dX4_account_1 (by decide) ?_
  refine va_put (D := g.1) (ci := 4) (v := .int 0) (ty := .int) (C := RX4) (T := TX4) (N := 11) hx hb hts in_X4_account_X4 tyX4 tyX4_ok nmX4 hown hK hP hD hS 0 rfl rfl 7 (by decide) (hts _ (List.mem_of_getElem? (i := 1) rfl)) (fun _ h9 => h9) rfl (by decide +kernel) rfl rfl (Nat.le_of_ble_eq_true rfl) dX4_account_2 (fun H locs hP hD hS => ?_)
  have hP : va_P g.1 vwCl [(m0, .inr (4, [.ref m1, .long ma, .ref m2, .ref m3, .int (nI np), .ref m4, .int (nI ln), .int 0, .ref m5, .int (nI at_), .long hs]))] _ := hP
  have hD : va_D (va_Ad [(m0, .inr (4, [.ref m1, .long ma, .ref m2, .ref m3, .int (nI np), .ref m4, .int (nI ln), .int th, .ref m5, .int (nI at_), .long hs]))]) [(m0, .inr (4, [.ref m1, .long ma, .ref m2, .ref m3, .int (nI np), .ref m4, .int (nI ln), .int 0, .ref m5, .int (nI at_), .long hs]))] := hD
  refine lv_aload_n hx hb dX4_account_5 rfl (lv_at hl 0 rfl) ?_
  refine va_get (D := g.1) (ci := 4) (v := .long ma) (C := RX4) (T := TX4) (N := 11) hx hb hts in_X4_account_X4 hown hK hP 0 rfl rfl 1 (by decide) (hts _ (List.mem_of_getElem? (i := 2) rfl)) (fun _ h9 => h9) rfl dX4_account_6 ?_
  subst hQ
  have hP9 : va_P g.1 vwCl [(m0, .inr (4, [.ref m1, .long ma, .ref m2, .ref m3, .int (nI np), .ref m4, .int (nI ln), .int 0, .ref m5, .int (nI at_), .long hs]))] H := hP
  exact W.lret (v := ma) hx hb hr (fun t ht hW => ⟨⟨ma, (), rfl, rfl, by show va_P g.1 vwCl _ t.heap; rw [ht]; exact hP9⟩, hS.F ht⟩) hS.2.2 dX4_account_9
abbrev rm_X4_firstWrong : Room := { frames := 2, cells := 0, slots := 0, locals := 45 }
set_option maxRecDepth 100000 in
set_option maxHeartbeats 4000000 in
theorem c_X4_firstWrong (l : Launch) (g : GT) (m0 : Nat) (m1 : Nat) (m2 : Nat) (m3 : Nat) (m4 : Nat) (m5 : Nat) (ma : Int64) (np : Nat) (ln : Nat) (th : Int32) (at_ : Nat) (hs : Int64) (rw : Nat → Int32) (w : Nat) (hw8 : w ≤ 8) (hrw : rw 0 = nI w) : cUi l g yX4_firstWrong wsX4_firstWrong rm_X4_firstWrong [.ref m0] [(m0, .inr (4, [.ref m1, .long ma, .ref m2, .ref m3, .int (nI np), .ref m4, .int (nI ln), .int th, .ref m5, .int (nI at_), .long hs])), (m1, .inl (g.2.1 0, 523, .inl rw))] (fun r (_ : Unit) => r = (fwF (mS rw) (gr w))) (fun _ => [(m0, .inr (4, [.ref m1, .long ma, .ref m2, .ref m3, .int (nI np), .ref m4, .int (nI ln), .int 0, .ref m5, .int (nI at_), .long hs])), (m1, .inl (g.2.1 0, 523, .inl rw))]) := by
  refine enU (y := yX4_firstWrong) (ws := wsX4_firstWrong) (av := [.ref m0]) (cc := cX4_firstWrong) (maxL := 1) (ret := (some .int)) (by decide) rfl (Nat.le_of_ble_eq_true rfl) rfl ?_
  intro p e s m below meth c ls hx hb hr hml hown hts hlocks hE hP hD hl
  have hK := hE.1
  have hS : va_S (va_Ad [(m0, .inr (4, [.ref m1, .long ma, .ref m2, .ref m3, .int (nI np), .ref m4, .int (nI ln), .int th, .ref m5, .int (nI at_), .long hs])), (m1, .inl (g.2.1 0, 523, .inl rw))]) s.heap s.heap [] := va_S.rf
  generalize hQ : MQ below _ _ s _ _ _ = Q9
  have hl : lv_has ls 1 [(0, .ref m0)] := hl
  refine lv_aload_n hx hb dX4_firstWrong_0 rfl (lv_at hl 0 rfl) ?_
  refine lv_aload_n hx hb dX4_firstWrong_1 rfl (lv_at hl 0 rfl) ?_
  refine kRi (va_runV (As := []) (rest := [.ref m0]) ⟨hx, hb, hml, hown, hts⟩ (c_X4_firstOf l g m0 m1 m2 m3 m4 m5 ma np ln th at_ hs rw w (by first | assumption | omega | exact Nat.le_of_ble_eq_true rfl) (by first | assumption | omega | exact Nat.le_of_ble_eq_true rfl)) (cwV 0 hts gX4_firstWrong_X4_firstOf rfl rfl rfl (by decide +kernel) ⟨(Nat.le_of_ble_eq_true rfl), (Nat.le_of_ble_eq_true rfl)⟩) (preV (RX4, TX4, 11) hE hP [0, 1] rfl rfl) rfl rfl hl.1 rfl (lv_room (Nat.le_of_ble_eq_true rfl)) dX4_firstWrong_2 ⟨(Nat.le_of_ble_eq_true rfl), (Nat.le_of_ble_eq_true rfl)⟩) hP hS (fun r9 H locs hr9 hP hS => ?_)
  subst hr9
  refine kUi (fun _ => [(m0, .inr (4, [.ref m1, .long ma, .ref m2, .ref m3, .int (nI np), .ref m4, .int (nI ln), .int 0, .ref m5, .int (nI at_), .long hs])), (m1, .inl (g.2.1 0, 523, .inl rw))]) (va_runV (As := [.int (fwF (mS rw) (gr w))]) (rest := []) ⟨hx, hb, hml, hown, hts⟩ (c_X4_tells l g m0 m1 m2 m3 m4 m5 ma np ln th at_ hs (fwF (mS rw) (gr w))) (cwV 1 hts gX4_firstWrong_X4_tells rfl rfl rfl (by decide +kernel) ⟨(Nat.le_of_ble_eq_true rfl), (Nat.le_of_ble_eq_true rfl)⟩) (preVd (RX4, TX4, 11) hE hP hD [0] (by decide) rfl rfl) rfl rfl hl.1 rfl (lv_room (Nat.le_of_ble_eq_true rfl)) dX4_firstWrong_5 ⟨(Nat.le_of_ble_eq_true rfl), (Nat.le_of_ble_eq_true rfl)⟩) hP hD hS [0] [1] 2 [m0, m1] [(m1, .inl (g.2.1 0, 523, .inl rw))] rfl rfl rfl (fun _ => rfl) (fun _ => rfl) (fun _ => rfl) rfl (by decide) (fun r9 _ H locs hr9 hP hD hS => ?_)
  subst hr9
  subst hQ
  have hP9 : va_P g.1 vwCl [(m0, .inr (4, [.ref m1, .long ma, .ref m2, .ref m3, .int (nI np), .ref m4, .int (nI ln), .int 0, .ref m5, .int (nI at_), .long hs])), (m1, .inl (g.2.1 0, 523, .inl rw))] H := hP
  exact W.iret (v := (fwF (mS rw) (gr w))) hx hb hr (fun t ht hW => ⟨⟨(fwF (mS rw) (gr w)), (), rfl, rfl, by show va_P g.1 vwCl _ t.heap; rw [ht]; exact hP9⟩, hS.F ht⟩) hS.2.2 dX4_firstWrong_8
abbrev rm_X4_cheaperPairs : Room := { frames := 3, cells := 0, slots := 0, locals := 69 }
set_option maxRecDepth 100000 in
set_option maxHeartbeats 4000000 in
theorem c_X4_cheaperPairs (l : Launch) (g : GT) (m0 : Nat) (m1 : Nat) (m2 : Nat) (m3 : Nat) (m4 : Nat) (m5 : Nat) (ma : Int64) (np : Nat) (ln : Nat) (th : Int32) (at_ : Nat) (hs : Int64) (rw : Nat → Int32) (w : Nat) (mt : Int32) (mo : Int32) (hw8 : w ≤ 8) (hrw : rw 0 = nI w) : cUi l g yX4_cheaperPairs wsX4_cheaperPairs rm_X4_cheaperPairs [.ref m0, .int mt, .int mo] [(m0, .inr (4, [.ref m1, .long ma, .ref m2, .ref m3, .int (nI np), .ref m4, .int (nI ln), .int th, .ref m5, .int (nI at_), .long hs])), (m1, .inl (g.2.1 0, 523, .inl rw))] (fun r (ub : Option Int32) => (ub = none ∧ (okR 0 2 mt ∧ okR 0 2 mo) ∧ r = sI (mqF rw (gr w) mt mo) (gr w + 1)) ∨ (ub = some 1 ∧ ¬ (okR 0 2 mt ∧ okR 0 2 mo))) (fun ub => Option.elim ub [(m0, .inr (4, [.ref m1, .long ma, .ref m2, .ref m3, .int (nI np), .ref m4, .int (nI ln), .int 0, .ref m5, .int (nI at_), .long hs])), (m1, .inl (g.2.1 0, 523, .inl rw))] (fun tq => [(m0, .inr (4, [.ref m1, .long ma, .ref m2, .ref m3, .int (nI np), .ref m4, .int (nI ln), .int tq, .ref m5, .int (nI at_), .long hs])), (m1, .inl (g.2.1 0, 523, .inl rw))])) := by
  refine enU (y := yX4_cheaperPairs) (ws := wsX4_cheaperPairs) (av := [.ref m0, .int mt, .int mo]) (cc := cX4_cheaperPairs) (maxL := 5) (ret := (some .int)) (by decide) rfl (Nat.le_of_ble_eq_true rfl) rfl ?_
  intro p e s m below meth c ls hx hb hr hml hown hts hlocks hE hP hD hl
  have hK := hE.1
  have hS : va_S (va_Ad [(m0, .inr (4, [.ref m1, .long ma, .ref m2, .ref m3, .int (nI np), .ref m4, .int (nI ln), .int th, .ref m5, .int (nI at_), .long hs])), (m1, .inl (g.2.1 0, 523, .inl rw))]) s.heap s.heap [] := va_S.rf
  generalize hQ : MQ below _ _ s _ _ _ = Q9
  have hl : lv_has ls 5 [(0, .ref m0), (1, .int mt), (2, .int mo)] := hl
  have hgr := gr_le w hw8
  have hen := ents_le w hw8
  refine lv_iload_n hx hb dX4_cheaperPairs_0 rfl (lv_at hl 1 rfl) ?_
  refine kRi (va_runS (As := [.int mt]) (rest := []) ⟨hx, hb, hml, hown, hts⟩ (c_X4_isMethod l g mt) (va_cwS 1 hts gX4_cheaperPairs_X4_isMethod rfl rfl rfl (by decide +kernel) ⟨(Nat.le_of_ble_eq_true rfl), (Nat.le_of_ble_eq_true rfl)⟩) (preS hE hP [] rfl) rfl rfl hl.1 rfl (lv_room (Nat.le_of_ble_eq_true rfl)) dX4_cheaperPairs_1 ⟨(Nat.le_of_ble_eq_true rfl), (Nat.le_of_ble_eq_true rfl)⟩) hP hS (fun r9 H locs hr9 hP hS => ?_)
  subst hr9
  refine lv_if_eq (tgt := 14) hx hb dX4_cheaperPairs_4 (by decide) (fun c4 => ?_) (fun c4 => ?_)
  · have b4 : ¬ (okR 0 2 mt) := bz_f c4
    refine lv_aload_n hx hb dX4_cheaperPairs_14 rfl (lv_at hl 0 rfl) ?_
    refine lv_iconst (v := 1) hx hb dX4_cheaperPairs_15 (by decide) ?_
    refine kUi (fun _ => [(m0, .inr (4, [.ref m1, .long ma, .ref m2, .ref m3, .int (nI np), .ref m4, .int (nI ln), .int 1, .ref m5, .int (nI at_), .long hs])), (m1, .inl (g.2.1 0, 523, .inl rw))]) (va_runV (As := [.int 1]) (rest := []) ⟨hx, hb, hml, hown, hts⟩ (c_X4_fails l g m0 m1 m2 m3 m4 m5 ma np ln th at_ hs 1) (cwV 1 hts gX4_cheaperPairs_X4_fails rfl rfl rfl (by decide +kernel) ⟨(Nat.le_of_ble_eq_true rfl), (Nat.le_of_ble_eq_true rfl)⟩) (preVd (RX4, TX4, 11) hE hP hD [0] (by decide) rfl rfl) rfl rfl hl.1 rfl (lv_room (Nat.le_of_ble_eq_true rfl)) dX4_cheaperPairs_16 ⟨(Nat.le_of_ble_eq_true rfl), (Nat.le_of_ble_eq_true rfl)⟩) hP hD hS [0] [1] 2 [m0, m1] [(m1, .inl (g.2.1 0, 523, .inl rw))] rfl rfl rfl (fun _ => rfl) (fun _ => rfl) (fun _ => rfl) rfl (by decide) (fun r9 _ H locs hr9 hP hD hS => ?_)
    subst hr9
    subst hQ
    have hP9 : va_P g.1 vwCl [(m0, .inr (4, [.ref m1, .long ma, .ref m2, .ref m3, .int (nI np), .ref m4, .int (nI ln), .int 1, .ref m5, .int (nI at_), .long hs])), (m1, .inl (g.2.1 0, 523, .inl rw))] H := hP
    exact W.iret (v := 0) hx hb hr (fun t ht hW => ⟨⟨0, (some 1), rfl, by first | exact Or.inr ⟨rfl, fun h => b4 h.1⟩ | exact Or.inr ⟨rfl, fun h => b11 h.2⟩, by show va_P g.1 vwCl _ t.heap; rw [ht]; exact hP9⟩, hS.F ht⟩) hS.2.2 dX4_cheaperPairs_19
  · have b4 : okR 0 2 mt := bz_t c4
    refine lv_iload_n hx hb dX4_cheaperPairs_7 rfl (lv_at hl 2 rfl) ?_
    refine kRi (va_runS (As := [.int mo]) (rest := []) ⟨hx, hb, hml, hown, hts⟩ (c_X4_isMethod l g mo) (va_cwS 1 hts gX4_cheaperPairs_X4_isMethod rfl rfl rfl (by decide +kernel) ⟨(Nat.le_of_ble_eq_true rfl), (Nat.le_of_ble_eq_true rfl)⟩) (preS hE hP [] rfl) rfl rfl hl.1 rfl (lv_room (Nat.le_of_ble_eq_true rfl)) dX4_cheaperPairs_8 ⟨(Nat.le_of_ble_eq_true rfl), (Nat.le_of_ble_eq_true rfl)⟩) hP hS (fun r9 H locs hr9 hP hS => ?_)
    subst hr9
    refine lv_if_ne (tgt := 20) hx hb dX4_cheaperPairs_11 (by decide) (fun c11 => ?_) (fun c11 => ?_)
    · have b11 : okR 0 2 mo := bz_t c11
      refine lv_iconst (v := 0) hx hb dX4_cheaperPairs_20 (by decide) ?_
      refine lv_istore_n (lv' := [(3, .int 0), (0, .ref m0), (1, .int mt), (2, .int mo)]) hx hb dX4_cheaperPairs_21 rfl hl (by decide) rfl (fun ls hl => ?_)
      refine lv_iconst (v := 0) hx hb dX4_cheaperPairs_22 (by decide) ?_
      refine lv_istore (lv' := [(4, .int 0), (3, .int 0), (0, .ref m0), (1, .int mt), (2, .int mo)]) hx hb dX4_cheaperPairs_23 hl (by decide) rfl (fun ls hl => ?_)
      have lp25 : ∀ (n9 : Nat) (i : Nat), gr w + 1 - i < n9 → (i ≤ gr w + 1) → ∀ (z3 : Int32), z3 = sI (mqF rw (gr w) mt mo) i → ∀ (H : Heap) (locs : List Loc), va_P g.1 vwCl [(m0, .inr (4, [.ref m1, .long ma, .ref m2, .ref m3, .int (nI np), .ref m4, .int (nI ln), .int th, .ref m5, .int (nI at_), .long hs])), (m1, .inl (g.2.1 0, 523, .inl rw))] H → va_D (va_Ad [(m0, .inr (4, [.ref m1, .long ma, .ref m2, .ref m3, .int (nI np), .ref m4, .int (nI ln), .int th, .ref m5, .int (nI at_), .long hs])), (m1, .inl (g.2.1 0, 523, .inl rw))]) [(m0, .inr (4, [.ref m1, .long ma, .ref m2, .ref m3, .int (nI np), .ref m4, .int (nI ln), .int th, .ref m5, .int (nI at_), .long hs])), (m1, .inl (g.2.1 0, 523, .inl rw))] → va_S (va_Ad [(m0, .inr (4, [.ref m1, .long ma, .ref m2, .ref m3, .int (nI np), .ref m4, .int (nI ln), .int th, .ref m5, .int (nI at_), .long hs])), (m1, .inl (g.2.1 0, 523, .inl rw))]) s.heap H locs → ∀ (ls : Array Slot), lv_has ls 5 [(4, .int (nI i)), (3, .int z3), (0, .ref m0), (1, .int mt), (2, .int mo)] → W p l e rm_X4_cheaperPairs s m [Value.ref m0, .int mt, .int mo].toArray below meth c H locs 0 0 Q9 (F0 m 25 ls []) := by
        intro n9
        induction n9 with
        | zero => intro i h9; exact absurd h9 (Nat.not_lt_zero _)
        | succ n9 ih25 =>
          intro i hm25 hi
          intro z3 e_z3; subst e_z3
          intro H locs hP hD hS ls hl
          refine lv_iload hx hb dX4_cheaperPairs_25 (lv_at hl 0 rfl) ?_
          refine lv_aload_n hx hb dX4_cheaperPairs_27 rfl (lv_at hl 2 rfl) ?_
          refine kRi (va_runV (As := []) (rest := [.int (nI i)]) ⟨hx, hb, hml, hown, hts⟩ (c_X4_top l g m0 m1 m2 m3 m4 m5 ma np ln th at_ hs rw w (by first | assumption | omega | exact Nat.le_of_ble_eq_true rfl) (by first | assumption | omega | exact Nat.le_of_ble_eq_true rfl)) (cwV 0 hts gX4_cheaperPairs_X4_top rfl rfl rfl (by decide +kernel) ⟨(Nat.le_of_ble_eq_true rfl), (Nat.le_of_ble_eq_true rfl)⟩) (preV (RX4, TX4, 11) hE hP [0, 1] rfl rfl) rfl rfl hl.1 rfl (lv_room (Nat.le_of_ble_eq_true rfl)) dX4_cheaperPairs_28 ⟨(Nat.le_of_ble_eq_true rfl), (Nat.le_of_ble_eq_true rfl)⟩) hP hS (fun r9 H locs hr9 hP hS => ?_)
          subst hr9
          refine lv_icmp_gt (tgt := 70) hx hb dX4_cheaperPairs_31 (by decide) (fun c31 => ?_) (fun c31 => ?_)
          · have n31 : gr w < i := (nI_ltI (a := gr w) (b := i) (by omega) (by omega)).mp c31
            have e9 : i = gr w + 1 := by omega
            refine lv_aload_n hx hb dX4_cheaperPairs_70 rfl (lv_at hl 2 rfl) ?_
            refine lv_iload_n hx hb dX4_cheaperPairs_71 rfl (lv_at hl 1 rfl) ?_
            refine kUi (fun _ => [(m0, .inr (4, [.ref m1, .long ma, .ref m2, .ref m3, .int (nI np), .ref m4, .int (nI ln), .int 0, .ref m5, .int (nI at_), .long hs])), (m1, .inl (g.2.1 0, 523, .inl rw))]) (va_runV (As := [.int (sI (mqF rw (gr w) mt mo) i)]) (rest := []) ⟨hx, hb, hml, hown, hts⟩ (c_X4_tells l g m0 m1 m2 m3 m4 m5 ma np ln th at_ hs (sI (mqF rw (gr w) mt mo) i)) (cwV 1 hts gX4_cheaperPairs_X4_tells rfl rfl rfl (by decide +kernel) ⟨(Nat.le_of_ble_eq_true rfl), (Nat.le_of_ble_eq_true rfl)⟩) (preVd (RX4, TX4, 11) hE hP hD [0] (by decide) rfl rfl) rfl rfl hl.1 rfl (lv_room (Nat.le_of_ble_eq_true rfl)) dX4_cheaperPairs_72 ⟨(Nat.le_of_ble_eq_true rfl), (Nat.le_of_ble_eq_true rfl)⟩) hP hD hS [0] [1] 2 [m0, m1] [(m1, .inl (g.2.1 0, 523, .inl rw))] rfl rfl rfl (fun _ => rfl) (fun _ => rfl) (fun _ => rfl) rfl (by decide) (fun r9 _ H locs hr9 hP hD hS => ?_)
            subst hr9
            subst hQ
            have hP9 : va_P g.1 vwCl [(m0, .inr (4, [.ref m1, .long ma, .ref m2, .ref m3, .int (nI np), .ref m4, .int (nI ln), .int 0, .ref m5, .int (nI at_), .long hs])), (m1, .inl (g.2.1 0, 523, .inl rw))] H := hP
            exact W.iret (v := (sI (mqF rw (gr w) mt mo) i)) hx hb hr (fun t ht hW => ⟨⟨(sI (mqF rw (gr w) mt mo) i), none, rfl, Or.inl ⟨rfl, ⟨b4, b11⟩, by rw [e9]⟩, by show va_P g.1 vwCl _ t.heap; rw [ht]; exact hP9⟩, hS.F ht⟩) hS.2.2 dX4_cheaperPairs_75
          · have n31 : i ≤ gr w := Nat.le_of_not_lt (fun h9 => c31 ((nI_ltI (a := gr w) (b := i) (by omega) (by omega)).mpr h9))
            refine lv_iload_n hx hb dX4_cheaperPairs_34 rfl (lv_at hl 1 rfl) ?_
            refine lv_aload_n hx hb dX4_cheaperPairs_35 rfl (lv_at hl 2 rfl) ?_
            refine lv_iload hx hb dX4_cheaperPairs_36 (lv_at hl 0 rfl) ?_
            refine lv_iload_n hx hb dX4_cheaperPairs_38 rfl (lv_at hl 3 rfl) ?_
            refine kRi (va_runV (As := [.int (nI i), .int mt]) (rest := [.int (sI (mqF rw (gr w) mt mo) i)]) ⟨hx, hb, hml, hown, hts⟩ (c_X4_price l g m0 m1 m2 m3 m4 m5 ma np ln th at_ hs rw w i mt) (cwV 2 hts gX4_cheaperPairs_X4_price rfl rfl rfl (by decide +kernel) ⟨(Nat.le_of_ble_eq_true rfl), (Nat.le_of_ble_eq_true rfl)⟩) (preV (RX4, TX4, 11) hE hP [0, 1] rfl rfl) rfl rfl hl.1 rfl (lv_room (Nat.le_of_ble_eq_true rfl)) dX4_cheaperPairs_39 ⟨(Nat.le_of_ble_eq_true rfl), (Nat.le_of_ble_eq_true rfl)⟩) hP hS (fun r9 H locs hr9 hP hS => ?_)
            subst hr9
            refine lv_aload_n hx hb dX4_cheaperPairs_42 rfl (lv_at hl 2 rfl) ?_
            refine lv_iload hx hb dX4_cheaperPairs_43 (lv_at hl 0 rfl) ?_
            refine lv_iload_n hx hb dX4_cheaperPairs_45 rfl (lv_at hl 4 rfl) ?_
            refine kRi (va_runV (As := [.int (nI i), .int mo]) (rest := [.int (mcF rw i mt), .int (sI (mqF rw (gr w) mt mo) i)]) ⟨hx, hb, hml, hown, hts⟩ (c_X4_price l g m0 m1 m2 m3 m4 m5 ma np ln th at_ hs rw w i mo) (cwV 2 hts gX4_cheaperPairs_X4_price rfl rfl rfl (by decide +kernel) ⟨(Nat.le_of_ble_eq_true rfl), (Nat.le_of_ble_eq_true rfl)⟩) (preV (RX4, TX4, 11) hE hP [0, 1] rfl rfl) rfl rfl hl.1 rfl (lv_room (Nat.le_of_ble_eq_true rfl)) dX4_cheaperPairs_46 ⟨(Nat.le_of_ble_eq_true rfl), (Nat.le_of_ble_eq_true rfl)⟩) hP hS (fun r9 H locs hr9 hP hS => ?_)
            subst hr9
            refine lv_icmp_ge (tgt := 61) hx hb dX4_cheaperPairs_49 (by decide) (fun c49 => ?_) (fun c49 => ?_)
            · refine lv_iconst (v := 0) hx hb dX4_cheaperPairs_61 (by decide) ?_
              refine lv_iadd hx hb dX4_cheaperPairs_62 ?_
              refine lv_istore_n (lv' := [(3, .int ((sI (mqF rw (gr w) mt mo) i) + 0)), (4, .int (nI i)), (0, .ref m0), (1, .int mt), (2, .int mo)]) hx hb dX4_cheaperPairs_63 rfl hl (by decide) rfl (fun ls hl => ?_)
              refine lv_iinc (v := (nI (i + 1))) (lv' := [(4, .int (nI (i + 1))), (3, .int ((sI (mqF rw (gr w) mt mo) i) + 0)), (0, .ref m0), (1, .int mt), (2, .int mo)]) hx hb dX4_cheaperPairs_64 hl (k := 1) rfl (nI_add (i) 1) (by decide) rfl (fun ls hl => ?_)
              refine lv_goto (tgt := 25) hx hb dX4_cheaperPairs_67 (by decide) ?_
              exact ih25 (i + 1) (by omega) (by omega) ((sI (mqF rw (gr w) mt mo) i) + 0) (by first | (show _ = sI (mqF rw (gr w) mt mo) i + mqF rw (gr w) mt mo i; rw [mqF, if_pos c49]) | (show _ = sI (mqF rw (gr w) mt mo) i + mqF rw (gr w) mt mo i; rw [mqF, if_neg c49])) _ _ hP hD hS _ (lv_sub hl [0, 1, 2, 3, 4] rfl)
            · refine lv_aload_n hx hb dX4_cheaperPairs_52 rfl (lv_at hl 2 rfl) ?_
              refine kRi (va_runV (As := []) (rest := [.int (sI (mqF rw (gr w) mt mo) i)]) ⟨hx, hb, hml, hown, hts⟩ (c_X4_top l g m0 m1 m2 m3 m4 m5 ma np ln th at_ hs rw w (by first | assumption | omega | exact Nat.le_of_ble_eq_true rfl) (by first | assumption | omega | exact Nat.le_of_ble_eq_true rfl)) (cwV 0 hts gX4_cheaperPairs_X4_top rfl rfl rfl (by decide +kernel) ⟨(Nat.le_of_ble_eq_true rfl), (Nat.le_of_ble_eq_true rfl)⟩) (preV (RX4, TX4, 11) hE hP [0, 1] rfl rfl) rfl rfl hl.1 rfl (lv_room (Nat.le_of_ble_eq_true rfl)) dX4_cheaperPairs_53 ⟨(Nat.le_of_ble_eq_true rfl), (Nat.le_of_ble_eq_true rfl)⟩) hP hS (fun r9 H locs hr9 hP hS => ?_)
              subst hr9
              refine lv_iconst (v := 1) hx hb dX4_cheaperPairs_56 (by decide) ?_
              refine lv_iadd hx hb dX4_cheaperPairs_57 ?_
              refine lv_tope (y := (nI ((gr w) + 1))) (show ((nI (gr w)) + 1 : Int32) = nI ((gr w) + 1) from nI_add (gr w) (1)) ?_
              refine lv_goto (tgt := 62) hx hb dX4_cheaperPairs_58 (by decide) ?_
              refine lv_iadd hx hb dX4_cheaperPairs_62 ?_
              refine lv_istore_n (lv' := [(3, .int ((sI (mqF rw (gr w) mt mo) i) + (nI ((gr w) + 1)))), (4, .int (nI i)), (0, .ref m0), (1, .int mt), (2, .int mo)]) hx hb dX4_cheaperPairs_63 rfl hl (by decide) rfl (fun ls hl => ?_)
              refine lv_iinc (v := (nI (i + 1))) (lv' := [(4, .int (nI (i + 1))), (3, .int ((sI (mqF rw (gr w) mt mo) i) + (nI ((gr w) + 1)))), (0, .ref m0), (1, .int mt), (2, .int mo)]) hx hb dX4_cheaperPairs_64 hl (k := 1) rfl (nI_add (i) 1) (by decide) rfl (fun ls hl => ?_)
              refine lv_goto (tgt := 25) hx hb dX4_cheaperPairs_67 (by decide) ?_
              exact ih25 (i + 1) (by omega) (by omega) ((sI (mqF rw (gr w) mt mo) i) + (nI ((gr w) + 1))) (by first | (show _ = sI (mqF rw (gr w) mt mo) i + mqF rw (gr w) mt mo i; rw [mqF, if_pos c49]) | (show _ = sI (mqF rw (gr w) mt mo) i + mqF rw (gr w) mt mo i; rw [mqF, if_neg c49])) _ _ hP hD hS _ (lv_sub hl [0, 1, 2, 3, 4] rfl)
      exact lp25 ((gr w + 1 - 0) + 1) 0 (Nat.lt_succ_self _) (by omega) 0 rfl _ _ hP hD hS _ (lv_sub hl [0, 1, 2, 3, 4] rfl)
    · have b11 : ¬ (okR 0 2 mo) := bz_f c11
      refine lv_aload_n hx hb dX4_cheaperPairs_14 rfl (lv_at hl 0 rfl) ?_
      refine lv_iconst (v := 1) hx hb dX4_cheaperPairs_15 (by decide) ?_
      refine kUi (fun _ => [(m0, .inr (4, [.ref m1, .long ma, .ref m2, .ref m3, .int (nI np), .ref m4, .int (nI ln), .int 1, .ref m5, .int (nI at_), .long hs])), (m1, .inl (g.2.1 0, 523, .inl rw))]) (va_runV (As := [.int 1]) (rest := []) ⟨hx, hb, hml, hown, hts⟩ (c_X4_fails l g m0 m1 m2 m3 m4 m5 ma np ln th at_ hs 1) (cwV 1 hts gX4_cheaperPairs_X4_fails rfl rfl rfl (by decide +kernel) ⟨(Nat.le_of_ble_eq_true rfl), (Nat.le_of_ble_eq_true rfl)⟩) (preVd (RX4, TX4, 11) hE hP hD [0] (by decide) rfl rfl) rfl rfl hl.1 rfl (lv_room (Nat.le_of_ble_eq_true rfl)) dX4_cheaperPairs_16 ⟨(Nat.le_of_ble_eq_true rfl), (Nat.le_of_ble_eq_true rfl)⟩) hP hD hS [0] [1] 2 [m0, m1] [(m1, .inl (g.2.1 0, 523, .inl rw))] rfl rfl rfl (fun _ => rfl) (fun _ => rfl) (fun _ => rfl) rfl (by decide) (fun r9 _ H locs hr9 hP hD hS => ?_)
      subst hr9
      subst hQ
      have hP9 : va_P g.1 vwCl [(m0, .inr (4, [.ref m1, .long ma, .ref m2, .ref m3, .int (nI np), .ref m4, .int (nI ln), .int 1, .ref m5, .int (nI at_), .long hs])), (m1, .inl (g.2.1 0, 523, .inl rw))] H := hP
      exact W.iret (v := 0) hx hb hr (fun t ht hW => ⟨⟨0, (some 1), rfl, by first | exact Or.inr ⟨rfl, fun h => b4 h.1⟩ | exact Or.inr ⟨rfl, fun h => b11 h.2⟩, by show va_P g.1 vwCl _ t.heap; rw [ht]; exact hP9⟩, hS.F ht⟩) hS.2.2 dX4_cheaperPairs_19
abbrev rm_X4_setWidth : Room := { frames := 3, cells := 0, slots := 0, locals := 65 }
set_option maxRecDepth 100000 in
set_option maxHeartbeats 4000000 in
theorem c_X4_setWidth (l : Launch) (g : GT) (m0 : Nat) (m1 : Nat) (m2 : Nat) (m3 : Nat) (m4 : Nat) (m5 : Nat) (ma : Int64) (np : Nat) (ln : Nat) (th : Int32) (at_ : Nat) (hs : Int64) (rw : Nat → Int32) (w : Nat) (pst : Nat → Int32) (pa : Nat → Int64) (wd : Int32) (hw8 : w ≤ 8) (hrw : rw 0 = nI w) (hnp : np ≤ 4) : cUi l g yX4_setWidth wsX4_setWidth rm_X4_setWidth [.ref m0, .int wd] [(m0, .inr (4, [.ref m1, .long ma, .ref m2, .ref m3, .int (nI np), .ref m4, .int (nI ln), .int th, .ref m5, .int (nI at_), .long hs])), (m1, .inl (g.2.1 0, 523, .inl rw)), (m2, .inl (g.2.1 0, 2092, .inl pst)), (m3, .inl (g.2.1 1, 4, .inr (.inl pa)))] (fun r (ub : Option Int32) => (ub = none ∧ (okR 3 8 wd) ∧ r = sI (meF rw) (ents w)) ∨ (ub = some 1 ∧ ¬ okR 3 8 wd)) (fun ub => Option.elim ub [(m0, .inr (4, [.ref m1, .long 0, .ref m2, .ref m3, .int (nI (kcF np)), .ref m4, .int (nI ln), .int 0, .ref m5, .int (nI at_), .long hs])), (m1, .inl (g.2.1 0, 523, .inl (bgF rw (tn wd)))), (m2, .inl (g.2.1 0, 2092, .inl (svP pst np rw))), (m3, .inl (g.2.1 1, 4, .inr (.inl (svA pa np ma))))] (fun tq => [(m0, .inr (4, [.ref m1, .long ma, .ref m2, .ref m3, .int (nI np), .ref m4, .int (nI ln), .int tq, .ref m5, .int (nI at_), .long hs])), (m1, .inl (g.2.1 0, 523, .inl rw)), (m2, .inl (g.2.1 0, 2092, .inl pst)), (m3, .inl (g.2.1 1, 4, .inr (.inl pa)))])) := by
  refine enU (y := yX4_setWidth) (ws := wsX4_setWidth) (av := [.ref m0, .int wd]) (cc := cX4_setWidth) (maxL := 3) (ret := (some .int)) (by decide) rfl (Nat.le_of_ble_eq_true rfl) rfl ?_
  intro p e s m below meth c ls hx hb hr hml hown hts hlocks hE hP hD hl
  have hK := hE.1
  have hS : va_S (va_Ad [(m0, .inr (4, [.ref m1, .long ma, .ref m2, .ref m3, .int (nI np), .ref m4, .int (nI ln), .int th, .ref m5, .int (nI at_), .long hs])), (m1, .inl (g.2.1 0, 523, .inl rw)), (m2, .inl (g.2.1 0, 2092, .inl pst)), (m3, .inl (g.2.1 1, 4, .inr (.inl pa)))]) s.heap s.heap [] := va_S.rf
  generalize hQ : MQ below _ _ s _ _ _ = Q9
  have hl : lv_has ls 3 [(0, .ref m0), (1, .int wd)] := hl
  refine lv_iload_n hx hb dX4_setWidth_0 rfl (lv_at hl 1 rfl) ?_
  refine lv_iconst (v := 3) hx hb dX4_setWidth_1 (by decide) ?_
  refine lv_bipush (v := 8) hx hb dX4_setWidth_2 (by decide) ?_
  refine kRi (va_runS (As := [.int wd, .int 3, .int 8]) (rest := []) ⟨hx, hb, hml, hown, hts⟩ (c_X4_in l g wd 3 8) (va_cwS 3 hts gX4_setWidth_X4_in rfl rfl rfl (by decide +kernel) ⟨(Nat.le_of_ble_eq_true rfl), (Nat.le_of_ble_eq_true rfl)⟩) (preS hE hP [] rfl) rfl rfl hl.1 rfl (lv_room (Nat.le_of_ble_eq_true rfl)) dX4_setWidth_4 ⟨(Nat.le_of_ble_eq_true rfl), (Nat.le_of_ble_eq_true rfl)⟩) hP hS (fun r9 H locs hr9 hP hS => ?_)
  subst hr9
  refine lv_if_ne (tgt := 16) hx hb dX4_setWidth_7 (by decide) (fun c7 => ?_) (fun c7 => ?_)
  · have b7 : okR 3 8 wd := bz_t c7
    obtain ⟨kw, hkw, rfl⟩ := rN_of (n := 8) (by omega) ⟨Int32.le_trans (by decide) b7.1, b7.2⟩
    refine lv_aload_n hx hb dX4_setWidth_16 rfl (lv_at hl 0 rfl) ?_
    refine kUv (fun _ => [(m0, .inr (4, [.ref m1, .long ma, .ref m2, .ref m3, .int (nI (kcF np)), .ref m4, .int (nI ln), .int th, .ref m5, .int (nI at_), .long hs])), (m1, .inl (g.2.1 0, 523, .inl rw)), (m2, .inl (g.2.1 0, 2092, .inl (svP pst np rw))), (m3, .inl (g.2.1 1, 4, .inr (.inl (svA pa np ma))))]) (va_runV (As := []) (rest := []) ⟨hx, hb, hml, hown, hts⟩ (c_X4_save l g m0 m1 m2 m3 m4 m5 ma np ln th at_ hs rw w pst pa (by first | assumption | omega | exact Nat.le_of_ble_eq_true rfl)) (cwV 0 hts gX4_setWidth_X4_save rfl rfl rfl (by decide +kernel) ⟨(Nat.le_of_ble_eq_true rfl), (Nat.le_of_ble_eq_true rfl)⟩) (preVd (RX4, TX4, 11) hE hP hD [0, 1, 2, 3] (by decide) rfl rfl) rfl rfl hl.1 rfl (lv_room (Nat.le_of_ble_eq_true rfl)) dX4_setWidth_17 ⟨(Nat.le_of_ble_eq_true rfl), (Nat.le_of_ble_eq_true rfl)⟩) hP hD hS [0, 1, 2, 3] [] 4 [m0, m1, m2, m3] [] rfl rfl rfl (fun _ => rfl) (fun _ => rfl) (fun _ => rfl) rfl (by decide) (fun _ H locs hr9 hP hD hS => ?_)
    refine lv_aload_n hx hb dX4_setWidth_20 rfl (lv_at hl 0 rfl) ?_
    refine kRi (va_runV (As := []) (rest := []) ⟨hx, hb, hml, hown, hts⟩ (c_X4_wrongEntries l g m0 m1 m2 m3 m4 m5 ma (kcF np) ln th at_ hs rw w (by first | assumption | omega | exact Nat.le_of_ble_eq_true rfl) (by first | assumption | omega | exact Nat.le_of_ble_eq_true rfl)) (cwV 0 hts gX4_setWidth_X4_wrongEntries rfl rfl rfl (by decide +kernel) ⟨(Nat.le_of_ble_eq_true rfl), (Nat.le_of_ble_eq_true rfl)⟩) (preV (RX4, TX4, 11) hE hP [0, 1] rfl rfl) rfl rfl hl.1 rfl (lv_room (Nat.le_of_ble_eq_true rfl)) dX4_setWidth_21 ⟨(Nat.le_of_ble_eq_true rfl), (Nat.le_of_ble_eq_true rfl)⟩) hP hS (fun r9 H locs hr9 hP hS => ?_)
    subst hr9
    refine lv_istore_n (lv' := [(2, .int (sI (meF rw) (ents w))), (0, .ref m0), (1, .int (nI kw))]) hx hb dX4_setWidth_24 rfl hl (by decide) rfl (fun ls hl => ?_)
    refine lv_aload_n hx hb dX4_setWidth_25 rfl (lv_at hl 1 rfl) ?_
    refine lv_iload_n hx hb dX4_setWidth_26 rfl (lv_at hl 2 rfl) ?_
    refine kUv (fun _ => [(m0, .inr (4, [.ref m1, .long 0, .ref m2, .ref m3, .int (nI ((kcF np))), .ref m4, .int (nI ln), .int th, .ref m5, .int (nI at_), .long hs])), (m1, .inl (g.2.1 0, 523, .inl (bgF rw kw))), (m2, .inl (g.2.1 0, 2092, .inl (svP pst np rw))), (m3, .inl (g.2.1 1, 4, .inr (.inl (svA pa np ma))))]) (va_runV (As := [.int (nI kw)]) (rest := []) ⟨hx, hb, hml, hown, hts⟩ (c_X4_begin l g m0 m1 m2 m3 m4 m5 ma (kcF np) ln th at_ hs rw w kw (by first | assumption | omega | exact Nat.le_of_ble_eq_true rfl)) (cwV 1 hts gX4_setWidth_X4_begin rfl rfl rfl (by decide +kernel) ⟨(Nat.le_of_ble_eq_true rfl), (Nat.le_of_ble_eq_true rfl)⟩) (preVd (RX4, TX4, 11) hE hP hD [0, 1] (by decide) rfl rfl) rfl rfl hl.1 rfl (lv_room (Nat.le_of_ble_eq_true rfl)) dX4_setWidth_27 ⟨(Nat.le_of_ble_eq_true rfl), (Nat.le_of_ble_eq_true rfl)⟩) hP hD hS [0, 1] [2, 3] 4 [m0, m1, m2, m3] [(m2, .inl (g.2.1 0, 2092, .inl (svP pst np rw))), (m3, .inl (g.2.1 1, 4, .inr (.inl (svA pa np ma))))] rfl rfl rfl (fun _ => rfl) (fun _ => rfl) (fun _ => rfl) rfl (by decide) (fun _ H locs hr9 hP hD hS => ?_)
    refine lv_aload_n hx hb dX4_setWidth_30 rfl (lv_at hl 1 rfl) ?_
    refine lv_iload_n hx hb dX4_setWidth_31 rfl (lv_at hl 0 rfl) ?_
    refine kUi (fun _ => [(m0, .inr (4, [.ref m1, .long 0, .ref m2, .ref m3, .int (nI ((kcF np))), .ref m4, .int (nI ln), .int 0, .ref m5, .int (nI at_), .long hs])), (m1, .inl (g.2.1 0, 523, .inl (bgF rw kw))), (m2, .inl (g.2.1 0, 2092, .inl (svP pst np rw))), (m3, .inl (g.2.1 1, 4, .inr (.inl (svA pa np ma))))]) (va_runV (As := [.int (sI (meF rw) (ents w))]) (rest := []) ⟨hx, hb, hml, hown, hts⟩ (c_X4_tells l g m0 m1 m2 m3 m4 m5 0 (kcF np) ln th at_ hs (sI (meF rw) (ents w))) (cwV 1 hts gX4_setWidth_X4_tells rfl rfl rfl (by decide +kernel) ⟨(Nat.le_of_ble_eq_true rfl), (Nat.le_of_ble_eq_true rfl)⟩) (preVd (RX4, TX4, 11) hE hP hD [0] (by decide) rfl rfl) rfl rfl hl.1 rfl (lv_room (Nat.le_of_ble_eq_true rfl)) dX4_setWidth_32 ⟨(Nat.le_of_ble_eq_true rfl), (Nat.le_of_ble_eq_true rfl)⟩) hP hD hS [0] [1, 2, 3] 4 [m0, m1, m2, m3] [(m1, .inl (g.2.1 0, 523, .inl (bgF rw kw))), (m2, .inl (g.2.1 0, 2092, .inl (svP pst np rw))), (m3, .inl (g.2.1 1, 4, .inr (.inl (svA pa np ma))))] rfl rfl rfl (fun _ => rfl) (fun _ => rfl) (fun _ => rfl) rfl (by decide) (fun r9 _ H locs hr9 hP hD hS => ?_)
    subst hr9
    subst hQ
    have hP9 : va_P g.1 vwCl [(m0, .inr (4, [.ref m1, .long 0, .ref m2, .ref m3, .int (nI (kcF np)), .ref m4, .int (nI ln), .int 0, .ref m5, .int (nI at_), .long hs])), (m1, .inl (g.2.1 0, 523, .inl (bgF rw (tn (nI kw))))), (m2, .inl (g.2.1 0, 2092, .inl (svP pst np rw))), (m3, .inl (g.2.1 1, 4, .inr (.inl (svA pa np ma))))] H := by rw [tn_nI (n := kw) (by omega)]; exact hP
    exact W.iret (v := (sI (meF rw) (ents w))) hx hb hr (fun t ht hW => ⟨⟨(sI (meF rw) (ents w)), none, rfl, Or.inl ⟨rfl, b7, rfl⟩, by show va_P g.1 vwCl _ t.heap; rw [ht]; exact hP9⟩, hS.F ht⟩) hS.2.2 dX4_setWidth_35
  · have b7 : ¬ (okR 3 8 wd) := bz_f c7
    refine lv_aload_n hx hb dX4_setWidth_10 rfl (lv_at hl 0 rfl) ?_
    refine lv_iconst (v := 1) hx hb dX4_setWidth_11 (by decide) ?_
    refine kUi (fun _ => [(m0, .inr (4, [.ref m1, .long ma, .ref m2, .ref m3, .int (nI np), .ref m4, .int (nI ln), .int 1, .ref m5, .int (nI at_), .long hs])), (m1, .inl (g.2.1 0, 523, .inl rw)), (m2, .inl (g.2.1 0, 2092, .inl pst)), (m3, .inl (g.2.1 1, 4, .inr (.inl pa)))]) (va_runV (As := [.int 1]) (rest := []) ⟨hx, hb, hml, hown, hts⟩ (c_X4_fails l g m0 m1 m2 m3 m4 m5 ma np ln th at_ hs 1) (cwV 1 hts gX4_setWidth_X4_fails rfl rfl rfl (by decide +kernel) ⟨(Nat.le_of_ble_eq_true rfl), (Nat.le_of_ble_eq_true rfl)⟩) (preVd (RX4, TX4, 11) hE hP hD [0] (by decide) rfl rfl) rfl rfl hl.1 rfl (lv_room (Nat.le_of_ble_eq_true rfl)) dX4_setWidth_12 ⟨(Nat.le_of_ble_eq_true rfl), (Nat.le_of_ble_eq_true rfl)⟩) hP hD hS [0] [1, 2, 3] 4 [m0, m1, m2, m3] [(m1, .inl (g.2.1 0, 523, .inl rw)), (m2, .inl (g.2.1 0, 2092, .inl pst)), (m3, .inl (g.2.1 1, 4, .inr (.inl pa)))] rfl rfl rfl (fun _ => rfl) (fun _ => rfl) (fun _ => rfl) rfl (by decide) (fun r9 _ H locs hr9 hP hD hS => ?_)
    subst hr9
    subst hQ
    have hP9 : va_P g.1 vwCl [(m0, .inr (4, [.ref m1, .long ma, .ref m2, .ref m3, .int (nI np), .ref m4, .int (nI ln), .int 1, .ref m5, .int (nI at_), .long hs])), (m1, .inl (g.2.1 0, 523, .inl rw)), (m2, .inl (g.2.1 0, 2092, .inl pst)), (m3, .inl (g.2.1 1, 4, .inr (.inl pa)))] H := hP
    exact W.iret (v := 0) hx hb hr (fun t ht hW => ⟨⟨0, (some 1), rfl, Or.inr ⟨rfl, b7⟩, by show va_P g.1 vwCl _ t.heap; rw [ht]; exact hP9⟩, hS.F ht⟩) hS.2.2 dX4_setWidth_15
theorem in_X4_setCost_X4 : ∀ w ∈ wsX40, w ∈ wsX4_setCost := by decide +kernel
abbrev rm_X4_setCost : Room := { frames := 1, cells := 0, slots := 0, locals := 22 }
set_option maxRecDepth 100000 in
set_option maxHeartbeats 4000000 in
theorem c_X4_setCost (l : Launch) (g : GT) (m0 : Nat) (m1 : Nat) (m2 : Nat) (m3 : Nat) (m4 : Nat) (m5 : Nat) (ma : Int64) (np : Nat) (ln : Nat) (th : Int32) (at_ : Nat) (hs : Int64) (rw : Nat → Int32) (w : Nat) (pst : Nat → Int32) (pa : Nat → Int64) (wh : Int32) (cs : Int32) (hnp : np ≤ 4) : cUi l g yX4_setCost wsX4_setCost rm_X4_setCost [.ref m0, .int wh, .int cs] [(m0, .inr (4, [.ref m1, .long ma, .ref m2, .ref m3, .int (nI np), .ref m4, .int (nI ln), .int th, .ref m5, .int (nI at_), .long hs])), (m1, .inl (g.2.1 0, 523, .inl rw)), (m2, .inl (g.2.1 0, 2092, .inl pst)), (m3, .inl (g.2.1 1, 4, .inr (.inl pa)))] (fun r (ub : Option Int32) => (ub = none ∧ (okR 0 2 wh ∧ okR 1 50 cs) ∧ r = rw (1 + tn wh)) ∨ (ub = some 1 ∧ ¬ (okR 0 2 wh ∧ okR 1 50 cs))) (fun ub => Option.elim ub [(m0, .inr (4, [.ref m1, .long ma, .ref m2, .ref m3, .int (nI (kcF np)), .ref m4, .int (nI ln), .int 0, .ref m5, .int (nI at_), .long hs])), (m1, .inl (g.2.1 0, 523, .inl (upd rw (1 + tn wh) cs))), (m2, .inl (g.2.1 0, 2092, .inl (svP pst np rw))), (m3, .inl (g.2.1 1, 4, .inr (.inl (svA pa np ma))))] (fun tq => [(m0, .inr (4, [.ref m1, .long ma, .ref m2, .ref m3, .int (nI np), .ref m4, .int (nI ln), .int tq, .ref m5, .int (nI at_), .long hs])), (m1, .inl (g.2.1 0, 523, .inl rw)), (m2, .inl (g.2.1 0, 2092, .inl pst)), (m3, .inl (g.2.1 1, 4, .inr (.inl pa)))])) := by
  refine enU (y := yX4_setCost) (ws := wsX4_setCost) (av := [.ref m0, .int wh, .int cs]) (cc := cX4_setCost) (maxL := 4) (ret := (some .int)) (by decide) rfl (Nat.le_of_ble_eq_true rfl) rfl ?_
  intro p e s m below meth c ls hx hb hr hml hown hts hlocks hE hP hD hl
  have hK := hE.1
  have hS : va_S (va_Ad [(m0, .inr (4, [.ref m1, .long ma, .ref m2, .ref m3, .int (nI np), .ref m4, .int (nI ln), .int th, .ref m5, .int (nI at_), .long hs])), (m1, .inl (g.2.1 0, 523, .inl rw)), (m2, .inl (g.2.1 0, 2092, .inl pst)), (m3, .inl (g.2.1 1, 4, .inr (.inl pa)))]) s.heap s.heap [] := va_S.rf
  generalize hQ : MQ below _ _ s _ _ _ = Q9
  have hl : lv_has ls 4 [(0, .ref m0), (1, .int wh), (2, .int cs)] := hl
  refine lv_iload_n hx hb dX4_setCost_0 rfl (lv_at hl 1 rfl) ?_
  refine lv_iconst (v := 0) hx hb dX4_setCost_1 (by decide) ?_
  refine lv_iconst (v := 2) hx hb dX4_setCost_2 (by decide) ?_
  refine kRi (va_runS (As := [.int wh, .int 0, .int 2]) (rest := []) ⟨hx, hb, hml, hown, hts⟩ (c_X4_in l g wh 0 2) (va_cwS 3 hts gX4_setCost_X4_in rfl rfl rfl (by decide +kernel) ⟨(Nat.le_of_ble_eq_true rfl), (Nat.le_of_ble_eq_true rfl)⟩) (preS hE hP [] rfl) rfl rfl hl.1 rfl (lv_room (Nat.le_of_ble_eq_true rfl)) dX4_setCost_3 ⟨(Nat.le_of_ble_eq_true rfl), (Nat.le_of_ble_eq_true rfl)⟩) hP hS (fun r9 H locs hr9 hP hS => ?_)
  subst hr9
  refine lv_if_eq (tgt := 19) hx hb dX4_setCost_6 (by decide) (fun c6 => ?_) (fun c6 => ?_)
  · have b6 : ¬ (okR 0 2 wh) := bz_f c6
    refine lv_aload_n hx hb dX4_setCost_19 rfl (lv_at hl 0 rfl) ?_
    refine lv_iconst (v := 1) hx hb dX4_setCost_20 (by decide) ?_
    refine kUi (fun _ => [(m0, .inr (4, [.ref m1, .long ma, .ref m2, .ref m3, .int (nI np), .ref m4, .int (nI ln), .int 1, .ref m5, .int (nI at_), .long hs])), (m1, .inl (g.2.1 0, 523, .inl rw)), (m2, .inl (g.2.1 0, 2092, .inl pst)), (m3, .inl (g.2.1 1, 4, .inr (.inl pa)))]) (va_runV (As := [.int 1]) (rest := []) ⟨hx, hb, hml, hown, hts⟩ (c_X4_fails l g m0 m1 m2 m3 m4 m5 ma np ln th at_ hs 1) (cwV 1 hts gX4_setCost_X4_fails rfl rfl rfl (by decide +kernel) ⟨(Nat.le_of_ble_eq_true rfl), (Nat.le_of_ble_eq_true rfl)⟩) (preVd (RX4, TX4, 11) hE hP hD [0] (by decide) rfl rfl) rfl rfl hl.1 rfl (lv_room (Nat.le_of_ble_eq_true rfl)) dX4_setCost_21 ⟨(Nat.le_of_ble_eq_true rfl), (Nat.le_of_ble_eq_true rfl)⟩) hP hD hS [0] [1, 2, 3] 4 [m0, m1, m2, m3] [(m1, .inl (g.2.1 0, 523, .inl rw)), (m2, .inl (g.2.1 0, 2092, .inl pst)), (m3, .inl (g.2.1 1, 4, .inr (.inl pa)))] rfl rfl rfl (fun _ => rfl) (fun _ => rfl) (fun _ => rfl) rfl (by decide) (fun r9 _ H locs hr9 hP hD hS => ?_)
    subst hr9
    subst hQ
    have hP9 : va_P g.1 vwCl [(m0, .inr (4, [.ref m1, .long ma, .ref m2, .ref m3, .int (nI np), .ref m4, .int (nI ln), .int 1, .ref m5, .int (nI at_), .long hs])), (m1, .inl (g.2.1 0, 523, .inl rw)), (m2, .inl (g.2.1 0, 2092, .inl pst)), (m3, .inl (g.2.1 1, 4, .inr (.inl pa)))] H := hP
    exact W.iret (v := 0) hx hb hr (fun t ht hW => ⟨⟨0, (some 1), rfl, by first | exact Or.inr ⟨rfl, fun h => b6 h.1⟩ | exact Or.inr ⟨rfl, fun h => b16 h.2⟩, by show va_P g.1 vwCl _ t.heap; rw [ht]; exact hP9⟩, hS.F ht⟩) hS.2.2 dX4_setCost_24
  · have b6 : okR 0 2 wh := bz_t c6
    obtain ⟨kw, hkw, rfl⟩ := rN_of (n := 2) (by omega) b6
    refine lv_iload_n hx hb dX4_setCost_9 rfl (lv_at hl 2 rfl) ?_
    refine lv_iconst (v := 1) hx hb dX4_setCost_10 (by decide) ?_
    refine lv_bipush (v := 50) hx hb dX4_setCost_11 (by decide) ?_
    refine kRi (va_runS (As := [.int cs, .int 1, .int 50]) (rest := []) ⟨hx, hb, hml, hown, hts⟩ (c_X4_in l g cs 1 50) (va_cwS 3 hts gX4_setCost_X4_in rfl rfl rfl (by decide +kernel) ⟨(Nat.le_of_ble_eq_true rfl), (Nat.le_of_ble_eq_true rfl)⟩) (preS hE hP [] rfl) rfl rfl hl.1 rfl (lv_room (Nat.le_of_ble_eq_true rfl)) dX4_setCost_13 ⟨(Nat.le_of_ble_eq_true rfl), (Nat.le_of_ble_eq_true rfl)⟩) hP hS (fun r9 H locs hr9 hP hS => ?_)
    subst hr9
    refine lv_if_ne (tgt := 25) hx hb dX4_setCost_16 (by decide) (fun c16 => ?_) (fun c16 => ?_)
    · have b16 : okR 1 50 cs := bz_t c16
      refine lv_aload_n hx hb dX4_setCost_25 rfl (lv_at hl 0 rfl) ?_
      refine kUv (fun _ => [(m0, .inr (4, [.ref m1, .long ma, .ref m2, .ref m3, .int (nI (kcF np)), .ref m4, .int (nI ln), .int th, .ref m5, .int (nI at_), .long hs])), (m1, .inl (g.2.1 0, 523, .inl rw)), (m2, .inl (g.2.1 0, 2092, .inl (svP pst np rw))), (m3, .inl (g.2.1 1, 4, .inr (.inl (svA pa np ma))))]) (va_runV (As := []) (rest := []) ⟨hx, hb, hml, hown, hts⟩ (c_X4_save l g m0 m1 m2 m3 m4 m5 ma np ln th at_ hs rw w pst pa (by first | assumption | omega | exact Nat.le_of_ble_eq_true rfl)) (cwV 0 hts gX4_setCost_X4_save rfl rfl rfl (by decide +kernel) ⟨(Nat.le_of_ble_eq_true rfl), (Nat.le_of_ble_eq_true rfl)⟩) (preVd (RX4, TX4, 11) hE hP hD [0, 1, 2, 3] (by decide) rfl rfl) rfl rfl hl.1 rfl (lv_room (Nat.le_of_ble_eq_true rfl)) dX4_setCost_26 ⟨(Nat.le_of_ble_eq_true rfl), (Nat.le_of_ble_eq_true rfl)⟩) hP hD hS [0, 1, 2, 3] [] 4 [m0, m1, m2, m3] [] rfl rfl rfl (fun _ => rfl) (fun _ => rfl) (fun _ => rfl) rfl (by decide) (fun _ H locs hr9 hP hD hS => ?_)
      refine lv_aload_n hx hb dX4_setCost_29 rfl (lv_at hl 0 rfl) ?_
      refine va_get (D := g.1) (ci := 4) (v := .ref m1) (C := RX4) (T := TX4) (N := 11) hx hb hts in_X4_setCost_X4 hown hK hP 0 rfl rfl 0 (by decide) (hts _ (List.mem_of_getElem? (i := 1) rfl)) (fun _ h9 => h9) rfl dX4_setCost_30 ?_
      refine lv_iconst (v := 1) hx hb dX4_setCost_33 (by decide) ?_
      refine lv_iload_n hx hb dX4_setCost_34 rfl (lv_at hl 1 rfl) ?_
      refine lv_iadd hx hb dX4_setCost_35 ?_
      refine lv_tope (y := (nI (1 + kw))) (show (1 + (nI kw) : Int32) = nI (1 + kw) from nI_add (1) (kw)) ?_
      refine gIald (k := (1 + kw)) hx hb hE hP 1 rfl (by omega) (by omega) dX4_setCost_36 ?_
      refine lv_istore_n (lv' := [(3, .int (rw (1 + kw))), (0, .ref m0), (1, .int (nI kw)), (2, .int cs)]) hx hb dX4_setCost_37 rfl hl (by decide) rfl (fun ls hl => ?_)
      refine lv_aload_n hx hb dX4_setCost_38 rfl (lv_at hl 1 rfl) ?_
      refine va_get (D := g.1) (ci := 4) (v := .ref m1) (C := RX4) (T := TX4) (N := 11) hx hb hts in_X4_setCost_X4 hown hK hP 0 rfl rfl 0 (by decide) (hts _ (List.mem_of_getElem? (i := 1) rfl)) (fun _ h9 => h9) rfl dX4_setCost_39 ?_
      refine lv_iconst (v := 1) hx hb dX4_setCost_42 (by decide) ?_
      refine lv_iload_n hx hb dX4_setCost_43 rfl (lv_at hl 2 rfl) ?_
      refine lv_iadd hx hb dX4_setCost_44 ?_
      refine lv_tope (y := (nI (1 + kw))) (show (1 + (nI kw) : Int32) = nI (1 + kw) from nI_add (1) (kw)) ?_
      refine lv_iload_n hx hb dX4_setCost_45 rfl (lv_at hl 3 rfl) ?_
      refine gIast (k := (1 + kw)) (x := cs) (wsn := [(m0, .inr (4, [.ref m1, .long ma, .ref m2, .ref m3, .int (nI (kcF np)), .ref m4, .int (nI ln), .int th, .ref m5, .int (nI at_), .long hs])), (m1, .inl (g.2.1 0, 523, .inl (upd rw (1 + kw) cs))), (m2, .inl (g.2.1 0, 2092, .inl (svP pst np rw))), (m3, .inl (g.2.1 1, 4, .inr (.inl (svA pa np ma))))]) hx hb hE hP hD hS 1 rfl (by omega) (by omega) dX4_setCost_46 (hw := rfl) (kk := fun H locs hP hD hS => ?_)
      refine lv_aload_n hx hb dX4_setCost_47 rfl (lv_at hl 1 rfl) ?_
      refine lv_iload_n hx hb dX4_setCost_48 rfl (lv_at hl 0 rfl) ?_
      refine kUi (fun _ => [(m0, .inr (4, [.ref m1, .long ma, .ref m2, .ref m3, .int (nI ((kcF np))), .ref m4, .int (nI ln), .int 0, .ref m5, .int (nI at_), .long hs])), (m1, .inl (g.2.1 0, 523, .inl (upd rw (1 + kw) cs))), (m2, .inl (g.2.1 0, 2092, .inl (svP pst np rw))), (m3, .inl (g.2.1 1, 4, .inr (.inl (svA pa np ma))))]) (va_runV (As := [.int (rw (1 + kw))]) (rest := []) ⟨hx, hb, hml, hown, hts⟩ (c_X4_tells l g m0 m1 m2 m3 m4 m5 ma (kcF np) ln th at_ hs (rw (1 + kw))) (cwV 1 hts gX4_setCost_X4_tells rfl rfl rfl (by decide +kernel) ⟨(Nat.le_of_ble_eq_true rfl), (Nat.le_of_ble_eq_true rfl)⟩) (preVd (RX4, TX4, 11) hE hP hD [0] (by decide) rfl rfl) rfl rfl hl.1 rfl (lv_room (Nat.le_of_ble_eq_true rfl)) dX4_setCost_49 ⟨(Nat.le_of_ble_eq_true rfl), (Nat.le_of_ble_eq_true rfl)⟩) hP hD hS [0] [1, 2, 3] 4 [m0, m1, m2, m3] [(m1, .inl (g.2.1 0, 523, .inl (upd rw (1 + kw) cs))), (m2, .inl (g.2.1 0, 2092, .inl (svP pst np rw))), (m3, .inl (g.2.1 1, 4, .inr (.inl (svA pa np ma))))] rfl rfl rfl (fun _ => rfl) (fun _ => rfl) (fun _ => rfl) rfl (by decide) (fun r9 _ H locs hr9 hP hD hS => ?_)
      subst hr9
      subst hQ
      have hP9 : va_P g.1 vwCl [(m0, .inr (4, [.ref m1, .long ma, .ref m2, .ref m3, .int (nI (kcF np)), .ref m4, .int (nI ln), .int 0, .ref m5, .int (nI at_), .long hs])), (m1, .inl (g.2.1 0, 523, .inl (upd rw (1 + tn (nI kw)) cs))), (m2, .inl (g.2.1 0, 2092, .inl (svP pst np rw))), (m3, .inl (g.2.1 1, 4, .inr (.inl (svA pa np ma))))] H := by rw [tn_nI (n := kw) (by omega)]; exact hP
      exact W.iret (v := (rw (1 + kw))) hx hb hr (fun t ht hW => ⟨⟨(rw (1 + kw)), none, rfl, Or.inl ⟨rfl, ⟨b6, b16⟩, by rw [tn_nI (n := kw) (by omega)]⟩, by show va_P g.1 vwCl _ t.heap; rw [ht]; exact hP9⟩, hS.F ht⟩) hS.2.2 dX4_setCost_52
    · have b16 : ¬ (okR 1 50 cs) := bz_f c16
      refine lv_aload_n hx hb dX4_setCost_19 rfl (lv_at hl 0 rfl) ?_
      refine lv_iconst (v := 1) hx hb dX4_setCost_20 (by decide) ?_
      refine kUi (fun _ => [(m0, .inr (4, [.ref m1, .long ma, .ref m2, .ref m3, .int (nI np), .ref m4, .int (nI ln), .int 1, .ref m5, .int (nI at_), .long hs])), (m1, .inl (g.2.1 0, 523, .inl rw)), (m2, .inl (g.2.1 0, 2092, .inl pst)), (m3, .inl (g.2.1 1, 4, .inr (.inl pa)))]) (va_runV (As := [.int 1]) (rest := []) ⟨hx, hb, hml, hown, hts⟩ (c_X4_fails l g m0 m1 m2 m3 m4 m5 ma np ln th at_ hs 1) (cwV 1 hts gX4_setCost_X4_fails rfl rfl rfl (by decide +kernel) ⟨(Nat.le_of_ble_eq_true rfl), (Nat.le_of_ble_eq_true rfl)⟩) (preVd (RX4, TX4, 11) hE hP hD [0] (by decide) rfl rfl) rfl rfl hl.1 rfl (lv_room (Nat.le_of_ble_eq_true rfl)) dX4_setCost_21 ⟨(Nat.le_of_ble_eq_true rfl), (Nat.le_of_ble_eq_true rfl)⟩) hP hD hS [0] [1, 2, 3] 4 [m0, m1, m2, m3] [(m1, .inl (g.2.1 0, 523, .inl rw)), (m2, .inl (g.2.1 0, 2092, .inl pst)), (m3, .inl (g.2.1 1, 4, .inr (.inl pa)))] rfl rfl rfl (fun _ => rfl) (fun _ => rfl) (fun _ => rfl) rfl (by decide) (fun r9 _ H locs hr9 hP hD hS => ?_)
      subst hr9
      subst hQ
      have hP9 : va_P g.1 vwCl [(m0, .inr (4, [.ref m1, .long ma, .ref m2, .ref m3, .int (nI np), .ref m4, .int (nI ln), .int 1, .ref m5, .int (nI at_), .long hs])), (m1, .inl (g.2.1 0, 523, .inl rw)), (m2, .inl (g.2.1 0, 2092, .inl pst)), (m3, .inl (g.2.1 1, 4, .inr (.inl pa)))] H := hP
      exact W.iret (v := 0) hx hb hr (fun t ht hW => ⟨⟨0, (some 1), rfl, by first | exact Or.inr ⟨rfl, fun h => b6 h.1⟩ | exact Or.inr ⟨rfl, fun h => b16 h.2⟩, by show va_P g.1 vwCl _ t.heap; rw [ht]; exact hP9⟩, hS.F ht⟩) hS.2.2 dX4_setCost_24
theorem in_X4_flip_X4 : ∀ w ∈ wsX40, w ∈ wsX4_flip := by decide +kernel
abbrev rm_X4_flip : Room := { frames := 3, cells := 0, slots := 0, locals := 61 }
set_option maxRecDepth 100000 in
set_option maxHeartbeats 4000000 in
theorem c_X4_flip (l : Launch) (g : GT) (m0 : Nat) (m1 : Nat) (m2 : Nat) (m3 : Nat) (m4 : Nat) (m5 : Nat) (ma : Int64) (np : Nat) (ln : Nat) (th : Int32) (at_ : Nat) (hs : Int64) (rw : Nat → Int32) (w : Nat) (pst : Nat → Int32) (pa : Nat → Int64) (ev : Int32) (bt : Int32) (hw8 : w ≤ 8) (hrw : rw 0 = nI w) (hnp : np ≤ 4) : cUi l g yX4_flip wsX4_flip rm_X4_flip [.ref m0, .int ev, .int bt] [(m0, .inr (4, [.ref m1, .long ma, .ref m2, .ref m3, .int (nI np), .ref m4, .int (nI ln), .int th, .ref m5, .int (nI at_), .long hs])), (m1, .inl (g.2.1 0, 523, .inl rw)), (m2, .inl (g.2.1 0, 2092, .inl pst)), (m3, .inl (g.2.1 1, 4, .inr (.inl pa)))] (fun r (ub : Option Int32) => (ub = none ∧ (okE w ev ∧ okR 0 16 bt) ∧ r = (rw (12 + tn ev) ^^^ ((1 : Int32) <<< (bt &&& 31)))) ∨ (ub = some 1 ∧ ¬ okE w ev) ∨ (ub = some 2 ∧ okE w ev ∧ ¬ okR 0 16 bt)) (fun ub => Option.elim ub [(m0, .inr (4, [.ref m1, .long ma, .ref m2, .ref m3, .int (nI (kcF np)), .ref m4, .int (nI ln), .int 0, .ref m5, .int (nI at_), .long hs])), (m1, .inl (g.2.1 0, 523, .inl (upd rw (12 + tn ev) (rw (12 + tn ev) ^^^ ((1 : Int32) <<< (bt &&& 31)))))), (m2, .inl (g.2.1 0, 2092, .inl (svP pst np rw))), (m3, .inl (g.2.1 1, 4, .inr (.inl (svA pa np ma))))] (fun tq => [(m0, .inr (4, [.ref m1, .long ma, .ref m2, .ref m3, .int (nI np), .ref m4, .int (nI ln), .int tq, .ref m5, .int (nI at_), .long hs])), (m1, .inl (g.2.1 0, 523, .inl rw)), (m2, .inl (g.2.1 0, 2092, .inl pst)), (m3, .inl (g.2.1 1, 4, .inr (.inl pa)))])) := by
  refine enU (y := yX4_flip) (ws := wsX4_flip) (av := [.ref m0, .int ev, .int bt]) (cc := cX4_flip) (maxL := 3) (ret := (some .int)) (by decide) rfl (Nat.le_of_ble_eq_true rfl) rfl ?_
  intro p e s m below meth c ls hx hb hr hml hown hts hlocks hE hP hD hl
  have hK := hE.1
  have hS : va_S (va_Ad [(m0, .inr (4, [.ref m1, .long ma, .ref m2, .ref m3, .int (nI np), .ref m4, .int (nI ln), .int th, .ref m5, .int (nI at_), .long hs])), (m1, .inl (g.2.1 0, 523, .inl rw)), (m2, .inl (g.2.1 0, 2092, .inl pst)), (m3, .inl (g.2.1 1, 4, .inr (.inl pa)))]) s.heap s.heap [] := va_S.rf
  generalize hQ : MQ below _ _ s _ _ _ = Q9
  have hl : lv_has ls 3 [(0, .ref m0), (1, .int ev), (2, .int bt)] := hl
  have hgr := gr_le w hw8
  have hen := ents_le w hw8
  refine lv_aload_n hx hb dX4_flip_0 rfl (lv_at hl 0 rfl) ?_
  refine lv_iload_n hx hb dX4_flip_1 rfl (lv_at hl 1 rfl) ?_
  refine kRi (va_runV (As := [.int ev]) (rest := []) ⟨hx, hb, hml, hown, hts⟩ (c_X4_isEntry l g m0 m1 m2 m3 m4 m5 ma np ln th at_ hs rw w ev (by first | assumption | omega | exact Nat.le_of_ble_eq_true rfl) (by first | assumption | omega | exact Nat.le_of_ble_eq_true rfl)) (cwV 1 hts gX4_flip_X4_isEntry rfl rfl rfl (by decide +kernel) ⟨(Nat.le_of_ble_eq_true rfl), (Nat.le_of_ble_eq_true rfl)⟩) (preV (RX4, TX4, 11) hE hP [0, 1] rfl rfl) rfl rfl hl.1 rfl (lv_room (Nat.le_of_ble_eq_true rfl)) dX4_flip_2 ⟨(Nat.le_of_ble_eq_true rfl), (Nat.le_of_ble_eq_true rfl)⟩) hP hS (fun r9 H locs hr9 hP hS => ?_)
  subst hr9
  refine lv_if_ne (tgt := 14) hx hb dX4_flip_5 (by decide) (fun c5 => ?_) (fun c5 => ?_)
  · have b5 : okE w ev := bz_t c5
    obtain ⟨ke, hke, rfl⟩ := en_of hw8 b5
    refine lv_iload_n hx hb dX4_flip_14 rfl (lv_at hl 2 rfl) ?_
    refine lv_iconst (v := 0) hx hb dX4_flip_15 (by decide) ?_
    refine lv_bipush (v := 16) hx hb dX4_flip_16 (by decide) ?_
    refine kRi (va_runS (As := [.int bt, .int 0, .int 16]) (rest := []) ⟨hx, hb, hml, hown, hts⟩ (c_X4_in l g bt 0 16) (va_cwS 3 hts gX4_flip_X4_in rfl rfl rfl (by decide +kernel) ⟨(Nat.le_of_ble_eq_true rfl), (Nat.le_of_ble_eq_true rfl)⟩) (preS hE hP [] rfl) rfl rfl hl.1 rfl (lv_room (Nat.le_of_ble_eq_true rfl)) dX4_flip_18 ⟨(Nat.le_of_ble_eq_true rfl), (Nat.le_of_ble_eq_true rfl)⟩) hP hS (fun r9 H locs hr9 hP hS => ?_)
    subst hr9
    refine lv_if_ne (tgt := 30) hx hb dX4_flip_21 (by decide) (fun c21 => ?_) (fun c21 => ?_)
    · have b21 : okR 0 16 bt := bz_t c21
      refine lv_aload_n hx hb dX4_flip_30 rfl (lv_at hl 0 rfl) ?_
      refine kUv (fun _ => [(m0, .inr (4, [.ref m1, .long ma, .ref m2, .ref m3, .int (nI (kcF np)), .ref m4, .int (nI ln), .int th, .ref m5, .int (nI at_), .long hs])), (m1, .inl (g.2.1 0, 523, .inl rw)), (m2, .inl (g.2.1 0, 2092, .inl (svP pst np rw))), (m3, .inl (g.2.1 1, 4, .inr (.inl (svA pa np ma))))]) (va_runV (As := []) (rest := []) ⟨hx, hb, hml, hown, hts⟩ (c_X4_save l g m0 m1 m2 m3 m4 m5 ma np ln th at_ hs rw w pst pa (by first | assumption | omega | exact Nat.le_of_ble_eq_true rfl)) (cwV 0 hts gX4_flip_X4_save rfl rfl rfl (by decide +kernel) ⟨(Nat.le_of_ble_eq_true rfl), (Nat.le_of_ble_eq_true rfl)⟩) (preVd (RX4, TX4, 11) hE hP hD [0, 1, 2, 3] (by decide) rfl rfl) rfl rfl hl.1 rfl (lv_room (Nat.le_of_ble_eq_true rfl)) dX4_flip_31 ⟨(Nat.le_of_ble_eq_true rfl), (Nat.le_of_ble_eq_true rfl)⟩) hP hD hS [0, 1, 2, 3] [] 4 [m0, m1, m2, m3] [] rfl rfl rfl (fun _ => rfl) (fun _ => rfl) (fun _ => rfl) rfl (by decide) (fun _ H locs hr9 hP hD hS => ?_)
      refine lv_aload_n hx hb dX4_flip_34 rfl (lv_at hl 0 rfl) ?_
      refine va_get (D := g.1) (ci := 4) (v := .ref m1) (C := RX4) (T := TX4) (N := 11) hx hb hts in_X4_flip_X4 hown hK hP 0 rfl rfl 0 (by decide) (hts _ (List.mem_of_getElem? (i := 1) rfl)) (fun _ h9 => h9) rfl dX4_flip_35 ?_
      refine lv_bipush (v := 12) hx hb dX4_flip_38 (by decide) ?_
      refine lv_iload_n hx hb dX4_flip_40 rfl (lv_at hl 1 rfl) ?_
      refine lv_iadd hx hb dX4_flip_41 ?_
      refine lv_tope (y := (nI (12 + ke))) (show (12 + (nI ke) : Int32) = nI (12 + ke) from nI_add (12) (ke)) ?_
      refine lv_dup2_11 hx hb dX4_flip_42 rfl rfl ?_
      refine gIald (k := (12 + ke)) hx hb hE hP 1 rfl (by omega) (by omega) dX4_flip_43 ?_
      refine lv_iconst (v := 1) hx hb dX4_flip_44 (by decide) ?_
      refine lv_iload_n hx hb dX4_flip_45 rfl (lv_at hl 2 rfl) ?_
      refine lv_ishl hx hb dX4_flip_46 ?_
      refine lv_ixor hx hb dX4_flip_47 ?_
      refine gIast (k := (12 + ke)) (x := ((rw (12 + ke)) ^^^ ((1 : Int32) <<< (bt &&& 31)))) (wsn := [(m0, .inr (4, [.ref m1, .long ma, .ref m2, .ref m3, .int (nI (kcF np)), .ref m4, .int (nI ln), .int th, .ref m5, .int (nI at_), .long hs])), (m1, .inl (g.2.1 0, 523, .inl (upd rw (12 + ke) ((rw (12 + ke)) ^^^ ((1 : Int32) <<< (bt &&& 31)))))), (m2, .inl (g.2.1 0, 2092, .inl (svP pst np rw))), (m3, .inl (g.2.1 1, 4, .inr (.inl (svA pa np ma))))]) hx hb hE hP hD hS 1 rfl (by omega) (by omega) dX4_flip_48 (hw := rfl) (kk := fun H locs hP hD hS => ?_)
      refine lv_aload_n hx hb dX4_flip_49 rfl (lv_at hl 0 rfl) ?_
      refine lv_aload_n hx hb dX4_flip_50 rfl (lv_at hl 0 rfl) ?_
      refine va_get (D := g.1) (ci := 4) (v := .ref m1) (C := RX4) (T := TX4) (N := 11) hx hb hts in_X4_flip_X4 hown hK hP 0 rfl rfl 0 (by decide) (hts _ (List.mem_of_getElem? (i := 1) rfl)) (fun _ h9 => h9) rfl dX4_flip_51 ?_
      refine lv_bipush (v := 12) hx hb dX4_flip_54 (by decide) ?_
      refine lv_iload_n hx hb dX4_flip_56 rfl (lv_at hl 1 rfl) ?_
      refine lv_iadd hx hb dX4_flip_57 ?_
      refine lv_tope (y := (nI (12 + ke))) (show (12 + (nI ke) : Int32) = nI (12 + ke) from nI_add (12) (ke)) ?_
      refine gIald (k := (12 + ke)) hx hb hE hP 1 rfl (by omega) (by omega) dX4_flip_58 ?_
      refine lv_tope (y := (rw (12 + ke) ^^^ ((1 : Int32) <<< (bt &&& 31)))) pk_us ?_
      refine kUi (fun _ => [(m0, .inr (4, [.ref m1, .long ma, .ref m2, .ref m3, .int (nI ((kcF np))), .ref m4, .int (nI ln), .int 0, .ref m5, .int (nI at_), .long hs])), (m1, .inl (g.2.1 0, 523, .inl (upd rw (12 + ke) ((rw (12 + ke)) ^^^ ((1 : Int32) <<< (bt &&& 31)))))), (m2, .inl (g.2.1 0, 2092, .inl (svP pst np rw))), (m3, .inl (g.2.1 1, 4, .inr (.inl (svA pa np ma))))]) (va_runV (As := [.int (rw (12 + ke) ^^^ ((1 : Int32) <<< (bt &&& 31)))]) (rest := []) ⟨hx, hb, hml, hown, hts⟩ (c_X4_tells l g m0 m1 m2 m3 m4 m5 ma (kcF np) ln th at_ hs (rw (12 + ke) ^^^ ((1 : Int32) <<< (bt &&& 31)))) (cwV 1 hts gX4_flip_X4_tells rfl rfl rfl (by decide +kernel) ⟨(Nat.le_of_ble_eq_true rfl), (Nat.le_of_ble_eq_true rfl)⟩) (preVd (RX4, TX4, 11) hE hP hD [0] (by decide) rfl rfl) rfl rfl hl.1 rfl (lv_room (Nat.le_of_ble_eq_true rfl)) dX4_flip_59 ⟨(Nat.le_of_ble_eq_true rfl), (Nat.le_of_ble_eq_true rfl)⟩) hP hD hS [0] [1, 2, 3] 4 [m0, m1, m2, m3] [(m1, .inl (g.2.1 0, 523, .inl (upd rw (12 + ke) ((rw (12 + ke)) ^^^ ((1 : Int32) <<< (bt &&& 31)))))), (m2, .inl (g.2.1 0, 2092, .inl (svP pst np rw))), (m3, .inl (g.2.1 1, 4, .inr (.inl (svA pa np ma))))] rfl rfl rfl (fun _ => rfl) (fun _ => rfl) (fun _ => rfl) rfl (by decide) (fun r9 _ H locs hr9 hP hD hS => ?_)
      subst hr9
      subst hQ
      have hP9 : va_P g.1 vwCl [(m0, .inr (4, [.ref m1, .long ma, .ref m2, .ref m3, .int (nI (kcF np)), .ref m4, .int (nI ln), .int 0, .ref m5, .int (nI at_), .long hs])), (m1, .inl (g.2.1 0, 523, .inl (upd rw (12 + tn (nI ke)) (rw (12 + tn (nI ke)) ^^^ ((1 : Int32) <<< (bt &&& 31)))))), (m2, .inl (g.2.1 0, 2092, .inl (svP pst np rw))), (m3, .inl (g.2.1 1, 4, .inr (.inl (svA pa np ma))))] H := by rw [tn_nI (n := ke) (by omega)]; exact hP
      exact W.iret (v := (rw (12 + ke) ^^^ ((1 : Int32) <<< (bt &&& 31)))) hx hb hr (fun t ht hW => ⟨⟨(rw (12 + ke) ^^^ ((1 : Int32) <<< (bt &&& 31))), none, rfl, Or.inl ⟨rfl, ⟨b5, b21⟩, by rw [tn_nI (n := ke) (by omega)]⟩, by show va_P g.1 vwCl _ t.heap; rw [ht]; exact hP9⟩, hS.F ht⟩) hS.2.2 dX4_flip_62
    · have b21 : ¬ (okR 0 16 bt) := bz_f c21
      refine lv_aload_n hx hb dX4_flip_24 rfl (lv_at hl 0 rfl) ?_
      refine lv_iconst (v := 2) hx hb dX4_flip_25 (by decide) ?_
      refine kUi (fun _ => [(m0, .inr (4, [.ref m1, .long ma, .ref m2, .ref m3, .int (nI np), .ref m4, .int (nI ln), .int 2, .ref m5, .int (nI at_), .long hs])), (m1, .inl (g.2.1 0, 523, .inl rw)), (m2, .inl (g.2.1 0, 2092, .inl pst)), (m3, .inl (g.2.1 1, 4, .inr (.inl pa)))]) (va_runV (As := [.int 2]) (rest := []) ⟨hx, hb, hml, hown, hts⟩ (c_X4_fails l g m0 m1 m2 m3 m4 m5 ma np ln th at_ hs 2) (cwV 1 hts gX4_flip_X4_fails rfl rfl rfl (by decide +kernel) ⟨(Nat.le_of_ble_eq_true rfl), (Nat.le_of_ble_eq_true rfl)⟩) (preVd (RX4, TX4, 11) hE hP hD [0] (by decide) rfl rfl) rfl rfl hl.1 rfl (lv_room (Nat.le_of_ble_eq_true rfl)) dX4_flip_26 ⟨(Nat.le_of_ble_eq_true rfl), (Nat.le_of_ble_eq_true rfl)⟩) hP hD hS [0] [1, 2, 3] 4 [m0, m1, m2, m3] [(m1, .inl (g.2.1 0, 523, .inl rw)), (m2, .inl (g.2.1 0, 2092, .inl pst)), (m3, .inl (g.2.1 1, 4, .inr (.inl pa)))] rfl rfl rfl (fun _ => rfl) (fun _ => rfl) (fun _ => rfl) rfl (by decide) (fun r9 _ H locs hr9 hP hD hS => ?_)
      subst hr9
      subst hQ
      have hP9 : va_P g.1 vwCl [(m0, .inr (4, [.ref m1, .long ma, .ref m2, .ref m3, .int (nI np), .ref m4, .int (nI ln), .int 2, .ref m5, .int (nI at_), .long hs])), (m1, .inl (g.2.1 0, 523, .inl rw)), (m2, .inl (g.2.1 0, 2092, .inl pst)), (m3, .inl (g.2.1 1, 4, .inr (.inl pa)))] H := hP
      exact W.iret (v := 0) hx hb hr (fun t ht hW => ⟨⟨0, (some 2), rfl, Or.inr (Or.inr ⟨rfl, b5, b21⟩), by show va_P g.1 vwCl _ t.heap; rw [ht]; exact hP9⟩, hS.F ht⟩) hS.2.2 dX4_flip_29
  · have b5 : ¬ (okE w ev) := bz_f c5
    refine lv_aload_n hx hb dX4_flip_8 rfl (lv_at hl 0 rfl) ?_
    refine lv_iconst (v := 1) hx hb dX4_flip_9 (by decide) ?_
    refine kUi (fun _ => [(m0, .inr (4, [.ref m1, .long ma, .ref m2, .ref m3, .int (nI np), .ref m4, .int (nI ln), .int 1, .ref m5, .int (nI at_), .long hs])), (m1, .inl (g.2.1 0, 523, .inl rw)), (m2, .inl (g.2.1 0, 2092, .inl pst)), (m3, .inl (g.2.1 1, 4, .inr (.inl pa)))]) (va_runV (As := [.int 1]) (rest := []) ⟨hx, hb, hml, hown, hts⟩ (c_X4_fails l g m0 m1 m2 m3 m4 m5 ma np ln th at_ hs 1) (cwV 1 hts gX4_flip_X4_fails rfl rfl rfl (by decide +kernel) ⟨(Nat.le_of_ble_eq_true rfl), (Nat.le_of_ble_eq_true rfl)⟩) (preVd (RX4, TX4, 11) hE hP hD [0] (by decide) rfl rfl) rfl rfl hl.1 rfl (lv_room (Nat.le_of_ble_eq_true rfl)) dX4_flip_10 ⟨(Nat.le_of_ble_eq_true rfl), (Nat.le_of_ble_eq_true rfl)⟩) hP hD hS [0] [1, 2, 3] 4 [m0, m1, m2, m3] [(m1, .inl (g.2.1 0, 523, .inl rw)), (m2, .inl (g.2.1 0, 2092, .inl pst)), (m3, .inl (g.2.1 1, 4, .inr (.inl pa)))] rfl rfl rfl (fun _ => rfl) (fun _ => rfl) (fun _ => rfl) rfl (by decide) (fun r9 _ H locs hr9 hP hD hS => ?_)
    subst hr9
    subst hQ
    have hP9 : va_P g.1 vwCl [(m0, .inr (4, [.ref m1, .long ma, .ref m2, .ref m3, .int (nI np), .ref m4, .int (nI ln), .int 1, .ref m5, .int (nI at_), .long hs])), (m1, .inl (g.2.1 0, 523, .inl rw)), (m2, .inl (g.2.1 0, 2092, .inl pst)), (m3, .inl (g.2.1 1, 4, .inr (.inl pa)))] H := hP
    exact W.iret (v := 0) hx hb hr (fun t ht hW => ⟨⟨0, (some 1), rfl, Or.inr (Or.inl ⟨rfl, b5⟩), by show va_P g.1 vwCl _ t.heap; rw [ht]; exact hP9⟩, hS.F ht⟩) hS.2.2 dX4_flip_13
theorem in_X4_repair_X4 : ∀ w ∈ wsX40, w ∈ wsX4_repair := by decide +kernel
abbrev rm_X4_repair : Room := { frames := 3, cells := 0, slots := 0, locals := 61 }
set_option maxRecDepth 100000 in
set_option maxHeartbeats 4000000 in
theorem c_X4_repair (l : Launch) (g : GT) (m0 : Nat) (m1 : Nat) (m2 : Nat) (m3 : Nat) (m4 : Nat) (m5 : Nat) (ma : Int64) (np : Nat) (ln : Nat) (th : Int32) (at_ : Nat) (hs : Int64) (rw : Nat → Int32) (w : Nat) (pst : Nat → Int32) (pa : Nat → Int64) (ev : Int32) (hw8 : w ≤ 8) (hrw : rw 0 = nI w) (hnp : np ≤ 4) : cUi l g yX4_repair wsX4_repair rm_X4_repair [.ref m0, .int ev] [(m0, .inr (4, [.ref m1, .long ma, .ref m2, .ref m3, .int (nI np), .ref m4, .int (nI ln), .int th, .ref m5, .int (nI at_), .long hs])), (m1, .inl (g.2.1 0, 523, .inl rw)), (m2, .inl (g.2.1 0, 2092, .inl pst)), (m3, .inl (g.2.1 1, 4, .inr (.inl pa)))] (fun r (ub : Option Int32) => (ub = none ∧ (okE w ev) ∧ r = mwF rw (tn ev)) ∨ (ub = some 1 ∧ ¬ okE w ev)) (fun ub => Option.elim ub [(m0, .inr (4, [.ref m1, .long ma, .ref m2, .ref m3, .int (nI (kcF np)), .ref m4, .int (nI ln), .int 0, .ref m5, .int (nI at_), .long hs])), (m1, .inl (g.2.1 0, 523, .inl (upd rw (12 + tn ev) (tv (tn ev))))), (m2, .inl (g.2.1 0, 2092, .inl (svP pst np rw))), (m3, .inl (g.2.1 1, 4, .inr (.inl (svA pa np ma))))] (fun tq => [(m0, .inr (4, [.ref m1, .long ma, .ref m2, .ref m3, .int (nI np), .ref m4, .int (nI ln), .int tq, .ref m5, .int (nI at_), .long hs])), (m1, .inl (g.2.1 0, 523, .inl rw)), (m2, .inl (g.2.1 0, 2092, .inl pst)), (m3, .inl (g.2.1 1, 4, .inr (.inl pa)))])) := by
  refine enU (y := yX4_repair) (ws := wsX4_repair) (av := [.ref m0, .int ev]) (cc := cX4_repair) (maxL := 3) (ret := (some .int)) (by decide) rfl (Nat.le_of_ble_eq_true rfl) rfl ?_
  intro p e s m below meth c ls hx hb hr hml hown hts hlocks hE hP hD hl
  have hK := hE.1
  have hS : va_S (va_Ad [(m0, .inr (4, [.ref m1, .long ma, .ref m2, .ref m3, .int (nI np), .ref m4, .int (nI ln), .int th, .ref m5, .int (nI at_), .long hs])), (m1, .inl (g.2.1 0, 523, .inl rw)), (m2, .inl (g.2.1 0, 2092, .inl pst)), (m3, .inl (g.2.1 1, 4, .inr (.inl pa)))]) s.heap s.heap [] := va_S.rf
  generalize hQ : MQ below _ _ s _ _ _ = Q9
  have hl : lv_has ls 3 [(0, .ref m0), (1, .int ev)] := hl
  have hgr := gr_le w hw8
  have hen := ents_le w hw8
  refine lv_aload_n hx hb dX4_repair_0 rfl (lv_at hl 0 rfl) ?_
  refine lv_iload_n hx hb dX4_repair_1 rfl (lv_at hl 1 rfl) ?_
  refine kRi (va_runV (As := [.int ev]) (rest := []) ⟨hx, hb, hml, hown, hts⟩ (c_X4_isEntry l g m0 m1 m2 m3 m4 m5 ma np ln th at_ hs rw w ev (by first | assumption | omega | exact Nat.le_of_ble_eq_true rfl) (by first | assumption | omega | exact Nat.le_of_ble_eq_true rfl)) (cwV 1 hts gX4_repair_X4_isEntry rfl rfl rfl (by decide +kernel) ⟨(Nat.le_of_ble_eq_true rfl), (Nat.le_of_ble_eq_true rfl)⟩) (preV (RX4, TX4, 11) hE hP [0, 1] rfl rfl) rfl rfl hl.1 rfl (lv_room (Nat.le_of_ble_eq_true rfl)) dX4_repair_2 ⟨(Nat.le_of_ble_eq_true rfl), (Nat.le_of_ble_eq_true rfl)⟩) hP hS (fun r9 H locs hr9 hP hS => ?_)
  subst hr9
  refine lv_if_ne (tgt := 14) hx hb dX4_repair_5 (by decide) (fun c5 => ?_) (fun c5 => ?_)
  · have b5 : okE w ev := bz_t c5
    obtain ⟨ke, hke, rfl⟩ := en_of hw8 b5
    refine lv_aload_n hx hb dX4_repair_14 rfl (lv_at hl 0 rfl) ?_
    refine kUv (fun _ => [(m0, .inr (4, [.ref m1, .long ma, .ref m2, .ref m3, .int (nI (kcF np)), .ref m4, .int (nI ln), .int th, .ref m5, .int (nI at_), .long hs])), (m1, .inl (g.2.1 0, 523, .inl rw)), (m2, .inl (g.2.1 0, 2092, .inl (svP pst np rw))), (m3, .inl (g.2.1 1, 4, .inr (.inl (svA pa np ma))))]) (va_runV (As := []) (rest := []) ⟨hx, hb, hml, hown, hts⟩ (c_X4_save l g m0 m1 m2 m3 m4 m5 ma np ln th at_ hs rw w pst pa (by first | assumption | omega | exact Nat.le_of_ble_eq_true rfl)) (cwV 0 hts gX4_repair_X4_save rfl rfl rfl (by decide +kernel) ⟨(Nat.le_of_ble_eq_true rfl), (Nat.le_of_ble_eq_true rfl)⟩) (preVd (RX4, TX4, 11) hE hP hD [0, 1, 2, 3] (by decide) rfl rfl) rfl rfl hl.1 rfl (lv_room (Nat.le_of_ble_eq_true rfl)) dX4_repair_15 ⟨(Nat.le_of_ble_eq_true rfl), (Nat.le_of_ble_eq_true rfl)⟩) hP hD hS [0, 1, 2, 3] [] 4 [m0, m1, m2, m3] [] rfl rfl rfl (fun _ => rfl) (fun _ => rfl) (fun _ => rfl) rfl (by decide) (fun _ H locs hr9 hP hD hS => ?_)
    refine lv_aload_n hx hb dX4_repair_18 rfl (lv_at hl 0 rfl) ?_
    refine lv_iload_n hx hb dX4_repair_19 rfl (lv_at hl 1 rfl) ?_
    refine kRi (va_runV (As := [.int (nI ke)]) (rest := []) ⟨hx, hb, hml, hown, hts⟩ (c_X4_wrongBits l g m0 m1 m2 m3 m4 m5 ma (kcF np) ln th at_ hs rw w ke (by first | assumption | omega | exact Nat.le_of_ble_eq_true rfl)) (cwV 1 hts gX4_repair_X4_wrongBits rfl rfl rfl (by decide +kernel) ⟨(Nat.le_of_ble_eq_true rfl), (Nat.le_of_ble_eq_true rfl)⟩) (preV (RX4, TX4, 11) hE hP [0, 1] rfl rfl) rfl rfl hl.1 rfl (lv_room (Nat.le_of_ble_eq_true rfl)) dX4_repair_20 ⟨(Nat.le_of_ble_eq_true rfl), (Nat.le_of_ble_eq_true rfl)⟩) hP hS (fun r9 H locs hr9 hP hS => ?_)
    subst hr9
    refine lv_istore_n (lv' := [(2, .int (mwF rw ke)), (0, .ref m0), (1, .int (nI ke))]) hx hb dX4_repair_23 rfl hl (by decide) rfl (fun ls hl => ?_)
    refine lv_aload_n hx hb dX4_repair_24 rfl (lv_at hl 1 rfl) ?_
    refine va_get (D := g.1) (ci := 4) (v := .ref m1) (C := RX4) (T := TX4) (N := 11) hx hb hts in_X4_repair_X4 hown hK hP 0 rfl rfl 0 (by decide) (hts _ (List.mem_of_getElem? (i := 1) rfl)) (fun _ h9 => h9) rfl dX4_repair_25 ?_
    refine lv_bipush (v := 12) hx hb dX4_repair_28 (by decide) ?_
    refine lv_iload_n hx hb dX4_repair_30 rfl (lv_at hl 2 rfl) ?_
    refine lv_iadd hx hb dX4_repair_31 ?_
    refine lv_tope (y := (nI (12 + ke))) (show (12 + (nI ke) : Int32) = nI (12 + ke) from nI_add (12) (ke)) ?_
    refine lv_iload_n hx hb dX4_repair_32 rfl (lv_at hl 2 rfl) ?_
    refine kRi (va_runS (As := [.int (nI ke)]) (rest := [.int (nI (12 + ke)), .ref m1]) ⟨hx, hb, hml, hown, hts⟩ (c_X4_truth l g ke (by first | assumption | omega | exact Nat.le_of_ble_eq_true rfl)) (va_cwS 1 hts gX4_repair_X4_truth rfl rfl rfl (by decide +kernel) ⟨(Nat.le_of_ble_eq_true rfl), (Nat.le_of_ble_eq_true rfl)⟩) (preS hE hP [] rfl) rfl rfl hl.1 rfl (lv_room (Nat.le_of_ble_eq_true rfl)) dX4_repair_33 ⟨(Nat.le_of_ble_eq_true rfl), (Nat.le_of_ble_eq_true rfl)⟩) hP hS (fun r9 H locs hr9 hP hS => ?_)
    subst hr9
    refine gIast (k := (12 + ke)) (x := (tv ke)) (wsn := [(m0, .inr (4, [.ref m1, .long ma, .ref m2, .ref m3, .int (nI (kcF np)), .ref m4, .int (nI ln), .int th, .ref m5, .int (nI at_), .long hs])), (m1, .inl (g.2.1 0, 523, .inl (upd rw (12 + ke) (tv ke)))), (m2, .inl (g.2.1 0, 2092, .inl (svP pst np rw))), (m3, .inl (g.2.1 1, 4, .inr (.inl (svA pa np ma))))]) hx hb hE hP hD hS 1 rfl (by omega) (by omega) dX4_repair_36 (hw := rfl) (kk := fun H locs hP hD hS => ?_)
    refine lv_aload_n hx hb dX4_repair_37 rfl (lv_at hl 1 rfl) ?_
    refine lv_iload_n hx hb dX4_repair_38 rfl (lv_at hl 0 rfl) ?_
    refine kUi (fun _ => [(m0, .inr (4, [.ref m1, .long ma, .ref m2, .ref m3, .int (nI ((kcF np))), .ref m4, .int (nI ln), .int 0, .ref m5, .int (nI at_), .long hs])), (m1, .inl (g.2.1 0, 523, .inl (upd rw (12 + ke) (tv ke)))), (m2, .inl (g.2.1 0, 2092, .inl (svP pst np rw))), (m3, .inl (g.2.1 1, 4, .inr (.inl (svA pa np ma))))]) (va_runV (As := [.int (mwF rw ke)]) (rest := []) ⟨hx, hb, hml, hown, hts⟩ (c_X4_tells l g m0 m1 m2 m3 m4 m5 ma (kcF np) ln th at_ hs (mwF rw ke)) (cwV 1 hts gX4_repair_X4_tells rfl rfl rfl (by decide +kernel) ⟨(Nat.le_of_ble_eq_true rfl), (Nat.le_of_ble_eq_true rfl)⟩) (preVd (RX4, TX4, 11) hE hP hD [0] (by decide) rfl rfl) rfl rfl hl.1 rfl (lv_room (Nat.le_of_ble_eq_true rfl)) dX4_repair_39 ⟨(Nat.le_of_ble_eq_true rfl), (Nat.le_of_ble_eq_true rfl)⟩) hP hD hS [0] [1, 2, 3] 4 [m0, m1, m2, m3] [(m1, .inl (g.2.1 0, 523, .inl (upd rw (12 + ke) (tv ke)))), (m2, .inl (g.2.1 0, 2092, .inl (svP pst np rw))), (m3, .inl (g.2.1 1, 4, .inr (.inl (svA pa np ma))))] rfl rfl rfl (fun _ => rfl) (fun _ => rfl) (fun _ => rfl) rfl (by decide) (fun r9 _ H locs hr9 hP hD hS => ?_)
    subst hr9
    subst hQ
    have hP9 : va_P g.1 vwCl [(m0, .inr (4, [.ref m1, .long ma, .ref m2, .ref m3, .int (nI (kcF np)), .ref m4, .int (nI ln), .int 0, .ref m5, .int (nI at_), .long hs])), (m1, .inl (g.2.1 0, 523, .inl (upd rw (12 + tn (nI ke)) (tv (tn (nI ke)))))), (m2, .inl (g.2.1 0, 2092, .inl (svP pst np rw))), (m3, .inl (g.2.1 1, 4, .inr (.inl (svA pa np ma))))] H := by rw [tn_nI (n := ke) (by omega)]; exact hP
    exact W.iret (v := (mwF rw ke)) hx hb hr (fun t ht hW => ⟨⟨(mwF rw ke), none, rfl, Or.inl ⟨rfl, b5, by rw [tn_nI (n := ke) (by omega)]⟩, by show va_P g.1 vwCl _ t.heap; rw [ht]; exact hP9⟩, hS.F ht⟩) hS.2.2 dX4_repair_42
  · have b5 : ¬ (okE w ev) := bz_f c5
    refine lv_aload_n hx hb dX4_repair_8 rfl (lv_at hl 0 rfl) ?_
    refine lv_iconst (v := 1) hx hb dX4_repair_9 (by decide) ?_
    refine kUi (fun _ => [(m0, .inr (4, [.ref m1, .long ma, .ref m2, .ref m3, .int (nI np), .ref m4, .int (nI ln), .int 1, .ref m5, .int (nI at_), .long hs])), (m1, .inl (g.2.1 0, 523, .inl rw)), (m2, .inl (g.2.1 0, 2092, .inl pst)), (m3, .inl (g.2.1 1, 4, .inr (.inl pa)))]) (va_runV (As := [.int 1]) (rest := []) ⟨hx, hb, hml, hown, hts⟩ (c_X4_fails l g m0 m1 m2 m3 m4 m5 ma np ln th at_ hs 1) (cwV 1 hts gX4_repair_X4_fails rfl rfl rfl (by decide +kernel) ⟨(Nat.le_of_ble_eq_true rfl), (Nat.le_of_ble_eq_true rfl)⟩) (preVd (RX4, TX4, 11) hE hP hD [0] (by decide) rfl rfl) rfl rfl hl.1 rfl (lv_room (Nat.le_of_ble_eq_true rfl)) dX4_repair_10 ⟨(Nat.le_of_ble_eq_true rfl), (Nat.le_of_ble_eq_true rfl)⟩) hP hD hS [0] [1, 2, 3] 4 [m0, m1, m2, m3] [(m1, .inl (g.2.1 0, 523, .inl rw)), (m2, .inl (g.2.1 0, 2092, .inl pst)), (m3, .inl (g.2.1 1, 4, .inr (.inl pa)))] rfl rfl rfl (fun _ => rfl) (fun _ => rfl) (fun _ => rfl) rfl (by decide) (fun r9 _ H locs hr9 hP hD hS => ?_)
    subst hr9
    subst hQ
    have hP9 : va_P g.1 vwCl [(m0, .inr (4, [.ref m1, .long ma, .ref m2, .ref m3, .int (nI np), .ref m4, .int (nI ln), .int 1, .ref m5, .int (nI at_), .long hs])), (m1, .inl (g.2.1 0, 523, .inl rw)), (m2, .inl (g.2.1 0, 2092, .inl pst)), (m3, .inl (g.2.1 1, 4, .inr (.inl pa)))] H := hP
    exact W.iret (v := 0) hx hb hr (fun t ht hW => ⟨⟨0, (some 1), rfl, Or.inr ⟨rfl, b5⟩, by show va_P g.1 vwCl _ t.heap; rw [ht]; exact hP9⟩, hS.F ht⟩) hS.2.2 dX4_repair_13
theorem in_X4_repairByParity_X4 : ∀ w ∈ wsX40, w ∈ wsX4_repairByParity := by decide +kernel
abbrev rm_X4_repairByParity : Room := { frames := 3, cells := 0, slots := 0, locals := 64 }
set_option maxRecDepth 100000 in
set_option maxHeartbeats 4000000 in
theorem c_X4_repairByParity (l : Launch) (g : GT) (m0 : Nat) (m1 : Nat) (m2 : Nat) (m3 : Nat) (m4 : Nat) (m5 : Nat) (ma : Int64) (np : Nat) (ln : Nat) (th : Int32) (at_ : Nat) (hs : Int64) (rw : Nat → Int32) (w : Nat) (pst : Nat → Int32) (pa : Nat → Int64) (hw8 : w ≤ 8) (hrw : rw 0 = nI w) (hnp : np ≤ 4) : cUi l g yX4_repairByParity wsX4_repairByParity rm_X4_repairByParity [.ref m0] [(m0, .inr (4, [.ref m1, .long ma, .ref m2, .ref m3, .int (nI np), .ref m4, .int (nI ln), .int th, .ref m5, .int (nI at_), .long hs])), (m1, .inl (g.2.1 0, 523, .inl rw)), (m2, .inl (g.2.1 0, 2092, .inl pst)), (m3, .inl (g.2.1 1, 4, .inr (.inl pa)))] (fun r (_ : Unit) => r = (sI (mfF rw) (ents w))) (fun _ => [(m0, .inr (4, [.ref m1, .long ma, .ref m2, .ref m3, .int (nI (kcF np)), .ref m4, .int (nI ln), .int 0, .ref m5, .int (nI at_), .long hs])), (m1, .inl (g.2.1 0, 523, .inl (mrpF rw (ents w)))), (m2, .inl (g.2.1 0, 2092, .inl (svP pst np rw))), (m3, .inl (g.2.1 1, 4, .inr (.inl (svA pa np ma))))]) := by
  refine enU (y := yX4_repairByParity) (ws := wsX4_repairByParity) (av := [.ref m0]) (cc := cX4_repairByParity) (maxL := 3) (ret := (some .int)) (by decide) rfl (Nat.le_of_ble_eq_true rfl) rfl ?_
  intro p e s m below meth c ls hx hb hr hml hown hts hlocks hE hP hD hl
  have hK := hE.1
  have hS : va_S (va_Ad [(m0, .inr (4, [.ref m1, .long ma, .ref m2, .ref m3, .int (nI np), .ref m4, .int (nI ln), .int th, .ref m5, .int (nI at_), .long hs])), (m1, .inl (g.2.1 0, 523, .inl rw)), (m2, .inl (g.2.1 0, 2092, .inl pst)), (m3, .inl (g.2.1 1, 4, .inr (.inl pa)))]) s.heap s.heap [] := va_S.rf
  generalize hQ : MQ below _ _ s _ _ _ = Q9
  have hl : lv_has ls 3 [(0, .ref m0)] := hl
  have hgr := gr_le w hw8
  have hen := ents_le w hw8
  refine lv_aload_n hx hb dX4_repairByParity_0 rfl (lv_at hl 0 rfl) ?_
  refine kUv (fun _ => [(m0, .inr (4, [.ref m1, .long ma, .ref m2, .ref m3, .int (nI (kcF np)), .ref m4, .int (nI ln), .int th, .ref m5, .int (nI at_), .long hs])), (m1, .inl (g.2.1 0, 523, .inl rw)), (m2, .inl (g.2.1 0, 2092, .inl (svP pst np rw))), (m3, .inl (g.2.1 1, 4, .inr (.inl (svA pa np ma))))]) (va_runV (As := []) (rest := []) ⟨hx, hb, hml, hown, hts⟩ (c_X4_save l g m0 m1 m2 m3 m4 m5 ma np ln th at_ hs rw w pst pa (by first | assumption | omega | exact Nat.le_of_ble_eq_true rfl)) (cwV 0 hts gX4_repairByParity_X4_save rfl rfl rfl (by decide +kernel) ⟨(Nat.le_of_ble_eq_true rfl), (Nat.le_of_ble_eq_true rfl)⟩) (preVd (RX4, TX4, 11) hE hP hD [0, 1, 2, 3] (by decide) rfl rfl) rfl rfl hl.1 rfl (lv_room (Nat.le_of_ble_eq_true rfl)) dX4_repairByParity_1 ⟨(Nat.le_of_ble_eq_true rfl), (Nat.le_of_ble_eq_true rfl)⟩) hP hD hS [0, 1, 2, 3] [] 4 [m0, m1, m2, m3] [] rfl rfl rfl (fun _ => rfl) (fun _ => rfl) (fun _ => rfl) rfl (by decide) (fun _ H locs hr9 hP hD hS => ?_)
  refine lv_iconst (v := 0) hx hb dX4_repairByParity_4 (by decide) ?_
  refine lv_istore_n (lv' := [(1, .int 0), (0, .ref m0)]) hx hb dX4_repairByParity_5 rfl hl (by decide) rfl (fun ls hl => ?_)
  refine lv_iconst (v := 0) hx hb dX4_repairByParity_6 (by decide) ?_
  refine lv_istore_n (lv' := [(2, .int 0), (1, .int 0), (0, .ref m0)]) hx hb dX4_repairByParity_7 rfl hl (by decide) rfl (fun ls hl => ?_)
  have lp8 : ∀ (n9 : Nat) (i : Nat), ents w - i < n9 → (i ≤ ents w) → ∀ (z1 : Int32), z1 = sI (mfF rw) i → ∀ (f9 : Nat → Int32), f9 = mrpF rw i → ∀ (H : Heap) (locs : List Loc), va_P g.1 vwCl [(m0, .inr (4, [.ref m1, .long ma, .ref m2, .ref m3, .int (nI (kcF np)), .ref m4, .int (nI ln), .int th, .ref m5, .int (nI at_), .long hs])), (m1, .inl (g.2.1 0, 523, .inl f9)), (m2, .inl (g.2.1 0, 2092, .inl (svP pst np rw))), (m3, .inl (g.2.1 1, 4, .inr (.inl (svA pa np ma))))] H → va_D (va_Ad [(m0, .inr (4, [.ref m1, .long ma, .ref m2, .ref m3, .int (nI np), .ref m4, .int (nI ln), .int th, .ref m5, .int (nI at_), .long hs])), (m1, .inl (g.2.1 0, 523, .inl rw)), (m2, .inl (g.2.1 0, 2092, .inl pst)), (m3, .inl (g.2.1 1, 4, .inr (.inl pa)))]) [(m0, .inr (4, [.ref m1, .long ma, .ref m2, .ref m3, .int (nI (kcF np)), .ref m4, .int (nI ln), .int th, .ref m5, .int (nI at_), .long hs])), (m1, .inl (g.2.1 0, 523, .inl f9)), (m2, .inl (g.2.1 0, 2092, .inl (svP pst np rw))), (m3, .inl (g.2.1 1, 4, .inr (.inl (svA pa np ma))))] → va_S (va_Ad [(m0, .inr (4, [.ref m1, .long ma, .ref m2, .ref m3, .int (nI np), .ref m4, .int (nI ln), .int th, .ref m5, .int (nI at_), .long hs])), (m1, .inl (g.2.1 0, 523, .inl rw)), (m2, .inl (g.2.1 0, 2092, .inl pst)), (m3, .inl (g.2.1 1, 4, .inr (.inl pa)))]) s.heap H locs → ∀ (ls : Array Slot), lv_has ls 3 [(2, .int (nI i)), (1, .int z1), (0, .ref m0)] → W p l e rm_X4_repairByParity s m [Value.ref m0].toArray below meth c H locs 0 0 Q9 (F0 m 8 ls []) := by
    intro n9
    induction n9 with
    | zero => intro i h9; exact absurd h9 (Nat.not_lt_zero _)
    | succ n9 ih8 =>
      intro i hm8 hi
      intro z1 e_z1; subst e_z1
      intro f9 e_f9; subst e_f9
      intro H locs hP hD hS ls hl
      have hrw9 : mrpF rw i 0 = nI w := mrp_w hrw
      refine lv_iload_n hx hb dX4_repairByParity_8 rfl (lv_at hl 0 rfl) ?_
      refine lv_aload_n hx hb dX4_repairByParity_9 rfl (lv_at hl 2 rfl) ?_
      refine kRi (va_runV (As := []) (rest := [.int (nI i)]) ⟨hx, hb, hml, hown, hts⟩ (c_X4_entries l g m0 m1 m2 m3 m4 m5 ma (kcF np) ln th at_ hs (mrpF rw i) w (by first | assumption | omega | exact Nat.le_of_ble_eq_true rfl) (by first | assumption | omega | exact Nat.le_of_ble_eq_true rfl)) (cwV 0 hts gX4_repairByParity_X4_entries rfl rfl rfl (by decide +kernel) ⟨(Nat.le_of_ble_eq_true rfl), (Nat.le_of_ble_eq_true rfl)⟩) (preV (RX4, TX4, 11) hE hP [0, 1] rfl rfl) rfl rfl hl.1 rfl (lv_room (Nat.le_of_ble_eq_true rfl)) dX4_repairByParity_10 ⟨(Nat.le_of_ble_eq_true rfl), (Nat.le_of_ble_eq_true rfl)⟩) hP hS (fun r9 H locs hr9 hP hS => ?_)
      subst hr9
      refine lv_icmp_ge (tgt := 46) hx hb dX4_repairByParity_13 (by decide) (fun c13 => ?_) (fun c13 => ?_)
      · have n13 : ents w ≤ i := (nI_leI (a := ents w) (b := i) (by omega) (by omega)).mp c13
        have e9 : i = ents w := by omega
        refine lv_aload_n hx hb dX4_repairByParity_46 rfl (lv_at hl 2 rfl) ?_
        refine lv_iload_n hx hb dX4_repairByParity_47 rfl (lv_at hl 1 rfl) ?_
        refine kUi (fun _ => [(m0, .inr (4, [.ref m1, .long ma, .ref m2, .ref m3, .int (nI ((kcF np))), .ref m4, .int (nI ln), .int 0, .ref m5, .int (nI at_), .long hs])), (m1, .inl (g.2.1 0, 523, .inl (mrpF rw i))), (m2, .inl (g.2.1 0, 2092, .inl (svP pst np rw))), (m3, .inl (g.2.1 1, 4, .inr (.inl (svA pa np ma))))]) (va_runV (As := [.int (sI (mfF rw) i)]) (rest := []) ⟨hx, hb, hml, hown, hts⟩ (c_X4_tells l g m0 m1 m2 m3 m4 m5 ma (kcF np) ln th at_ hs (sI (mfF rw) i)) (cwV 1 hts gX4_repairByParity_X4_tells rfl rfl rfl (by decide +kernel) ⟨(Nat.le_of_ble_eq_true rfl), (Nat.le_of_ble_eq_true rfl)⟩) (preVd (RX4, TX4, 11) hE hP hD [0] (by decide) rfl rfl) rfl rfl hl.1 rfl (lv_room (Nat.le_of_ble_eq_true rfl)) dX4_repairByParity_48 ⟨(Nat.le_of_ble_eq_true rfl), (Nat.le_of_ble_eq_true rfl)⟩) hP hD hS [0] [1, 2, 3] 4 [m0, m1, m2, m3] [(m1, .inl (g.2.1 0, 523, .inl (mrpF rw i))), (m2, .inl (g.2.1 0, 2092, .inl (svP pst np rw))), (m3, .inl (g.2.1 1, 4, .inr (.inl (svA pa np ma))))] rfl rfl rfl (fun _ => rfl) (fun _ => rfl) (fun _ => rfl) rfl (by decide) (fun r9 _ H locs hr9 hP hD hS => ?_)
        subst hr9
        subst hQ
        have hP9 : va_P g.1 vwCl [(m0, .inr (4, [.ref m1, .long ma, .ref m2, .ref m3, .int (nI (kcF np)), .ref m4, .int (nI ln), .int 0, .ref m5, .int (nI at_), .long hs])), (m1, .inl (g.2.1 0, 523, .inl (mrpF rw (ents w)))), (m2, .inl (g.2.1 0, 2092, .inl (svP pst np rw))), (m3, .inl (g.2.1 1, 4, .inr (.inl (svA pa np ma))))] H := by rw [e9] at hP; exact hP
        exact W.iret (v := (sI (mfF rw) i)) hx hb hr (fun t ht hW => ⟨⟨(sI (mfF rw) i), (), rfl, by rw [e9], by show va_P g.1 vwCl _ t.heap; rw [ht]; exact hP9⟩, hS.F ht⟩) hS.2.2 dX4_repairByParity_51
      · have n13 : i < ents w := Nat.lt_of_not_le (fun h9 => c13 ((nI_leI (a := ents w) (b := i) (by omega) (by omega)).mpr h9))
        refine lv_aload_n hx hb dX4_repairByParity_16 rfl (lv_at hl 2 rfl) ?_
        refine lv_iload_n hx hb dX4_repairByParity_17 rfl (lv_at hl 0 rfl) ?_
        refine kRi (va_runV (As := [.int (nI i)]) (rest := []) ⟨hx, hb, hml, hown, hts⟩ (c_X4_isFound l g m0 m1 m2 m3 m4 m5 ma (kcF np) ln th at_ hs (mrpF rw i) w i (by first | assumption | omega | exact Nat.le_of_ble_eq_true rfl)) (cwV 1 hts gX4_repairByParity_X4_isFound rfl rfl rfl (by decide +kernel) ⟨(Nat.le_of_ble_eq_true rfl), (Nat.le_of_ble_eq_true rfl)⟩) (preV (RX4, TX4, 11) hE hP [0, 1] rfl rfl) rfl rfl hl.1 rfl (lv_room (Nat.le_of_ble_eq_true rfl)) dX4_repairByParity_18 ⟨(Nat.le_of_ble_eq_true rfl), (Nat.le_of_ble_eq_true rfl)⟩) hP hS (fun r9 H locs hr9 hP hS => ?_)
        subst hr9
        refine lv_if_eq (tgt := 40) hx hb dX4_repairByParity_21 (by decide) (fun c21 => ?_) (fun c21 => ?_)
        · have b21 : ¬ (fdP (mwF (mrpF rw i) i)) := bz_f c21
          refine lv_iinc (v := (nI (i + 1))) (lv' := [(2, .int (nI (i + 1))), (1, .int (sI (mfF rw) i)), (0, .ref m0)]) hx hb dX4_repairByParity_40 hl (k := 0) rfl (nI_add (i) 1) (by decide) rfl (fun ls hl => ?_)
          refine lv_goto (tgt := 8) hx hb dX4_repairByParity_43 (by decide) ?_
          exact ih8 (i + 1) (by omega) (by omega) (sI (mfF rw) i) (by first | (show _ = sI (mfF rw) i + mfF rw i; rw [mfF, if_pos (mrp_t b21)]) | (show _ = sI (mfF rw) i + mfF rw i; rw [mfF, if_neg (fun h => b21 (mrp_b h)), Int32.add_zero])) (mrpF rw i) (by first | exact mrp_put (mrp_t b21) | exact mrp_keep (fun h => b21 (mrp_b h))) _ _ hP hD hS _ (lv_sub hl [0, 1, 2] rfl)
        · have b21 : fdP (mwF (mrpF rw i) i) := bz_t c21
          refine lv_aload_n hx hb dX4_repairByParity_24 rfl (lv_at hl 2 rfl) ?_
          refine va_get (D := g.1) (ci := 4) (v := .ref m1) (C := RX4) (T := TX4) (N := 11) hx hb hts in_X4_repairByParity_X4 hown hK hP 0 rfl rfl 0 (by decide) (hts _ (List.mem_of_getElem? (i := 1) rfl)) (fun _ h9 => h9) rfl dX4_repairByParity_25 ?_
          refine lv_bipush (v := 12) hx hb dX4_repairByParity_28 (by decide) ?_
          refine lv_iload_n hx hb dX4_repairByParity_30 rfl (lv_at hl 0 rfl) ?_
          refine lv_iadd hx hb dX4_repairByParity_31 ?_
          refine lv_tope (y := (nI (12 + i))) (show (12 + (nI i) : Int32) = nI (12 + i) from nI_add (12) (i)) ?_
          refine lv_iload_n hx hb dX4_repairByParity_32 rfl (lv_at hl 0 rfl) ?_
          refine kRi (va_runS (As := [.int (nI i)]) (rest := [.int (nI (12 + i)), .ref m1]) ⟨hx, hb, hml, hown, hts⟩ (c_X4_truth l g i (by first | assumption | omega | exact Nat.le_of_ble_eq_true rfl)) (va_cwS 1 hts gX4_repairByParity_X4_truth rfl rfl rfl (by decide +kernel) ⟨(Nat.le_of_ble_eq_true rfl), (Nat.le_of_ble_eq_true rfl)⟩) (preS hE hP [] rfl) rfl rfl hl.1 rfl (lv_room (Nat.le_of_ble_eq_true rfl)) dX4_repairByParity_33 ⟨(Nat.le_of_ble_eq_true rfl), (Nat.le_of_ble_eq_true rfl)⟩) hP hS (fun r9 H locs hr9 hP hS => ?_)
          subst hr9
          refine gIast (k := (12 + i)) (x := (tv i)) (wsn := [(m0, .inr (4, [.ref m1, .long ma, .ref m2, .ref m3, .int (nI (kcF np)), .ref m4, .int (nI ln), .int th, .ref m5, .int (nI at_), .long hs])), (m1, .inl (g.2.1 0, 523, .inl (upd (mrpF rw i) (12 + i) (tv i)))), (m2, .inl (g.2.1 0, 2092, .inl (svP pst np rw))), (m3, .inl (g.2.1 1, 4, .inr (.inl (svA pa np ma))))]) hx hb hE hP hD hS 1 rfl (by omega) (by omega) dX4_repairByParity_36 (hw := rfl) (kk := fun H locs hP hD hS => ?_)
          refine lv_iinc (v := (sI (mfF rw) i) + 1) (lv' := [(1, .int ((sI (mfF rw) i) + 1)), (2, .int (nI i)), (0, .ref m0)]) hx hb dX4_repairByParity_37 hl (k := 1) rfl rfl (by decide) rfl (fun ls hl => ?_)
          refine lv_iinc (v := (nI (i + 1))) (lv' := [(2, .int (nI (i + 1))), (1, .int ((sI (mfF rw) i) + 1)), (0, .ref m0)]) hx hb dX4_repairByParity_40 hl (k := 1) rfl (nI_add (i) 1) (by decide) rfl (fun ls hl => ?_)
          refine lv_goto (tgt := 8) hx hb dX4_repairByParity_43 (by decide) ?_
          exact ih8 (i + 1) (by omega) (by omega) ((sI (mfF rw) i) + 1) (by first | (show _ = sI (mfF rw) i + mfF rw i; rw [mfF, if_pos (mrp_t b21)]) | (show _ = sI (mfF rw) i + mfF rw i; rw [mfF, if_neg (fun h => b21 (mrp_b h)), Int32.add_zero])) (upd (mrpF rw i) (12 + i) (tv i)) (by first | exact mrp_put (mrp_t b21) | exact mrp_keep (fun h => b21 (mrp_b h))) _ _ hP hD hS _ (lv_sub hl [0, 1, 2] rfl)
  exact lp8 ((ents w - 0) + 1) 0 (Nat.lt_succ_self _) (by omega) 0 rfl rw mrp_z _ _ hP hD hS _ (lv_sub hl [0, 1, 2] rfl)
theorem in_X4_setRegister_X4 : ∀ w ∈ wsX40, w ∈ wsX4_setRegister := by decide +kernel
abbrev rm_X4_setRegister : Room := { frames := 2, cells := 0, slots := 0, locals := 43 }
set_option maxRecDepth 100000 in
set_option maxHeartbeats 4000000 in
theorem c_X4_setRegister (l : Launch) (g : GT) (m0 : Nat) (m1 : Nat) (m2 : Nat) (m3 : Nat) (m4 : Nat) (m5 : Nat) (ma : Int64) (np : Nat) (ln : Nat) (th : Int32) (at_ : Nat) (hs : Int64) (rw : Nat → Int32) (w : Nat) (pst : Nat → Int32) (pa : Nat → Int64) (rg_ : Int32) (vl : Int32) (hw8 : w ≤ 8) (hrw : rw 0 = nI w) (hnp : np ≤ 4) : cUi l g yX4_setRegister wsX4_setRegister rm_X4_setRegister [.ref m0, .int rg_, .int vl] [(m0, .inr (4, [.ref m1, .long ma, .ref m2, .ref m3, .int (nI np), .ref m4, .int (nI ln), .int th, .ref m5, .int (nI at_), .long hs])), (m1, .inl (g.2.1 0, 523, .inl rw)), (m2, .inl (g.2.1 0, 2092, .inl pst)), (m3, .inl (g.2.1 1, 4, .inr (.inl pa)))] (fun r (ub : Option Int32) => (ub = none ∧ (okG rg_ ∧ okR 0 (nI (gr w)) vl) ∧ r = rw (4 + tn rg_)) ∨ (ub = some 1 ∧ ¬ okG rg_) ∨ (ub = some 2 ∧ okG rg_ ∧ ¬ okR 0 (nI (gr w)) vl)) (fun ub => Option.elim ub [(m0, .inr (4, [.ref m1, .long ma, .ref m2, .ref m3, .int (nI (kcF np)), .ref m4, .int (nI ln), .int 0, .ref m5, .int (nI at_), .long hs])), (m1, .inl (g.2.1 0, 523, .inl (upd rw (4 + tn rg_) vl))), (m2, .inl (g.2.1 0, 2092, .inl (svP pst np rw))), (m3, .inl (g.2.1 1, 4, .inr (.inl (svA pa np ma))))] (fun tq => [(m0, .inr (4, [.ref m1, .long ma, .ref m2, .ref m3, .int (nI np), .ref m4, .int (nI ln), .int tq, .ref m5, .int (nI at_), .long hs])), (m1, .inl (g.2.1 0, 523, .inl rw)), (m2, .inl (g.2.1 0, 2092, .inl pst)), (m3, .inl (g.2.1 1, 4, .inr (.inl pa)))])) := by
  refine enU (y := yX4_setRegister) (ws := wsX4_setRegister) (av := [.ref m0, .int rg_, .int vl]) (cc := cX4_setRegister) (maxL := 4) (ret := (some .int)) (by decide) rfl (Nat.le_of_ble_eq_true rfl) rfl ?_
  intro p e s m below meth c ls hx hb hr hml hown hts hlocks hE hP hD hl
  have hK := hE.1
  have hS : va_S (va_Ad [(m0, .inr (4, [.ref m1, .long ma, .ref m2, .ref m3, .int (nI np), .ref m4, .int (nI ln), .int th, .ref m5, .int (nI at_), .long hs])), (m1, .inl (g.2.1 0, 523, .inl rw)), (m2, .inl (g.2.1 0, 2092, .inl pst)), (m3, .inl (g.2.1 1, 4, .inr (.inl pa)))]) s.heap s.heap [] := va_S.rf
  generalize hQ : MQ below _ _ s _ _ _ = Q9
  have hl : lv_has ls 4 [(0, .ref m0), (1, .int rg_), (2, .int vl)] := hl
  refine lv_iload_n hx hb dX4_setRegister_0 rfl (lv_at hl 1 rfl) ?_
  refine kRi (va_runS (As := [.int rg_]) (rest := []) ⟨hx, hb, hml, hown, hts⟩ (c_X4_isRegister l g rg_) (va_cwS 1 hts gX4_setRegister_X4_isRegister rfl rfl rfl (by decide +kernel) ⟨(Nat.le_of_ble_eq_true rfl), (Nat.le_of_ble_eq_true rfl)⟩) (preS hE hP [] rfl) rfl rfl hl.1 rfl (lv_room (Nat.le_of_ble_eq_true rfl)) dX4_setRegister_1 ⟨(Nat.le_of_ble_eq_true rfl), (Nat.le_of_ble_eq_true rfl)⟩) hP hS (fun r9 H locs hr9 hP hS => ?_)
  subst hr9
  refine lv_if_ne (tgt := 13) hx hb dX4_setRegister_4 (by decide) (fun c4 => ?_) (fun c4 => ?_)
  · have b4 : okG rg_ := bz_t c4
    obtain ⟨kr, hkr, rfl⟩ := rg_of b4
    refine lv_aload_n hx hb dX4_setRegister_13 rfl (lv_at hl 0 rfl) ?_
    refine lv_iload_n hx hb dX4_setRegister_14 rfl (lv_at hl 2 rfl) ?_
    refine kRi (va_runV (As := [.int vl]) (rest := []) ⟨hx, hb, hml, hown, hts⟩ (c_X4_isOperand l g m0 m1 m2 m3 m4 m5 ma np ln th at_ hs rw w vl (by first | assumption | omega | exact Nat.le_of_ble_eq_true rfl) (by first | assumption | omega | exact Nat.le_of_ble_eq_true rfl)) (cwV 1 hts gX4_setRegister_X4_isOperand rfl rfl rfl (by decide +kernel) ⟨(Nat.le_of_ble_eq_true rfl), (Nat.le_of_ble_eq_true rfl)⟩) (preV (RX4, TX4, 11) hE hP [0, 1] rfl rfl) rfl rfl hl.1 rfl (lv_room (Nat.le_of_ble_eq_true rfl)) dX4_setRegister_15 ⟨(Nat.le_of_ble_eq_true rfl), (Nat.le_of_ble_eq_true rfl)⟩) hP hS (fun r9 H locs hr9 hP hS => ?_)
    subst hr9
    refine lv_if_ne (tgt := 27) hx hb dX4_setRegister_18 (by decide) (fun c18 => ?_) (fun c18 => ?_)
    · have b18 : okR 0 (nI (gr w)) vl := bz_t c18
      refine lv_aload_n hx hb dX4_setRegister_27 rfl (lv_at hl 0 rfl) ?_
      refine kUv (fun _ => [(m0, .inr (4, [.ref m1, .long ma, .ref m2, .ref m3, .int (nI (kcF np)), .ref m4, .int (nI ln), .int th, .ref m5, .int (nI at_), .long hs])), (m1, .inl (g.2.1 0, 523, .inl rw)), (m2, .inl (g.2.1 0, 2092, .inl (svP pst np rw))), (m3, .inl (g.2.1 1, 4, .inr (.inl (svA pa np ma))))]) (va_runV (As := []) (rest := []) ⟨hx, hb, hml, hown, hts⟩ (c_X4_save l g m0 m1 m2 m3 m4 m5 ma np ln th at_ hs rw w pst pa (by first | assumption | omega | exact Nat.le_of_ble_eq_true rfl)) (cwV 0 hts gX4_setRegister_X4_save rfl rfl rfl (by decide +kernel) ⟨(Nat.le_of_ble_eq_true rfl), (Nat.le_of_ble_eq_true rfl)⟩) (preVd (RX4, TX4, 11) hE hP hD [0, 1, 2, 3] (by decide) rfl rfl) rfl rfl hl.1 rfl (lv_room (Nat.le_of_ble_eq_true rfl)) dX4_setRegister_28 ⟨(Nat.le_of_ble_eq_true rfl), (Nat.le_of_ble_eq_true rfl)⟩) hP hD hS [0, 1, 2, 3] [] 4 [m0, m1, m2, m3] [] rfl rfl rfl (fun _ => rfl) (fun _ => rfl) (fun _ => rfl) rfl (by decide) (fun _ H locs hr9 hP hD hS => ?_)
      refine lv_aload_n hx hb dX4_setRegister_31 rfl (lv_at hl 0 rfl) ?_
      refine va_get (D := g.1) (ci := 4) (v := .ref m1) (C := RX4) (T := TX4) (N := 11) hx hb hts in_X4_setRegister_X4 hown hK hP 0 rfl rfl 0 (by decide) (hts _ (List.mem_of_getElem? (i := 1) rfl)) (fun _ h9 => h9) rfl dX4_setRegister_32 ?_
      refine lv_iconst (v := 4) hx hb dX4_setRegister_35 (by decide) ?_
      refine lv_iload_n hx hb dX4_setRegister_36 rfl (lv_at hl 1 rfl) ?_
      refine lv_iadd hx hb dX4_setRegister_37 ?_
      refine lv_tope (y := (nI (4 + kr))) (show (4 + (nI kr) : Int32) = nI (4 + kr) from nI_add (4) (kr)) ?_
      refine gIald (k := (4 + kr)) hx hb hE hP 1 rfl (by omega) (by omega) dX4_setRegister_38 ?_
      refine lv_istore_n (lv' := [(3, .int (rw (4 + kr))), (0, .ref m0), (1, .int (nI kr)), (2, .int vl)]) hx hb dX4_setRegister_39 rfl hl (by decide) rfl (fun ls hl => ?_)
      refine lv_aload_n hx hb dX4_setRegister_40 rfl (lv_at hl 1 rfl) ?_
      refine va_get (D := g.1) (ci := 4) (v := .ref m1) (C := RX4) (T := TX4) (N := 11) hx hb hts in_X4_setRegister_X4 hown hK hP 0 rfl rfl 0 (by decide) (hts _ (List.mem_of_getElem? (i := 1) rfl)) (fun _ h9 => h9) rfl dX4_setRegister_41 ?_
      refine lv_iconst (v := 4) hx hb dX4_setRegister_44 (by decide) ?_
      refine lv_iload_n hx hb dX4_setRegister_45 rfl (lv_at hl 2 rfl) ?_
      refine lv_iadd hx hb dX4_setRegister_46 ?_
      refine lv_tope (y := (nI (4 + kr))) (show (4 + (nI kr) : Int32) = nI (4 + kr) from nI_add (4) (kr)) ?_
      refine lv_iload_n hx hb dX4_setRegister_47 rfl (lv_at hl 3 rfl) ?_
      refine gIast (k := (4 + kr)) (x := vl) (wsn := [(m0, .inr (4, [.ref m1, .long ma, .ref m2, .ref m3, .int (nI (kcF np)), .ref m4, .int (nI ln), .int th, .ref m5, .int (nI at_), .long hs])), (m1, .inl (g.2.1 0, 523, .inl (upd rw (4 + kr) vl))), (m2, .inl (g.2.1 0, 2092, .inl (svP pst np rw))), (m3, .inl (g.2.1 1, 4, .inr (.inl (svA pa np ma))))]) hx hb hE hP hD hS 1 rfl (by omega) (by omega) dX4_setRegister_48 (hw := rfl) (kk := fun H locs hP hD hS => ?_)
      refine lv_aload_n hx hb dX4_setRegister_49 rfl (lv_at hl 1 rfl) ?_
      refine lv_iload_n hx hb dX4_setRegister_50 rfl (lv_at hl 0 rfl) ?_
      refine kUi (fun _ => [(m0, .inr (4, [.ref m1, .long ma, .ref m2, .ref m3, .int (nI ((kcF np))), .ref m4, .int (nI ln), .int 0, .ref m5, .int (nI at_), .long hs])), (m1, .inl (g.2.1 0, 523, .inl (upd rw (4 + kr) vl))), (m2, .inl (g.2.1 0, 2092, .inl (svP pst np rw))), (m3, .inl (g.2.1 1, 4, .inr (.inl (svA pa np ma))))]) (va_runV (As := [.int (rw (4 + kr))]) (rest := []) ⟨hx, hb, hml, hown, hts⟩ (c_X4_tells l g m0 m1 m2 m3 m4 m5 ma (kcF np) ln th at_ hs (rw (4 + kr))) (cwV 1 hts gX4_setRegister_X4_tells rfl rfl rfl (by decide +kernel) ⟨(Nat.le_of_ble_eq_true rfl), (Nat.le_of_ble_eq_true rfl)⟩) (preVd (RX4, TX4, 11) hE hP hD [0] (by decide) rfl rfl) rfl rfl hl.1 rfl (lv_room (Nat.le_of_ble_eq_true rfl)) dX4_setRegister_51 ⟨(Nat.le_of_ble_eq_true rfl), (Nat.le_of_ble_eq_true rfl)⟩) hP hD hS [0] [1, 2, 3] 4 [m0, m1, m2, m3] [(m1, .inl (g.2.1 0, 523, .inl (upd rw (4 + kr) vl))), (m2, .inl (g.2.1 0, 2092, .inl (svP pst np rw))), (m3, .inl (g.2.1 1, 4, .inr (.inl (svA pa np ma))))] rfl rfl rfl (fun _ => rfl) (fun _ => rfl) (fun _ => rfl) rfl (by decide) (fun r9 _ H locs hr9 hP hD hS => ?_)
      subst hr9
      subst hQ
      have hP9 : va_P g.1 vwCl [(m0, .inr (4, [.ref m1, .long ma, .ref m2, .ref m3, .int (nI (kcF np)), .ref m4, .int (nI ln), .int 0, .ref m5, .int (nI at_), .long hs])), (m1, .inl (g.2.1 0, 523, .inl (upd rw (4 + tn (nI kr)) vl))), (m2, .inl (g.2.1 0, 2092, .inl (svP pst np rw))), (m3, .inl (g.2.1 1, 4, .inr (.inl (svA pa np ma))))] H := by rw [tn_nI (n := kr) (by omega)]; exact hP
      exact W.iret (v := (rw (4 + kr))) hx hb hr (fun t ht hW => ⟨⟨(rw (4 + kr)), none, rfl, Or.inl ⟨rfl, ⟨b4, b18⟩, by rw [tn_nI (n := kr) (by omega)]⟩, by show va_P g.1 vwCl _ t.heap; rw [ht]; exact hP9⟩, hS.F ht⟩) hS.2.2 dX4_setRegister_54
    · have b18 : ¬ (okR 0 (nI (gr w)) vl) := bz_f c18
      refine lv_aload_n hx hb dX4_setRegister_21 rfl (lv_at hl 0 rfl) ?_
      refine lv_iconst (v := 2) hx hb dX4_setRegister_22 (by decide) ?_
      refine kUi (fun _ => [(m0, .inr (4, [.ref m1, .long ma, .ref m2, .ref m3, .int (nI np), .ref m4, .int (nI ln), .int 2, .ref m5, .int (nI at_), .long hs])), (m1, .inl (g.2.1 0, 523, .inl rw)), (m2, .inl (g.2.1 0, 2092, .inl pst)), (m3, .inl (g.2.1 1, 4, .inr (.inl pa)))]) (va_runV (As := [.int 2]) (rest := []) ⟨hx, hb, hml, hown, hts⟩ (c_X4_fails l g m0 m1 m2 m3 m4 m5 ma np ln th at_ hs 2) (cwV 1 hts gX4_setRegister_X4_fails rfl rfl rfl (by decide +kernel) ⟨(Nat.le_of_ble_eq_true rfl), (Nat.le_of_ble_eq_true rfl)⟩) (preVd (RX4, TX4, 11) hE hP hD [0] (by decide) rfl rfl) rfl rfl hl.1 rfl (lv_room (Nat.le_of_ble_eq_true rfl)) dX4_setRegister_23 ⟨(Nat.le_of_ble_eq_true rfl), (Nat.le_of_ble_eq_true rfl)⟩) hP hD hS [0] [1, 2, 3] 4 [m0, m1, m2, m3] [(m1, .inl (g.2.1 0, 523, .inl rw)), (m2, .inl (g.2.1 0, 2092, .inl pst)), (m3, .inl (g.2.1 1, 4, .inr (.inl pa)))] rfl rfl rfl (fun _ => rfl) (fun _ => rfl) (fun _ => rfl) rfl (by decide) (fun r9 _ H locs hr9 hP hD hS => ?_)
      subst hr9
      subst hQ
      have hP9 : va_P g.1 vwCl [(m0, .inr (4, [.ref m1, .long ma, .ref m2, .ref m3, .int (nI np), .ref m4, .int (nI ln), .int 2, .ref m5, .int (nI at_), .long hs])), (m1, .inl (g.2.1 0, 523, .inl rw)), (m2, .inl (g.2.1 0, 2092, .inl pst)), (m3, .inl (g.2.1 1, 4, .inr (.inl pa)))] H := hP
      exact W.iret (v := 0) hx hb hr (fun t ht hW => ⟨⟨0, (some 2), rfl, Or.inr (Or.inr ⟨rfl, b4, b18⟩), by show va_P g.1 vwCl _ t.heap; rw [ht]; exact hP9⟩, hS.F ht⟩) hS.2.2 dX4_setRegister_26
  · have b4 : ¬ (okG rg_) := bz_f c4
    refine lv_aload_n hx hb dX4_setRegister_7 rfl (lv_at hl 0 rfl) ?_
    refine lv_iconst (v := 1) hx hb dX4_setRegister_8 (by decide) ?_
    refine kUi (fun _ => [(m0, .inr (4, [.ref m1, .long ma, .ref m2, .ref m3, .int (nI np), .ref m4, .int (nI ln), .int 1, .ref m5, .int (nI at_), .long hs])), (m1, .inl (g.2.1 0, 523, .inl rw)), (m2, .inl (g.2.1 0, 2092, .inl pst)), (m3, .inl (g.2.1 1, 4, .inr (.inl pa)))]) (va_runV (As := [.int 1]) (rest := []) ⟨hx, hb, hml, hown, hts⟩ (c_X4_fails l g m0 m1 m2 m3 m4 m5 ma np ln th at_ hs 1) (cwV 1 hts gX4_setRegister_X4_fails rfl rfl rfl (by decide +kernel) ⟨(Nat.le_of_ble_eq_true rfl), (Nat.le_of_ble_eq_true rfl)⟩) (preVd (RX4, TX4, 11) hE hP hD [0] (by decide) rfl rfl) rfl rfl hl.1 rfl (lv_room (Nat.le_of_ble_eq_true rfl)) dX4_setRegister_9 ⟨(Nat.le_of_ble_eq_true rfl), (Nat.le_of_ble_eq_true rfl)⟩) hP hD hS [0] [1, 2, 3] 4 [m0, m1, m2, m3] [(m1, .inl (g.2.1 0, 523, .inl rw)), (m2, .inl (g.2.1 0, 2092, .inl pst)), (m3, .inl (g.2.1 1, 4, .inr (.inl pa)))] rfl rfl rfl (fun _ => rfl) (fun _ => rfl) (fun _ => rfl) rfl (by decide) (fun r9 _ H locs hr9 hP hD hS => ?_)
    subst hr9
    subst hQ
    have hP9 : va_P g.1 vwCl [(m0, .inr (4, [.ref m1, .long ma, .ref m2, .ref m3, .int (nI np), .ref m4, .int (nI ln), .int 1, .ref m5, .int (nI at_), .long hs])), (m1, .inl (g.2.1 0, 523, .inl rw)), (m2, .inl (g.2.1 0, 2092, .inl pst)), (m3, .inl (g.2.1 1, 4, .inr (.inl pa)))] H := hP
    exact W.iret (v := 0) hx hb hr (fun t ht hW => ⟨⟨0, (some 1), rfl, Or.inr (Or.inl ⟨rfl, b4⟩), by show va_P g.1 vwCl _ t.heap; rw [ht]; exact hP9⟩, hS.F ht⟩) hS.2.2 dX4_setRegister_12
theorem in_X4_clearAccount_X4 : ∀ w ∈ wsX40, w ∈ wsX4_clearAccount := by decide +kernel
abbrev rm_X4_clearAccount : Room := { frames := 1, cells := 0, slots := 0, locals := 21 }
set_option maxRecDepth 100000 in
set_option maxHeartbeats 4000000 in
theorem c_X4_clearAccount (l : Launch) (g : GT) (m0 : Nat) (m1 : Nat) (m2 : Nat) (m3 : Nat) (m4 : Nat) (m5 : Nat) (ma : Int64) (np : Nat) (ln : Nat) (th : Int32) (at_ : Nat) (hs : Int64) (rw : Nat → Int32) (w : Nat) (pst : Nat → Int32) (pa : Nat → Int64) (hnp : np ≤ 4) : cUl l g yX4_clearAccount wsX4_clearAccount rm_X4_clearAccount [.ref m0] [(m0, .inr (4, [.ref m1, .long ma, .ref m2, .ref m3, .int (nI np), .ref m4, .int (nI ln), .int th, .ref m5, .int (nI at_), .long hs])), (m1, .inl (g.2.1 0, 523, .inl rw)), (m2, .inl (g.2.1 0, 2092, .inl pst)), (m3, .inl (g.2.1 1, 4, .inr (.inl pa)))] (fun r (_ : Unit) => r = ma) (fun _ => [(m0, .inr (4, [.ref m1, .long 0, .ref m2, .ref m3, .int (nI (kcF np)), .ref m4, .int (nI ln), .int 0, .ref m5, .int (nI at_), .long hs])), (m1, .inl (g.2.1 0, 523, .inl rw)), (m2, .inl (g.2.1 0, 2092, .inl (svP pst np rw))), (m3, .inl (g.2.1 1, 4, .inr (.inl (svA pa np ma))))]) := by
  refine enU (y := yX4_clearAccount) (ws := wsX4_clearAccount) (av := [.ref m0]) (cc := cX4_clearAccount) (maxL := 3) (ret := (some .long)) (by decide) rfl (Nat.le_of_ble_eq_true rfl) rfl ?_
  intro p e s m below meth c ls hx hb hr hml hown hts hlocks hE hP hD hl
  have hK := hE.1
  have hS : va_S (va_Ad [(m0, .inr (4, [.ref m1, .long ma, .ref m2, .ref m3, .int (nI np), .ref m4, .int (nI ln), .int th, .ref m5, .int (nI at_), .long hs])), (m1, .inl (g.2.1 0, 523, .inl rw)), (m2, .inl (g.2.1 0, 2092, .inl pst)), (m3, .inl (g.2.1 1, 4, .inr (.inl pa)))]) s.heap s.heap [] := va_S.rf
  generalize hQ : MQ below _ _ s _ _ _ = Q9
  have hl : lv_has ls 3 [(0, .ref m0)] := hl
  refine lv_aload_n hx hb dX4_clearAccount_0 rfl (lv_at hl 0 rfl) ?_
  refine lv_iconst (v := 0) hx hb dX4_clearAccount_1 (by decide) ?_
  refine va_put (D := g.1) (ci := 4) (v := .int 0) (ty := .int) (C := RX4) (T := TX4) (N := 11) hx hb hts in_X4_clearAccount_X4 tyX4 tyX4_ok nmX4 hown hK hP hD hS 0 rfl rfl 7 (by decide) (hts _ (List.mem_of_getElem? (i := 1) rfl)) (fun _ h9 => h9) rfl (by decide +kernel) rfl rfl (Nat.le_of_ble_eq_true rfl) dX4_clearAccount_2 (fun H locs hP hD hS => ?_)
  have hP : va_P g.1 vwCl [(m0, .inr (4, [.ref m1, .long ma, .ref m2, .ref m3, .int (nI np), .ref m4, .int (nI ln), .int 0, .ref m5, .int (nI at_), .long hs])), (m1, .inl (g.2.1 0, 523, .inl rw)), (m2, .inl (g.2.1 0, 2092, .inl pst)), (m3, .inl (g.2.1 1, 4, .inr (.inl pa)))] _ := hP
  have hD : va_D (va_Ad [(m0, .inr (4, [.ref m1, .long ma, .ref m2, .ref m3, .int (nI np), .ref m4, .int (nI ln), .int th, .ref m5, .int (nI at_), .long hs])), (m1, .inl (g.2.1 0, 523, .inl rw)), (m2, .inl (g.2.1 0, 2092, .inl pst)), (m3, .inl (g.2.1 1, 4, .inr (.inl pa)))]) [(m0, .inr (4, [.ref m1, .long ma, .ref m2, .ref m3, .int (nI np), .ref m4, .int (nI ln), .int 0, .ref m5, .int (nI at_), .long hs])), (m1, .inl (g.2.1 0, 523, .inl rw)), (m2, .inl (g.2.1 0, 2092, .inl pst)), (m3, .inl (g.2.1 1, 4, .inr (.inl pa)))] := hD
  refine lv_aload_n hx hb dX4_clearAccount_5 rfl (lv_at hl 0 rfl) ?_
  refine kUv (fun _ => [(m0, .inr (4, [.ref m1, .long ma, .ref m2, .ref m3, .int (nI (kcF np)), .ref m4, .int (nI ln), .int 0, .ref m5, .int (nI at_), .long hs])), (m1, .inl (g.2.1 0, 523, .inl rw)), (m2, .inl (g.2.1 0, 2092, .inl (svP pst np rw))), (m3, .inl (g.2.1 1, 4, .inr (.inl (svA pa np ma))))]) (va_runV (As := []) (rest := []) ⟨hx, hb, hml, hown, hts⟩ (c_X4_save l g m0 m1 m2 m3 m4 m5 ma np ln 0 at_ hs rw w pst pa (by first | assumption | omega | exact Nat.le_of_ble_eq_true rfl)) (cwV 0 hts gX4_clearAccount_X4_save rfl rfl rfl (by decide +kernel) ⟨(Nat.le_of_ble_eq_true rfl), (Nat.le_of_ble_eq_true rfl)⟩) (preVd (RX4, TX4, 11) hE hP hD [0, 1, 2, 3] (by decide) rfl rfl) rfl rfl hl.1 rfl (lv_room (Nat.le_of_ble_eq_true rfl)) dX4_clearAccount_6 ⟨(Nat.le_of_ble_eq_true rfl), (Nat.le_of_ble_eq_true rfl)⟩) hP hD hS [0, 1, 2, 3] [] 4 [m0, m1, m2, m3] [] rfl rfl rfl (fun _ => rfl) (fun _ => rfl) (fun _ => rfl) rfl (by decide) (fun _ H locs hr9 hP hD hS => ?_)
  refine lv_aload_n hx hb dX4_clearAccount_9 rfl (lv_at hl 0 rfl) ?_
  refine va_get (D := g.1) (ci := 4) (v := .long ma) (C := RX4) (T := TX4) (N := 11) hx hb hts in_X4_clearAccount_X4 hown hK hP 0 rfl rfl 1 (by decide) (hts _ (List.mem_of_getElem? (i := 2) rfl)) (fun _ h9 => h9) rfl dX4_clearAccount_10 ?_
  refine lv_lstore_n (lv' := [(1, .long ma), (0, .ref m0)]) hx hb dX4_clearAccount_13 rfl hl (by decide) rfl (fun ls hl => ?_)
  refine lv_aload_n hx hb dX4_clearAccount_14 rfl (lv_at hl 1 rfl) ?_
  refine lv_lconst (v := 0) hx hb dX4_clearAccount_15 (by decide) ?_
  refine va_put (D := g.1) (ci := 4) (v := .long 0) (ty := .long) (C := RX4) (T := TX4) (N := 11) hx hb hts in_X4_clearAccount_X4 tyX4 tyX4_ok nmX4 hown hK hP hD hS 0 rfl rfl 1 (by decide) (hts _ (List.mem_of_getElem? (i := 2) rfl)) (fun _ h9 => h9) rfl (by decide +kernel) rfl rfl (Nat.le_of_ble_eq_true rfl) dX4_clearAccount_16 (fun H locs hP hD hS => ?_)
  have hP : va_P g.1 vwCl [(m0, .inr (4, [.ref m1, .long 0, .ref m2, .ref m3, .int (nI (kcF np)), .ref m4, .int (nI ln), .int 0, .ref m5, .int (nI at_), .long hs])), (m1, .inl (g.2.1 0, 523, .inl rw)), (m2, .inl (g.2.1 0, 2092, .inl (svP pst np rw))), (m3, .inl (g.2.1 1, 4, .inr (.inl (svA pa np ma))))] _ := hP
  have hD : va_D (va_Ad [(m0, .inr (4, [.ref m1, .long ma, .ref m2, .ref m3, .int (nI np), .ref m4, .int (nI ln), .int th, .ref m5, .int (nI at_), .long hs])), (m1, .inl (g.2.1 0, 523, .inl rw)), (m2, .inl (g.2.1 0, 2092, .inl pst)), (m3, .inl (g.2.1 1, 4, .inr (.inl pa)))]) [(m0, .inr (4, [.ref m1, .long 0, .ref m2, .ref m3, .int (nI (kcF np)), .ref m4, .int (nI ln), .int 0, .ref m5, .int (nI at_), .long hs])), (m1, .inl (g.2.1 0, 523, .inl rw)), (m2, .inl (g.2.1 0, 2092, .inl (svP pst np rw))), (m3, .inl (g.2.1 1, 4, .inr (.inl (svA pa np ma))))] := hD
  refine lv_lload_n hx hb dX4_clearAccount_19 rfl (lv_at hl 0 rfl) ?_
  subst hQ
  have hP9 : va_P g.1 vwCl [(m0, .inr (4, [.ref m1, .long 0, .ref m2, .ref m3, .int (nI (kcF np)), .ref m4, .int (nI ln), .int 0, .ref m5, .int (nI at_), .long hs])), (m1, .inl (g.2.1 0, 523, .inl rw)), (m2, .inl (g.2.1 0, 2092, .inl (svP pst np rw))), (m3, .inl (g.2.1 1, 4, .inr (.inl (svA pa np ma))))] H := hP
  exact W.lret (v := ma) hx hb hr (fun t ht hW => ⟨⟨ma, (), rfl, rfl, by show va_P g.1 vwCl _ t.heap; rw [ht]; exact hP9⟩, hS.F ht⟩) hS.2.2 dX4_clearAccount_20
theorem in_X4_undo_X4 : ∀ w ∈ wsX40, w ∈ wsX4_undo := by decide +kernel
abbrev rm_X4_undo : Room := { frames := 1, cells := 0, slots := 0, locals := 21 }
set_option maxRecDepth 100000 in
set_option maxHeartbeats 4000000 in
theorem c_X4_undo (l : Launch) (g : GT) (m0 : Nat) (m1 : Nat) (m2 : Nat) (m3 : Nat) (m4 : Nat) (m5 : Nat) (ma : Int64) (np : Nat) (ln : Nat) (th : Int32) (at_ : Nat) (hs : Int64) (rw : Nat → Int32) (w : Nat) (pst : Nat → Int32) (pa : Nat → Int64) (hnp : np ≤ 4) : cUi l g yX4_undo wsX4_undo rm_X4_undo [.ref m0] [(m0, .inr (4, [.ref m1, .long ma, .ref m2, .ref m3, .int (nI np), .ref m4, .int (nI ln), .int th, .ref m5, .int (nI at_), .long hs])), (m1, .inl (g.2.1 0, 523, .inl rw)), (m2, .inl (g.2.1 0, 2092, .inl pst)), (m3, .inl (g.2.1 1, 4, .inr (.inl pa)))] (fun r (ub : Option Int32) => (ub = none ∧ (1 ≤ np) ∧ r = nI (np - 1)) ∨ (ub = some 1 ∧ np = 0)) (fun ub => Option.elim ub [(m0, .inr (4, [.ref m1, .long (pa (np - 1)), .ref m2, .ref m3, .int (nI (np - 1)), .ref m4, .int (nI ln), .int 0, .ref m5, .int (nI at_), .long hs])), (m1, .inl (g.2.1 0, 523, .inl (fun k => pst (523 * (np - 1) + k)))), (m2, .inl (g.2.1 0, 2092, .inl pst)), (m3, .inl (g.2.1 1, 4, .inr (.inl pa)))] (fun tq => [(m0, .inr (4, [.ref m1, .long ma, .ref m2, .ref m3, .int (nI np), .ref m4, .int (nI ln), .int tq, .ref m5, .int (nI at_), .long hs])), (m1, .inl (g.2.1 0, 523, .inl rw)), (m2, .inl (g.2.1 0, 2092, .inl pst)), (m3, .inl (g.2.1 1, 4, .inr (.inl pa)))])) := by
  refine enU (y := yX4_undo) (ws := wsX4_undo) (av := [.ref m0]) (cc := cX4_undo) (maxL := 2) (ret := (some .int)) (by decide) rfl (Nat.le_of_ble_eq_true rfl) rfl ?_
  intro p e s m below meth c ls hx hb hr hml hown hts hlocks hE hP hD hl
  have hK := hE.1
  have hS : va_S (va_Ad [(m0, .inr (4, [.ref m1, .long ma, .ref m2, .ref m3, .int (nI np), .ref m4, .int (nI ln), .int th, .ref m5, .int (nI at_), .long hs])), (m1, .inl (g.2.1 0, 523, .inl rw)), (m2, .inl (g.2.1 0, 2092, .inl pst)), (m3, .inl (g.2.1 1, 4, .inr (.inl pa)))]) s.heap s.heap [] := va_S.rf
  generalize hQ : MQ below _ _ s _ _ _ = Q9
  have hl : lv_has ls 2 [(0, .ref m0)] := hl
  refine lv_aload_n hx hb dX4_undo_0 rfl (lv_at hl 0 rfl) ?_
  refine va_get (D := g.1) (ci := 4) (v := .int (nI np)) (C := RX4) (T := TX4) (N := 11) hx hb hts in_X4_undo_X4 hown hK hP 0 rfl rfl 4 (by decide) (hts _ (List.mem_of_getElem? (i := 1) rfl)) (fun _ h9 => h9) rfl dX4_undo_1 ?_
  refine lv_if_ne (tgt := 13) hx hb dX4_undo_4 (by decide) (fun c4 => ?_) (fun c4 => ?_)
  · have n4 : ¬ np = 0 := fun h9 => c4 ((nI_eq (a := np) (b := 0) (by omega) (by omega)).mpr h9)
    refine lv_aload_n hx hb dX4_undo_13 rfl (lv_at hl 0 rfl) ?_
    refine lv_dup hx hb dX4_undo_14 rfl ?_
    refine va_get (D := g.1) (ci := 4) (v := .int (nI np)) (C := RX4) (T := TX4) (N := 11) hx hb hts in_X4_undo_X4 hown hK hP 0 rfl rfl 4 (by decide) (hts _ (List.mem_of_getElem? (i := 1) rfl)) (fun _ h9 => h9) rfl dX4_undo_15 ?_
    refine lv_iconst (v := 1) hx hb dX4_undo_18 (by decide) ?_
    refine lv_isub hx hb dX4_undo_19 ?_
    refine lv_tope (y := (nI (np - 1))) (pk_sub (a := np) (b := 1) (by omega)) ?_
    refine va_put (D := g.1) (ci := 4) (v := .int (nI (np - 1))) (ty := .int) (C := RX4) (T := TX4) (N := 11) hx hb hts in_X4_undo_X4 tyX4 tyX4_ok nmX4 hown hK hP hD hS 0 rfl rfl 4 (by decide) (hts _ (List.mem_of_getElem? (i := 1) rfl)) (fun _ h9 => h9) rfl (by decide +kernel) rfl rfl (Nat.le_of_ble_eq_true rfl) dX4_undo_20 (fun H locs hP hD hS => ?_)
    have hP : va_P g.1 vwCl [(m0, .inr (4, [.ref m1, .long ma, .ref m2, .ref m3, .int (nI (np - 1)), .ref m4, .int (nI ln), .int th, .ref m5, .int (nI at_), .long hs])), (m1, .inl (g.2.1 0, 523, .inl rw)), (m2, .inl (g.2.1 0, 2092, .inl pst)), (m3, .inl (g.2.1 1, 4, .inr (.inl pa)))] _ := hP
    have hD : va_D (va_Ad [(m0, .inr (4, [.ref m1, .long ma, .ref m2, .ref m3, .int (nI np), .ref m4, .int (nI ln), .int th, .ref m5, .int (nI at_), .long hs])), (m1, .inl (g.2.1 0, 523, .inl rw)), (m2, .inl (g.2.1 0, 2092, .inl pst)), (m3, .inl (g.2.1 1, 4, .inr (.inl pa)))]) [(m0, .inr (4, [.ref m1, .long ma, .ref m2, .ref m3, .int (nI (np - 1)), .ref m4, .int (nI ln), .int th, .ref m5, .int (nI at_), .long hs])), (m1, .inl (g.2.1 0, 523, .inl rw)), (m2, .inl (g.2.1 0, 2092, .inl pst)), (m3, .inl (g.2.1 1, 4, .inr (.inl pa)))] := hD
    refine lv_iconst (v := 0) hx hb dX4_undo_23 (by decide) ?_
    refine lv_istore_n (lv' := [(1, .int 0), (0, .ref m0)]) hx hb dX4_undo_24 rfl hl (by decide) rfl (fun ls hl => ?_)
    have lp25 : ∀ (n9 : Nat) (k : Nat), 523 - k < n9 → (k ≤ 523) → ∀ (f1 : Nat → Int32), f1 = unK pst (np - 1) rw k → ∀ (H : Heap) (locs : List Loc), va_P g.1 vwCl [(m0, .inr (4, [.ref m1, .long ma, .ref m2, .ref m3, .int (nI (np - 1)), .ref m4, .int (nI ln), .int th, .ref m5, .int (nI at_), .long hs])), (m1, .inl (g.2.1 0, 523, .inl f1)), (m2, .inl (g.2.1 0, 2092, .inl pst)), (m3, .inl (g.2.1 1, 4, .inr (.inl pa)))] H → va_D (va_Ad [(m0, .inr (4, [.ref m1, .long ma, .ref m2, .ref m3, .int (nI np), .ref m4, .int (nI ln), .int th, .ref m5, .int (nI at_), .long hs])), (m1, .inl (g.2.1 0, 523, .inl rw)), (m2, .inl (g.2.1 0, 2092, .inl pst)), (m3, .inl (g.2.1 1, 4, .inr (.inl pa)))]) [(m0, .inr (4, [.ref m1, .long ma, .ref m2, .ref m3, .int (nI (np - 1)), .ref m4, .int (nI ln), .int th, .ref m5, .int (nI at_), .long hs])), (m1, .inl (g.2.1 0, 523, .inl f1)), (m2, .inl (g.2.1 0, 2092, .inl pst)), (m3, .inl (g.2.1 1, 4, .inr (.inl pa)))] → va_S (va_Ad [(m0, .inr (4, [.ref m1, .long ma, .ref m2, .ref m3, .int (nI np), .ref m4, .int (nI ln), .int th, .ref m5, .int (nI at_), .long hs])), (m1, .inl (g.2.1 0, 523, .inl rw)), (m2, .inl (g.2.1 0, 2092, .inl pst)), (m3, .inl (g.2.1 1, 4, .inr (.inl pa)))]) s.heap H locs → ∀ (ls : Array Slot), lv_has ls 2 [(1, .int (nI k)), (0, .ref m0)] → W p l e rm_X4_undo s m [Value.ref m0].toArray below meth c H locs 0 0 Q9 (F0 m 25 ls []) := by
      intro n9
      induction n9 with
      | zero => intro k h9; exact absurd h9 (Nat.not_lt_zero _)
      | succ n9 ih25 =>
        intro k hm25 hk
        intro f1 e_f1; subst e_f1
        intro H locs hP hD hS ls hl
        refine lv_iload_n hx hb dX4_undo_25 rfl (lv_at hl 0 rfl) ?_
        refine lv_sipush (v := 523) hx hb dX4_undo_26 (by decide) ?_
        refine lv_icmp_ge (tgt := 59) hx hb dX4_undo_29 (by decide) (fun c29 => ?_) (fun c29 => ?_)
        · have n29 : 523 ≤ k := (nI_leI (a := 523) (b := k) (by omega) (by omega)).mp c29
          have e25 : k = 523 := by omega
          rw [e25] at hP hD
          refine lv_aload_n hx hb dX4_undo_59 rfl (lv_at hl 1 rfl) ?_
          refine lv_aload_n hx hb dX4_undo_60 rfl (lv_at hl 1 rfl) ?_
          refine va_get (D := g.1) (ci := 4) (v := .ref m3) (C := RX4) (T := TX4) (N := 11) hx hb hts in_X4_undo_X4 hown hK hP 0 rfl rfl 3 (by decide) (hts _ (List.mem_of_getElem? (i := 4) rfl)) (fun _ h9 => h9) rfl dX4_undo_61 ?_
          refine lv_aload_n hx hb dX4_undo_64 rfl (lv_at hl 1 rfl) ?_
          refine va_get (D := g.1) (ci := 4) (v := .int (nI (np - 1))) (C := RX4) (T := TX4) (N := 11) hx hb hts in_X4_undo_X4 hown hK hP 0 rfl rfl 4 (by decide) (hts _ (List.mem_of_getElem? (i := 1) rfl)) (fun _ h9 => h9) rfl dX4_undo_65 ?_
          refine gLald (k := (np - 1)) hx hb hE hP 3 rfl (by omega) (by omega) dX4_undo_68 ?_
          refine va_put (D := g.1) (ci := 4) (v := .long (pa (np - 1))) (ty := .long) (C := RX4) (T := TX4) (N := 11) hx hb hts in_X4_undo_X4 tyX4 tyX4_ok nmX4 hown hK hP hD hS 0 rfl rfl 1 (by decide) (hts _ (List.mem_of_getElem? (i := 5) rfl)) (fun _ h9 => h9) rfl (by decide +kernel) rfl rfl (Nat.le_of_ble_eq_true rfl) dX4_undo_69 (fun H locs hP hD hS => ?_)
          have hP : va_P g.1 vwCl [(m0, .inr (4, [.ref m1, .long (pa (np - 1)), .ref m2, .ref m3, .int (nI (np - 1)), .ref m4, .int (nI ln), .int th, .ref m5, .int (nI at_), .long hs])), (m1, .inl (g.2.1 0, 523, .inl (unK pst (np - 1) rw 523))), (m2, .inl (g.2.1 0, 2092, .inl pst)), (m3, .inl (g.2.1 1, 4, .inr (.inl pa)))] _ := hP
          have hD : va_D (va_Ad [(m0, .inr (4, [.ref m1, .long ma, .ref m2, .ref m3, .int (nI np), .ref m4, .int (nI ln), .int th, .ref m5, .int (nI at_), .long hs])), (m1, .inl (g.2.1 0, 523, .inl rw)), (m2, .inl (g.2.1 0, 2092, .inl pst)), (m3, .inl (g.2.1 1, 4, .inr (.inl pa)))]) [(m0, .inr (4, [.ref m1, .long (pa (np - 1)), .ref m2, .ref m3, .int (nI (np - 1)), .ref m4, .int (nI ln), .int th, .ref m5, .int (nI at_), .long hs])), (m1, .inl (g.2.1 0, 523, .inl (unK pst (np - 1) rw 523))), (m2, .inl (g.2.1 0, 2092, .inl pst)), (m3, .inl (g.2.1 1, 4, .inr (.inl pa)))] := hD
          refine lv_aload_n hx hb dX4_undo_72 rfl (lv_at hl 1 rfl) ?_
          refine lv_aload_n hx hb dX4_undo_73 rfl (lv_at hl 1 rfl) ?_
          refine va_get (D := g.1) (ci := 4) (v := .int (nI (np - 1))) (C := RX4) (T := TX4) (N := 11) hx hb hts in_X4_undo_X4 hown hK hP 0 rfl rfl 4 (by decide) (hts _ (List.mem_of_getElem? (i := 1) rfl)) (fun _ h9 => h9) rfl dX4_undo_74 ?_
          refine kUi (fun _ => [(m0, .inr (4, [.ref m1, .long (pa (np - 1)), .ref m2, .ref m3, .int (nI ((np - 1))), .ref m4, .int (nI ln), .int 0, .ref m5, .int (nI at_), .long hs])), (m1, .inl (g.2.1 0, 523, .inl (unK pst (np - 1) rw 523))), (m2, .inl (g.2.1 0, 2092, .inl pst)), (m3, .inl (g.2.1 1, 4, .inr (.inl pa)))]) (va_runV (As := [.int (nI (np - 1))]) (rest := []) ⟨hx, hb, hml, hown, hts⟩ (c_X4_tells l g m0 m1 m2 m3 m4 m5 (pa (np - 1)) (np - 1) ln th at_ hs (nI (np - 1))) (cwV 1 hts gX4_undo_X4_tells rfl rfl rfl (by decide +kernel) ⟨(Nat.le_of_ble_eq_true rfl), (Nat.le_of_ble_eq_true rfl)⟩) (preVd (RX4, TX4, 11) hE hP hD [0] (by decide) rfl rfl) rfl rfl hl.1 rfl (lv_room (Nat.le_of_ble_eq_true rfl)) dX4_undo_77 ⟨(Nat.le_of_ble_eq_true rfl), (Nat.le_of_ble_eq_true rfl)⟩) hP hD hS [0] [1, 2, 3] 4 [m0, m1, m2, m3] [(m1, .inl (g.2.1 0, 523, .inl (unK pst (np - 1) rw 523))), (m2, .inl (g.2.1 0, 2092, .inl pst)), (m3, .inl (g.2.1 1, 4, .inr (.inl pa)))] rfl rfl rfl (fun _ => rfl) (fun _ => rfl) (fun _ => rfl) rfl (by decide) (fun r9 _ H locs hr9 hP hD hS => ?_)
          subst hr9
          subst hQ
          have hP9 : va_P g.1 vwCl [(m0, .inr (4, [.ref m1, .long (pa (np - 1)), .ref m2, .ref m3, .int (nI (np - 1)), .ref m4, .int (nI ln), .int 0, .ref m5, .int (nI at_), .long hs])), (m1, .inl (g.2.1 0, 523, .inl (fun k => pst (523 * (np - 1) + k)))), (m2, .inl (g.2.1 0, 2092, .inl pst)), (m3, .inl (g.2.1 1, 4, .inr (.inl pa)))] H := va_tellP hP 1 rfl (fun j hj => if_pos hj) rfl
          exact W.iret (v := (nI (np - 1))) hx hb hr (fun t ht hW => ⟨⟨(nI (np - 1)), none, rfl, Or.inl ⟨rfl, by omega, rfl⟩, by show va_P g.1 vwCl _ t.heap; rw [ht]; exact hP9⟩, hS.F ht⟩) hS.2.2 dX4_undo_80
        · have n29 : k < 523 := Nat.lt_of_not_le (fun h9 => c29 ((nI_leI (a := 523) (b := k) (by omega) (by omega)).mpr h9))
          refine lv_aload_n hx hb dX4_undo_32 rfl (lv_at hl 1 rfl) ?_
          refine va_get (D := g.1) (ci := 4) (v := .ref m1) (C := RX4) (T := TX4) (N := 11) hx hb hts in_X4_undo_X4 hown hK hP 0 rfl rfl 0 (by decide) (hts _ (List.mem_of_getElem? (i := 2) rfl)) (fun _ h9 => h9) rfl dX4_undo_33 ?_
          refine lv_iload_n hx hb dX4_undo_36 rfl (lv_at hl 0 rfl) ?_
          refine lv_aload_n hx hb dX4_undo_37 rfl (lv_at hl 1 rfl) ?_
          refine va_get (D := g.1) (ci := 4) (v := .ref m2) (C := RX4) (T := TX4) (N := 11) hx hb hts in_X4_undo_X4 hown hK hP 0 rfl rfl 2 (by decide) (hts _ (List.mem_of_getElem? (i := 3) rfl)) (fun _ h9 => h9) rfl dX4_undo_38 ?_
          refine lv_sipush (v := 523) hx hb dX4_undo_41 (by decide) ?_
          refine lv_aload_n hx hb dX4_undo_44 rfl (lv_at hl 1 rfl) ?_
          refine va_get (D := g.1) (ci := 4) (v := .int (nI (np - 1))) (C := RX4) (T := TX4) (N := 11) hx hb hts in_X4_undo_X4 hown hK hP 0 rfl rfl 4 (by decide) (hts _ (List.mem_of_getElem? (i := 1) rfl)) (fun _ h9 => h9) rfl dX4_undo_45 ?_
          refine lv_imul hx hb dX4_undo_48 ?_
          refine lv_tope (y := (nI (523 * (np - 1)))) (show (523 * (nI (np - 1)) : Int32) = nI (523 * (np - 1)) from pk_mul (523) (np - 1)) ?_
          refine lv_iload_n hx hb dX4_undo_49 rfl (lv_at hl 0 rfl) ?_
          refine lv_iadd hx hb dX4_undo_50 ?_
          refine lv_tope (y := (nI ((523 * (np - 1)) + k))) (show ((nI (523 * (np - 1))) + (nI k) : Int32) = nI ((523 * (np - 1)) + k) from nI_add (523 * (np - 1)) (k)) ?_
          refine gIald (k := ((523 * (np - 1)) + k)) hx hb hE hP 2 rfl (by omega) (by omega) dX4_undo_51 ?_
          refine gIast (k := k) (x := (pst ((523 * (np - 1)) + k))) (wsn := [(m0, .inr (4, [.ref m1, .long ma, .ref m2, .ref m3, .int (nI (np - 1)), .ref m4, .int (nI ln), .int th, .ref m5, .int (nI at_), .long hs])), (m1, .inl (g.2.1 0, 523, .inl (upd (unK pst (np - 1) rw k) k (pst ((523 * (np - 1)) + k))))), (m2, .inl (g.2.1 0, 2092, .inl pst)), (m3, .inl (g.2.1 1, 4, .inr (.inl pa)))]) hx hb hE hP hD hS 1 rfl (by omega) (by omega) dX4_undo_52 (hw := rfl) (kk := fun H locs hP hD hS => ?_)
          refine lv_iinc (v := (nI (k + 1))) (lv' := [(1, .int (nI (k + 1))), (0, .ref m0)]) hx hb dX4_undo_53 hl (k := 0) rfl (nI_add (k) 1) (by decide) rfl (fun ls hl => ?_)
          refine lv_goto (tgt := 25) hx hb dX4_undo_56 (by decide) ?_
          exact ih25 (k + 1) (by omega) (by omega) (upd (unK pst (np - 1) rw k) k (pst ((523 * (np - 1)) + k))) unK_s _ _ hP hD hS _ (lv_sub hl [0, 1] rfl)
    exact lp25 ((523 - 0) + 1) 0 (Nat.lt_succ_self _) (by omega) rw unK_0 _ _ hP hD hS _ (lv_sub hl [0, 1] rfl)
  · have n4 : np = 0 := (nI_eq (a := np) (b := 0) (by omega) (by omega)).mp c4
    refine lv_aload_n hx hb dX4_undo_7 rfl (lv_at hl 0 rfl) ?_
    refine lv_iconst (v := 1) hx hb dX4_undo_8 (by decide) ?_
    refine kUi (fun _ => [(m0, .inr (4, [.ref m1, .long ma, .ref m2, .ref m3, .int (nI np), .ref m4, .int (nI ln), .int 1, .ref m5, .int (nI at_), .long hs])), (m1, .inl (g.2.1 0, 523, .inl rw)), (m2, .inl (g.2.1 0, 2092, .inl pst)), (m3, .inl (g.2.1 1, 4, .inr (.inl pa)))]) (va_runV (As := [.int 1]) (rest := []) ⟨hx, hb, hml, hown, hts⟩ (c_X4_fails l g m0 m1 m2 m3 m4 m5 ma np ln th at_ hs 1) (cwV 1 hts gX4_undo_X4_fails rfl rfl rfl (by decide +kernel) ⟨(Nat.le_of_ble_eq_true rfl), (Nat.le_of_ble_eq_true rfl)⟩) (preVd (RX4, TX4, 11) hE hP hD [0] (by decide) rfl rfl) rfl rfl hl.1 rfl (lv_room (Nat.le_of_ble_eq_true rfl)) dX4_undo_9 ⟨(Nat.le_of_ble_eq_true rfl), (Nat.le_of_ble_eq_true rfl)⟩) hP hD hS [0] [1, 2, 3] 4 [m0, m1, m2, m3] [(m1, .inl (g.2.1 0, 523, .inl rw)), (m2, .inl (g.2.1 0, 2092, .inl pst)), (m3, .inl (g.2.1 1, 4, .inr (.inl pa)))] rfl rfl rfl (fun _ => rfl) (fun _ => rfl) (fun _ => rfl) rfl (by decide) (fun r9 _ H locs hr9 hP hD hS => ?_)
    subst hr9
    subst hQ
    have hP9 : va_P g.1 vwCl [(m0, .inr (4, [.ref m1, .long ma, .ref m2, .ref m3, .int (nI np), .ref m4, .int (nI ln), .int 1, .ref m5, .int (nI at_), .long hs])), (m1, .inl (g.2.1 0, 523, .inl rw)), (m2, .inl (g.2.1 0, 2092, .inl pst)), (m3, .inl (g.2.1 1, 4, .inr (.inl pa)))] H := hP
    exact W.iret (v := 0) hx hb hr (fun t ht hW => ⟨⟨0, (some 1), rfl, Or.inr ⟨rfl, n4⟩, by show va_P g.1 vwCl _ t.heap; rw [ht]; exact hP9⟩, hS.F ht⟩) hS.2.2 dX4_undo_12
