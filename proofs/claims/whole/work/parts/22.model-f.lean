/-! MODEL, running: printed by wip/whole/gen/spec_model6.py -/
theorem in_X4_runOne_X4 : ∀ w ∈ wsX40, w ∈ wsX4_runOne := by decide +kernel
abbrev rm_X4_runOne : Room := { frames := 4, cells := 0, slots := 0, locals := 91 }
set_option maxRecDepth 100000 in
set_option maxHeartbeats 4000000 in
theorem c_X4_runOne (l : Launch) (g : GT) (m0 : Nat) (m1 : Nat) (m2 : Nat) (m3 : Nat) (m4 : Nat) (m5 : Nat) (ma : Int64) (np : Nat) (ln : Nat) (th : Int32) (at_ : Nat) (hs : Int64) (rw : Nat → Int32) (w : Nat) (tx : Nat → Int32) (hw8 : w ≤ 8) (hrw : rw 0 = nI w) (hat9 : at_ < ln) (hln : ln ≤ 100) (hv : (foF tx ln at_).1 = -1) (hreg : regOK w (mG rw)) : cUi l g yX4_runOne wsX4_runOne rm_X4_runOne [.ref m0] [(m0, .inr (4, [.ref m1, .long ma, .ref m2, .ref m3, .int (nI np), .ref m4, .int (nI ln), .int th, .ref m5, .int (nI at_), .long hs])), (m1, .inl (g.2.1 0, 523, .inl rw)), (m4, .inl (g.2.1 0, 100, .inl tx))] (fun r (_ : Unit) => r = ((roX rw w tx ln at_).2.1)) (fun _ => [(m0, .inr (4, [.ref m1, .long ma, .ref m2, .ref m3, .int (nI np), .ref m4, .int (nI ln), .int th, .ref m5, .int (nI ((roX rw w tx ln at_).2.2)), .long hs])), (m1, .inl (g.2.1 0, 523, .inl ((roX rw w tx ln at_).1))), (m4, .inl (g.2.1 0, 100, .inl tx))]) := by
  refine enU (y := yX4_runOne) (ws := wsX4_runOne) (av := [.ref m0]) (cc := cX4_runOne) (maxL := 5) (ret := (some .int)) (by decide) rfl (Nat.le_of_ble_eq_true rfl) rfl ?_
  intro p e s m below meth c ls hx hb hr hml hown hts hlocks hE hP hD hl
  have hK := hE.1
  have hS : va_S (va_Ad [(m0, .inr (4, [.ref m1, .long ma, .ref m2, .ref m3, .int (nI np), .ref m4, .int (nI ln), .int th, .ref m5, .int (nI at_), .long hs])), (m1, .inl (g.2.1 0, 523, .inl rw)), (m4, .inl (g.2.1 0, 100, .inl tx))]) s.heap s.heap [] := va_S.rf
  generalize hQ : MQ below _ _ s _ _ _ = Q9
  have hl : lv_has ls 5 [(0, .ref m0)] := hl
  have hok := foF_ok hln hat9 hv
  have k0 := hok.1
  have g7 := gr_le w hw8
  have l0 := lx_4 k0.2
  have m0_ := (lx_e k0.2).2
  refine lv_iconst (v := 4) hx hb dX4_runOne_0 (by decide) ?_
  refine lv_aload_n hx hb dX4_runOne_1 rfl (lv_at hl 0 rfl) ?_
  refine va_get (D := g.1) (ci := 4) (v := .ref m4) (C := RX4) (T := TX4) (N := 11) hx hb hts in_X4_runOne_X4 hown hK hP 0 rfl rfl 5 (by decide) (hts _ (List.mem_of_getElem? (i := 1) rfl)) (fun _ h9 => h9) rfl dX4_runOne_2 ?_
  refine lv_aload_n hx hb dX4_runOne_5 rfl (lv_at hl 0 rfl) ?_
  refine va_get (D := g.1) (ci := 4) (v := .int (nI at_)) (C := RX4) (T := TX4) (N := 11) hx hb hts in_X4_runOne_X4 hown hK hP 0 rfl rfl 9 (by decide) (hts _ (List.mem_of_getElem? (i := 2) rfl)) (fun _ h9 => h9) rfl dX4_runOne_6 ?_
  refine gIald (k := at_) hx hb hE hP 2 rfl (by omega) (by omega) dX4_runOne_9 ?_
  refine lv_iadd hx hb dX4_runOne_10 ?_
  refine lv_bipush (v := 97) hx hb dX4_runOne_11 (by decide) ?_
  refine lv_isub hx hb dX4_runOne_13 ?_
  refine lv_tope (y := (nI (4 + lx (tx at_)))) l0 ?_
  refine lv_istore_n (lv' := [(1, .int (nI (4 + lx (tx at_)))), (0, .ref m0)]) hx hb dX4_runOne_14 rfl hl (by decide) rfl (fun ls hl => ?_)
  refine lv_aload_n hx hb dX4_runOne_15 rfl (lv_at hl 1 rfl) ?_
  refine lv_dup hx hb dX4_runOne_16 rfl ?_
  refine va_get (D := g.1) (ci := 4) (v := .int (nI at_)) (C := RX4) (T := TX4) (N := 11) hx hb hts in_X4_runOne_X4 hown hK hP 0 rfl rfl 9 (by decide) (hts _ (List.mem_of_getElem? (i := 2) rfl)) (fun _ h9 => h9) rfl dX4_runOne_17 ?_
  refine lv_iconst (v := 2) hx hb dX4_runOne_20 (by decide) ?_
  refine lv_iadd hx hb dX4_runOne_21 ?_
  refine lv_tope (y := (nI (at_ + 2))) (show ((nI at_) + 2 : Int32) = nI (at_ + 2) from nI_add (at_) (2)) ?_
  refine va_put (D := g.1) (ci := 4) (v := .int (nI (at_ + 2))) (ty := .int) (C := RX4) (T := TX4) (N := 11) hx hb hts in_X4_runOne_X4 tyX4 tyX4_ok nmX4 hown hK hP hD hS 0 rfl rfl 9 (by decide) (hts _ (List.mem_of_getElem? (i := 2) rfl)) (fun _ h9 => h9) rfl (by decide +kernel) rfl rfl (Nat.le_of_ble_eq_true rfl) dX4_runOne_22 (fun H locs hP hD hS => ?_)
  have hP : va_P g.1 vwCl [(m0, .inr (4, [.ref m1, .long ma, .ref m2, .ref m3, .int (nI np), .ref m4, .int (nI ln), .int th, .ref m5, .int (nI (at_ + 2)), .long hs])), (m1, .inl (g.2.1 0, 523, .inl rw)), (m4, .inl (g.2.1 0, 100, .inl tx))] _ := hP
  have hD : va_D (va_Ad [(m0, .inr (4, [.ref m1, .long ma, .ref m2, .ref m3, .int (nI np), .ref m4, .int (nI ln), .int th, .ref m5, .int (nI at_), .long hs])), (m1, .inl (g.2.1 0, 523, .inl rw)), (m4, .inl (g.2.1 0, 100, .inl tx))]) [(m0, .inr (4, [.ref m1, .long ma, .ref m2, .ref m3, .int (nI np), .ref m4, .int (nI ln), .int th, .ref m5, .int (nI (at_ + 2)), .long hs])), (m1, .inl (g.2.1 0, 523, .inl rw)), (m4, .inl (g.2.1 0, 100, .inl tx))] := hD
  refine lv_aload_n hx hb dX4_runOne_25 rfl (lv_at hl 1 rfl) ?_
  refine lv_bipush (v := 48) hx hb dX4_runOne_26 (by decide) ?_
  refine lv_bipush (v := 57) hx hb dX4_runOne_28 (by decide) ?_
  refine kRi (va_runV (As := [.int 48, .int 57]) (rest := []) ⟨hx, hb, hml, hown, hts⟩ (c_X4_sees l g m0 m1 m2 m3 m4 m5 ma np ln th (at_ + 2) hs tx 48 57 (by first | assumption | omega | exact Nat.le_of_ble_eq_true rfl) (by first | assumption | omega | exact Nat.le_of_ble_eq_true rfl)) (cwV 2 hts gX4_runOne_X4_sees rfl rfl rfl (by decide +kernel) ⟨(Nat.le_of_ble_eq_true rfl), (Nat.le_of_ble_eq_true rfl)⟩) (preV (RX4, TX4, 11) hE hP [0, 2] rfl rfl) rfl rfl hl.1 rfl (lv_room (Nat.le_of_ble_eq_true rfl)) dX4_runOne_30 ⟨(Nat.le_of_ble_eq_true rfl), (Nat.le_of_ble_eq_true rfl)⟩) hP hS (fun r9 H locs hr9 hP hS => ?_)
  subst hr9
  refine lv_if_eq (tgt := 63) hx hb dX4_runOne_33 (by decide) (fun c33 => ?_) (fun c33 => ?_)
  · have b33 : ¬ (seP tx ln (at_ + 2) 48 57) := bz_f c33
    have k2 : seP tx ln (at_ + 2) 97 104 := (hok.2.resolve_left (fun h => b33 h.1)).2.1
    have k4 : seP tx ln (at_ + 2 + 2) 97 104 := (hok.2.resolve_left (fun h => b33 h.1)).2.2.2.1
    have l2 := lx_4 k2.2
    have l4 := lx_4 k4.2
    have m2_ := (lx_e k2.2).2
    have m4_ := (lx_e k4.2).2
    have r2 := hreg _ m2_
    have r4 := hreg _ m4_
    dsimp only [mG] at r2 r4
    refine lv_aload_n hx hb dX4_runOne_63 rfl (lv_at hl 1 rfl) ?_
    refine va_get (D := g.1) (ci := 4) (v := .ref m1) (C := RX4) (T := TX4) (N := 11) hx hb hts in_X4_runOne_X4 hown hK hP 0 rfl rfl 0 (by decide) (hts _ (List.mem_of_getElem? (i := 3) rfl)) (fun _ h9 => h9) rfl dX4_runOne_64 ?_
    refine lv_iconst (v := 4) hx hb dX4_runOne_67 (by decide) ?_
    refine lv_aload_n hx hb dX4_runOne_68 rfl (lv_at hl 1 rfl) ?_
    refine va_get (D := g.1) (ci := 4) (v := .ref m4) (C := RX4) (T := TX4) (N := 11) hx hb hts in_X4_runOne_X4 hown hK hP 0 rfl rfl 5 (by decide) (hts _ (List.mem_of_getElem? (i := 1) rfl)) (fun _ h9 => h9) rfl dX4_runOne_69 ?_
    refine lv_aload_n hx hb dX4_runOne_72 rfl (lv_at hl 1 rfl) ?_
    refine va_get (D := g.1) (ci := 4) (v := .int (nI (at_ + 2))) (C := RX4) (T := TX4) (N := 11) hx hb hts in_X4_runOne_X4 hown hK hP 0 rfl rfl 9 (by decide) (hts _ (List.mem_of_getElem? (i := 2) rfl)) (fun _ h9 => h9) rfl dX4_runOne_73 ?_
    refine gIald (k := (at_ + 2)) hx hb hE hP 2 rfl (by omega) (by omega) dX4_runOne_76 ?_
    refine lv_iadd hx hb dX4_runOne_77 ?_
    refine lv_bipush (v := 97) hx hb dX4_runOne_78 (by decide) ?_
    refine lv_isub hx hb dX4_runOne_80 ?_
    refine lv_tope (y := (nI (4 + lx (tx (at_ + 2))))) l2 ?_
    refine gIald (k := (4 + lx (tx (at_ + 2)))) hx hb hE hP 1 rfl (by omega) (by omega) dX4_runOne_81 ?_
    refine lv_tope (y := (nI (tn (rw (4 + lx (tx (at_ + 2))))))) r2.1 ?_
    refine lv_istore_n (lv' := [(2, .int (nI (tn (rw (4 + lx (tx (at_ + 2))))))), (1, .int (nI (4 + lx (tx at_)))), (0, .ref m0)]) hx hb dX4_runOne_82 rfl hl (by decide) rfl (fun ls hl => ?_)
    refine lv_aload_n hx hb dX4_runOne_83 rfl (lv_at hl 2 rfl) ?_
    refine va_get (D := g.1) (ci := 4) (v := .ref m4) (C := RX4) (T := TX4) (N := 11) hx hb hts in_X4_runOne_X4 hown hK hP 0 rfl rfl 5 (by decide) (hts _ (List.mem_of_getElem? (i := 1) rfl)) (fun _ h9 => h9) rfl dX4_runOne_84 ?_
    refine lv_aload_n hx hb dX4_runOne_87 rfl (lv_at hl 2 rfl) ?_
    refine va_get (D := g.1) (ci := 4) (v := .int (nI (at_ + 2))) (C := RX4) (T := TX4) (N := 11) hx hb hts in_X4_runOne_X4 hown hK hP 0 rfl rfl 9 (by decide) (hts _ (List.mem_of_getElem? (i := 2) rfl)) (fun _ h9 => h9) rfl dX4_runOne_88 ?_
    refine lv_iconst (v := 1) hx hb dX4_runOne_91 (by decide) ?_
    refine lv_iadd hx hb dX4_runOne_92 ?_
    refine lv_tope (y := (nI ((at_ + 2) + 1))) (show ((nI (at_ + 2)) + 1 : Int32) = nI ((at_ + 2) + 1) from nI_add (at_ + 2) (1)) ?_
    refine gIald (k := ((at_ + 2) + 1)) hx hb hE hP 2 rfl (by omega) (by omega) dX4_runOne_93 ?_
    refine lv_istore_n (lv' := [(3, .int (tx ((at_ + 2) + 1))), (2, .int (nI (tn (rw (4 + lx (tx (at_ + 2))))))), (1, .int (nI (4 + lx (tx at_)))), (0, .ref m0)]) hx hb dX4_runOne_94 rfl hl (by decide) rfl (fun ls hl => ?_)
    refine lv_aload_n hx hb dX4_runOne_95 rfl (lv_at hl 3 rfl) ?_
    refine va_get (D := g.1) (ci := 4) (v := .ref m1) (C := RX4) (T := TX4) (N := 11) hx hb hts in_X4_runOne_X4 hown hK hP 0 rfl rfl 0 (by decide) (hts _ (List.mem_of_getElem? (i := 3) rfl)) (fun _ h9 => h9) rfl dX4_runOne_96 ?_
    refine lv_iconst (v := 4) hx hb dX4_runOne_99 (by decide) ?_
    refine lv_aload_n hx hb dX4_runOne_100 rfl (lv_at hl 3 rfl) ?_
    refine va_get (D := g.1) (ci := 4) (v := .ref m4) (C := RX4) (T := TX4) (N := 11) hx hb hts in_X4_runOne_X4 hown hK hP 0 rfl rfl 5 (by decide) (hts _ (List.mem_of_getElem? (i := 1) rfl)) (fun _ h9 => h9) rfl dX4_runOne_101 ?_
    refine lv_aload_n hx hb dX4_runOne_104 rfl (lv_at hl 3 rfl) ?_
    refine va_get (D := g.1) (ci := 4) (v := .int (nI (at_ + 2))) (C := RX4) (T := TX4) (N := 11) hx hb hts in_X4_runOne_X4 hown hK hP 0 rfl rfl 9 (by decide) (hts _ (List.mem_of_getElem? (i := 2) rfl)) (fun _ h9 => h9) rfl dX4_runOne_105 ?_
    refine lv_iconst (v := 2) hx hb dX4_runOne_108 (by decide) ?_
    refine lv_iadd hx hb dX4_runOne_109 ?_
    refine lv_tope (y := (nI ((at_ + 2) + 2))) (show ((nI (at_ + 2)) + 2 : Int32) = nI ((at_ + 2) + 2) from nI_add (at_ + 2) (2)) ?_
    refine gIald (k := ((at_ + 2) + 2)) hx hb hE hP 2 rfl (by omega) (by omega) dX4_runOne_110 ?_
    refine lv_iadd hx hb dX4_runOne_111 ?_
    refine lv_bipush (v := 97) hx hb dX4_runOne_112 (by decide) ?_
    refine lv_isub hx hb dX4_runOne_114 ?_
    refine lv_tope (y := (nI (4 + lx (tx (at_ + 2 + 2))))) l4 ?_
    refine gIald (k := (4 + lx (tx (at_ + 2 + 2)))) hx hb hE hP 1 rfl (by omega) (by omega) dX4_runOne_115 ?_
    refine lv_tope (y := (nI (tn (rw (4 + lx (tx (at_ + 2 + 2))))))) r4.1 ?_
    refine lv_istore (lv' := [(4, .int (nI (tn (rw (4 + lx (tx (at_ + 2 + 2))))))), (3, .int (tx ((at_ + 2) + 1))), (2, .int (nI (tn (rw (4 + lx (tx (at_ + 2))))))), (1, .int (nI (4 + lx (tx at_)))), (0, .ref m0)]) hx hb dX4_runOne_116 hl (by decide) rfl (fun ls hl => ?_)
    refine lv_aload_n hx hb dX4_runOne_118 rfl (lv_at hl 4 rfl) ?_
    refine lv_dup hx hb dX4_runOne_119 rfl ?_
    refine va_get (D := g.1) (ci := 4) (v := .int (nI (at_ + 2))) (C := RX4) (T := TX4) (N := 11) hx hb hts in_X4_runOne_X4 hown hK hP 0 rfl rfl 9 (by decide) (hts _ (List.mem_of_getElem? (i := 2) rfl)) (fun _ h9 => h9) rfl dX4_runOne_120 ?_
    refine lv_iconst (v := 4) hx hb dX4_runOne_123 (by decide) ?_
    refine lv_iadd hx hb dX4_runOne_124 ?_
    refine lv_tope (y := (nI ((at_ + 2) + 4))) (show ((nI (at_ + 2)) + 4 : Int32) = nI ((at_ + 2) + 4) from nI_add (at_ + 2) (4)) ?_
    refine va_put (D := g.1) (ci := 4) (v := .int (nI ((at_ + 2) + 4))) (ty := .int) (C := RX4) (T := TX4) (N := 11) hx hb hts in_X4_runOne_X4 tyX4 tyX4_ok nmX4 hown hK hP hD hS 0 rfl rfl 9 (by decide) (hts _ (List.mem_of_getElem? (i := 2) rfl)) (fun _ h9 => h9) rfl (by decide +kernel) rfl rfl (Nat.le_of_ble_eq_true rfl) dX4_runOne_125 (fun H locs hP hD hS => ?_)
    have hP : va_P g.1 vwCl [(m0, .inr (4, [.ref m1, .long ma, .ref m2, .ref m3, .int (nI np), .ref m4, .int (nI ln), .int th, .ref m5, .int (nI ((at_ + 2) + 4)), .long hs])), (m1, .inl (g.2.1 0, 523, .inl rw)), (m4, .inl (g.2.1 0, 100, .inl tx))] _ := hP
    have hD : va_D (va_Ad [(m0, .inr (4, [.ref m1, .long ma, .ref m2, .ref m3, .int (nI np), .ref m4, .int (nI ln), .int th, .ref m5, .int (nI at_), .long hs])), (m1, .inl (g.2.1 0, 523, .inl rw)), (m4, .inl (g.2.1 0, 100, .inl tx))]) [(m0, .inr (4, [.ref m1, .long ma, .ref m2, .ref m3, .int (nI np), .ref m4, .int (nI ln), .int th, .ref m5, .int (nI ((at_ + 2) + 4)), .long hs])), (m1, .inl (g.2.1 0, 523, .inl rw)), (m4, .inl (g.2.1 0, 100, .inl tx))] := hD
    refine lv_aload_n hx hb dX4_runOne_128 rfl (lv_at hl 4 rfl) ?_
    refine va_get (D := g.1) (ci := 4) (v := .ref m1) (C := RX4) (T := TX4) (N := 11) hx hb hts in_X4_runOne_X4 hown hK hP 0 rfl rfl 0 (by decide) (hts _ (List.mem_of_getElem? (i := 3) rfl)) (fun _ h9 => h9) rfl dX4_runOne_129 ?_
    refine lv_iload_n hx hb dX4_runOne_132 rfl (lv_at hl 3 rfl) ?_
    refine lv_aload_n hx hb dX4_runOne_133 rfl (lv_at hl 4 rfl) ?_
    refine lv_iload_n hx hb dX4_runOne_134 rfl (lv_at hl 1 rfl) ?_
    refine lv_iload_n hx hb dX4_runOne_135 rfl (lv_at hl 2 rfl) ?_
    refine lv_iload hx hb dX4_runOne_136 (lv_at hl 0 rfl) ?_
    refine kRi (va_runV (As := [.int (tx ((at_ + 2) + 1)), .int (nI (tn (rw (4 + lx (tx (at_ + 2)))))), .int (nI (tn (rw (4 + lx (tx (at_ + 2 + 2))))))]) (rest := [.int (nI (4 + lx (tx at_))), .ref m1]) ⟨hx, hb, hml, hown, hts⟩ (c_X4_by l g m0 m1 m2 m3 m4 m5 ma np ln th ((at_ + 2) + 4) hs rw w (tx ((at_ + 2) + 1)) (tn (rw (4 + lx (tx (at_ + 2))))) (tn (rw (4 + lx (tx (at_ + 2 + 2))))) (by omega) (by omega)) (cwV 3 hts gX4_runOne_X4_by rfl rfl rfl (by decide +kernel) ⟨(Nat.le_of_ble_eq_true rfl), (Nat.le_of_ble_eq_true rfl)⟩) (preV (RX4, TX4, 11) hE hP [0, 1] rfl rfl) rfl rfl hl.1 rfl (lv_room (Nat.le_of_ble_eq_true rfl)) dX4_runOne_138 ⟨(Nat.le_of_ble_eq_true rfl), (Nat.le_of_ble_eq_true rfl)⟩) hP hS (fun r9 H locs hr9 hP hS => ?_)
    subst hr9
    refine lv_aload_n hx hb dX4_runOne_141 rfl (lv_at hl 4 rfl) ?_
    refine kRi (va_runV (As := []) (rest := [.int (byF rw (tn (rw (4 + lx (tx (at_ + 2))))) (tx ((at_ + 2) + 1)) (tn (rw (4 + lx (tx (at_ + 2 + 2)))))), .int (nI (4 + lx (tx at_))), .ref m1]) ⟨hx, hb, hml, hown, hts⟩ (c_X4_top l g m0 m1 m2 m3 m4 m5 ma np ln th ((at_ + 2) + 4) hs rw w (by first | assumption | omega | exact Nat.le_of_ble_eq_true rfl) (by first | assumption | omega | exact Nat.le_of_ble_eq_true rfl)) (cwV 0 hts gX4_runOne_X4_top rfl rfl rfl (by decide +kernel) ⟨(Nat.le_of_ble_eq_true rfl), (Nat.le_of_ble_eq_true rfl)⟩) (preV (RX4, TX4, 11) hE hP [0, 1] rfl rfl) rfl rfl hl.1 rfl (lv_room (Nat.le_of_ble_eq_true rfl)) dX4_runOne_142 ⟨(Nat.le_of_ble_eq_true rfl), (Nat.le_of_ble_eq_true rfl)⟩) hP hS (fun r9 H locs hr9 hP hS => ?_)
    subst hr9
    refine lv_iand hx hb dX4_runOne_145 ?_
    refine gIast (k := (4 + lx (tx at_))) (x := ((byF rw (tn (rw (4 + lx (tx (at_ + 2))))) (tx ((at_ + 2) + 1)) (tn (rw (4 + lx (tx (at_ + 2 + 2)))))) &&& (nI (gr w)))) (wsn := [(m0, .inr (4, [.ref m1, .long ma, .ref m2, .ref m3, .int (nI np), .ref m4, .int (nI ln), .int th, .ref m5, .int (nI ((at_ + 2) + 4)), .long hs])), (m1, .inl (g.2.1 0, 523, .inl (upd rw (4 + lx (tx at_)) ((byF rw (tn (rw (4 + lx (tx (at_ + 2))))) (tx ((at_ + 2) + 1)) (tn (rw (4 + lx (tx (at_ + 2 + 2)))))) &&& (nI (gr w)))))), (m4, .inl (g.2.1 0, 100, .inl tx))]) hx hb hE hP hD hS 1 rfl (by omega) (by omega) dX4_runOne_146 (hw := rfl) (kk := fun H locs hP hD hS => ?_)
    refine lv_aload_n hx hb dX4_runOne_147 rfl (lv_at hl 4 rfl) ?_
    refine lv_iload_n hx hb dX4_runOne_148 rfl (lv_at hl 1 rfl) ?_
    refine lv_iload hx hb dX4_runOne_149 (lv_at hl 0 rfl) ?_
    refine kRi (va_runV (As := [.int (tx ((at_ + 2) + 1)), .int (nI (tn (rw (4 + lx (tx (at_ + 2 + 2))))))]) (rest := []) ⟨hx, hb, hml, hown, hts⟩ (c_X4_priceBy l g m0 m1 m2 m3 m4 m5 ma np ln th ((at_ + 2) + 4) hs (upd rw (4 + lx (tx at_)) ((byF rw (tn (rw (4 + lx (tx (at_ + 2))))) (tx ((at_ + 2) + 1)) (tn (rw (4 + lx (tx (at_ + 2 + 2)))))) &&& (nI (gr w)))) w (tx ((at_ + 2) + 1)) (tn (rw (4 + lx (tx (at_ + 2 + 2))))) (by first | assumption | omega | exact Nat.le_of_ble_eq_true rfl)) (cwV 2 hts gX4_runOne_X4_priceBy rfl rfl rfl (by decide +kernel) ⟨(Nat.le_of_ble_eq_true rfl), (Nat.le_of_ble_eq_true rfl)⟩) (preV (RX4, TX4, 11) hE hP [0, 1] rfl rfl) rfl rfl hl.1 rfl (lv_room (Nat.le_of_ble_eq_true rfl)) dX4_runOne_151 ⟨(Nat.le_of_ble_eq_true rfl), (Nat.le_of_ble_eq_true rfl)⟩) hP hS (fun r9 H locs hr9 hP hS => ?_)
    subst hr9
    have e9 := roX_l (rw := rw) (w := w) b33
    subst hQ
    have hP9 : va_P g.1 vwCl [(m0, .inr (4, [.ref m1, .long ma, .ref m2, .ref m3, .int (nI np), .ref m4, .int (nI ln), .int th, .ref m5, .int (nI ((roX rw w tx ln at_).2.2)), .long hs])), (m1, .inl (g.2.1 0, 523, .inl ((roX rw w tx ln at_).1))), (m4, .inl (g.2.1 0, 100, .inl tx))] H := by rw [e9]; exact hP
    exact W.iret (v := (pbF (upd rw (4 + lx (tx at_)) ((byF rw (tn (rw (4 + lx (tx (at_ + 2))))) (tx ((at_ + 2) + 1)) (tn (rw (4 + lx (tx (at_ + 2 + 2)))))) &&& (nI (gr w)))) (tx ((at_ + 2) + 1)) (tn (rw (4 + lx (tx (at_ + 2 + 2))))))) hx hb hr (fun t ht hW => ⟨⟨(pbF (upd rw (4 + lx (tx at_)) ((byF rw (tn (rw (4 + lx (tx (at_ + 2))))) (tx ((at_ + 2) + 1)) (tn (rw (4 + lx (tx (at_ + 2 + 2)))))) &&& (nI (gr w)))) (tx ((at_ + 2) + 1)) (tn (rw (4 + lx (tx (at_ + 2 + 2)))))), (), rfl, by rw [e9]; exact pbF_u, by show va_P g.1 vwCl _ t.heap; rw [ht]; exact hP9⟩, hS.F ht⟩) hS.2.2 dX4_runOne_154
  · have b33 : seP tx ln (at_ + 2) 48 57 := bz_t c33
    have k3 := hok.2.resolve_right (fun h => h.1 b33)
    have k5 := nuS_b (tx := tx) (ln := ln) 3 (at_ + 2) 0 (by have := b33.1; omega)
    have k6 := k3.2.2.1.1
    refine lv_aload_n hx hb dX4_runOne_36 rfl (lv_at hl 1 rfl) ?_
    refine va_get (D := g.1) (ci := 4) (v := .ref m1) (C := RX4) (T := TX4) (N := 11) hx hb hts in_X4_runOne_X4 hown hK hP 0 rfl rfl 0 (by decide) (hts _ (List.mem_of_getElem? (i := 3) rfl)) (fun _ h9 => h9) rfl dX4_runOne_37 ?_
    refine lv_iload_n hx hb dX4_runOne_40 rfl (lv_at hl 0 rfl) ?_
    refine lv_aload_n hx hb dX4_runOne_41 rfl (lv_at hl 1 rfl) ?_
    refine kUi (fun _ => [(m0, .inr (4, [.ref m1, .long ma, .ref m2, .ref m3, .int (nI np), .ref m4, .int (nI ln), .int th, .ref m5, .int (nI ((nuS tx ln 3 (at_ + 2) 0).2)), .long hs])), (m1, .inl (g.2.1 0, 523, .inl rw)), (m4, .inl (g.2.1 0, 100, .inl tx))]) (va_runV (As := []) (rest := [.int (nI (4 + lx (tx at_))), .ref m1]) ⟨hx, hb, hml, hown, hts⟩ (c_X4_number l g m0 m1 m2 m3 m4 m5 ma np ln th (at_ + 2) hs tx (by first | assumption | omega | exact Nat.le_of_ble_eq_true rfl) (by first | assumption | omega | exact Nat.le_of_ble_eq_true rfl)) (cwV 0 hts gX4_runOne_X4_number rfl rfl rfl (by decide +kernel) ⟨(Nat.le_of_ble_eq_true rfl), (Nat.le_of_ble_eq_true rfl)⟩) (preVd (RX4, TX4, 11) hE hP hD [0, 2] (by decide) rfl rfl) rfl rfl hl.1 rfl (lv_room (Nat.le_of_ble_eq_true rfl)) dX4_runOne_42 ⟨(Nat.le_of_ble_eq_true rfl), (Nat.le_of_ble_eq_true rfl)⟩) hP hD hS [0, 2] [1] 3 [m0, m1, m4] [(m1, .inl (g.2.1 0, 523, .inl rw))] rfl rfl rfl (fun _ => rfl) (fun _ => rfl) (fun _ => rfl) rfl (by decide) (fun r9 _ H locs hr9 hP hD hS => ?_)
    subst hr9
    refine lv_aload_n hx hb dX4_runOne_45 rfl (lv_at hl 1 rfl) ?_
    refine kRi (va_runV (As := []) (rest := [.int ((nuS tx ln 3 (at_ + 2) 0).1), .int (nI (4 + lx (tx at_))), .ref m1]) ⟨hx, hb, hml, hown, hts⟩ (c_X4_top l g m0 m1 m2 m3 m4 m5 ma np ln th ((nuS tx ln 3 (at_ + 2) 0).2) hs rw w (by first | assumption | omega | exact Nat.le_of_ble_eq_true rfl) (by first | assumption | omega | exact Nat.le_of_ble_eq_true rfl)) (cwV 0 hts gX4_runOne_X4_top rfl rfl rfl (by decide +kernel) ⟨(Nat.le_of_ble_eq_true rfl), (Nat.le_of_ble_eq_true rfl)⟩) (preV (RX4, TX4, 11) hE hP [0, 1] rfl rfl) rfl rfl hl.1 rfl (lv_room (Nat.le_of_ble_eq_true rfl)) dX4_runOne_46 ⟨(Nat.le_of_ble_eq_true rfl), (Nat.le_of_ble_eq_true rfl)⟩) hP hS (fun r9 H locs hr9 hP hS => ?_)
    subst hr9
    refine lv_iand hx hb dX4_runOne_49 ?_
    refine gIast (k := (4 + lx (tx at_))) (x := (((nuS tx ln 3 (at_ + 2) 0).1) &&& (nI (gr w)))) (wsn := [(m0, .inr (4, [.ref m1, .long ma, .ref m2, .ref m3, .int (nI np), .ref m4, .int (nI ln), .int th, .ref m5, .int (nI ((nuS tx ln 3 (at_ + 2) 0).2)), .long hs])), (m1, .inl (g.2.1 0, 523, .inl (upd rw (4 + lx (tx at_)) (((nuS tx ln 3 (at_ + 2) 0).1) &&& (nI (gr w)))))), (m4, .inl (g.2.1 0, 100, .inl tx))]) hx hb hE hP hD hS 1 rfl (by omega) (by omega) dX4_runOne_50 (hw := rfl) (kk := fun H locs hP hD hS => ?_)
    refine lv_aload_n hx hb dX4_runOne_51 rfl (lv_at hl 1 rfl) ?_
    refine lv_dup hx hb dX4_runOne_52 rfl ?_
    refine va_get (D := g.1) (ci := 4) (v := .int (nI ((nuS tx ln 3 (at_ + 2) 0).2))) (C := RX4) (T := TX4) (N := 11) hx hb hts in_X4_runOne_X4 hown hK hP 0 rfl rfl 9 (by decide) (hts _ (List.mem_of_getElem? (i := 2) rfl)) (fun _ h9 => h9) rfl dX4_runOne_53 ?_
    refine lv_iconst (v := 1) hx hb dX4_runOne_56 (by decide) ?_
    refine lv_iadd hx hb dX4_runOne_57 ?_
    refine lv_tope (y := (nI (((nuS tx ln 3 (at_ + 2) 0).2) + 1))) (show ((nI ((nuS tx ln 3 (at_ + 2) 0).2)) + 1 : Int32) = nI (((nuS tx ln 3 (at_ + 2) 0).2) + 1) from nI_add ((nuS tx ln 3 (at_ + 2) 0).2) (1)) ?_
    refine va_put (D := g.1) (ci := 4) (v := .int (nI (((nuS tx ln 3 (at_ + 2) 0).2) + 1))) (ty := .int) (C := RX4) (T := TX4) (N := 11) hx hb hts in_X4_runOne_X4 tyX4 tyX4_ok nmX4 hown hK hP hD hS 0 rfl rfl 9 (by decide) (hts _ (List.mem_of_getElem? (i := 2) rfl)) (fun _ h9 => h9) rfl (by decide +kernel) rfl rfl (Nat.le_of_ble_eq_true rfl) dX4_runOne_58 (fun H locs hP hD hS => ?_)
    have hP : va_P g.1 vwCl [(m0, .inr (4, [.ref m1, .long ma, .ref m2, .ref m3, .int (nI np), .ref m4, .int (nI ln), .int th, .ref m5, .int (nI (((nuS tx ln 3 (at_ + 2) 0).2) + 1)), .long hs])), (m1, .inl (g.2.1 0, 523, .inl (upd rw (4 + lx (tx at_)) (((nuS tx ln 3 (at_ + 2) 0).1) &&& (nI (gr w)))))), (m4, .inl (g.2.1 0, 100, .inl tx))] _ := hP
    have hD : va_D (va_Ad [(m0, .inr (4, [.ref m1, .long ma, .ref m2, .ref m3, .int (nI np), .ref m4, .int (nI ln), .int th, .ref m5, .int (nI at_), .long hs])), (m1, .inl (g.2.1 0, 523, .inl rw)), (m4, .inl (g.2.1 0, 100, .inl tx))]) [(m0, .inr (4, [.ref m1, .long ma, .ref m2, .ref m3, .int (nI np), .ref m4, .int (nI ln), .int th, .ref m5, .int (nI (((nuS tx ln 3 (at_ + 2) 0).2) + 1)), .long hs])), (m1, .inl (g.2.1 0, 523, .inl (upd rw (4 + lx (tx at_)) (((nuS tx ln 3 (at_ + 2) 0).1) &&& (nI (gr w)))))), (m4, .inl (g.2.1 0, 100, .inl tx))] := hD
    refine lv_iconst (v := 0) hx hb dX4_runOne_61 (by decide) ?_
    have e9 := roX_n (rw := rw) (w := w) b33
    subst hQ
    have hP9 : va_P g.1 vwCl [(m0, .inr (4, [.ref m1, .long ma, .ref m2, .ref m3, .int (nI np), .ref m4, .int (nI ln), .int th, .ref m5, .int (nI ((roX rw w tx ln at_).2.2)), .long hs])), (m1, .inl (g.2.1 0, 523, .inl ((roX rw w tx ln at_).1))), (m4, .inl (g.2.1 0, 100, .inl tx))] H := by rw [e9]; exact hP
    exact W.iret (v := 0) hx hb hr (fun t ht hW => ⟨⟨0, (), rfl, by rw [e9], by show va_P g.1 vwCl _ t.heap; rw [ht]; exact hP9⟩, hS.F ht⟩) hS.2.2 dX4_runOne_62
theorem in_X4_run_X4 : ∀ w ∈ wsX40, w ∈ wsX4_run := by decide +kernel
abbrev rm_X4_run : Room := { frames := 6, cells := 0, slots := 0, locals := 130 }
set_option maxRecDepth 100000 in
set_option maxHeartbeats 4000000 in
theorem c_X4_run (l : Launch) (g : GT) (m0 : Nat) (m1 : Nat) (m2 : Nat) (m3 : Nat) (m4 : Nat) (m5 : Nat) (ma : Int64) (np : Nat) (ln : Nat) (th : Int32) (at_ : Nat) (hs : Int64) (rw : Nat → Int32) (w : Nat) (pst : Nat → Int32) (pa : Nat → Int64) (tx : Nat → Int32) (hw8 : w ≤ 8) (hrw : rw 0 = nI w) (hnp : np ≤ 4) (hln : ln ≤ 100) (hreg : regOK w (mG rw)) : cUi l g yX4_run wsX4_run rm_X4_run [.ref m0] [(m0, .inr (4, [.ref m1, .long ma, .ref m2, .ref m3, .int (nI np), .ref m4, .int (nI ln), .int th, .ref m5, .int (nI at_), .long hs])), (m1, .inl (g.2.1 0, 523, .inl rw)), (m2, .inl (g.2.1 0, 2092, .inl pst)), (m3, .inl (g.2.1 1, 4, .inr (.inl pa))), (m4, .inl (g.2.1 0, 100, .inl tx))] (fun r (ub : Bool) => (ub = true ∧ (faS tx ln ln 0).1 = -1 ∧ r = (ruS w tx ln ln (rw, 0, 0)).2.1) ∨ (ub = false ∧ ¬ (faS tx ln ln 0).1 = -1 ∧ r = -10 - (faS tx ln ln 0).1)) (fun ub => cond ub [(m0, .inr (4, [.ref m1, .long (ma + Int32.toInt64 ((ruS w tx ln ln (rw, 0, 0)).2.1)), .ref m2, .ref m3, .int (nI (kcF np)), .ref m4, .int (nI ln), .int 0, .ref m5, .int (nI ((ruS w tx ln ln (rw, 0, 0)).2.2)), .long hs])), (m1, .inl (g.2.1 0, 523, .inl ((ruS w tx ln ln (rw, 0, 0)).1))), (m2, .inl (g.2.1 0, 2092, .inl (svP pst np rw))), (m3, .inl (g.2.1 1, 4, .inr (.inl (svA pa np ma)))), (m4, .inl (g.2.1 0, 100, .inl tx))] [(m0, .inr (4, [.ref m1, .long ma, .ref m2, .ref m3, .int (nI np), .ref m4, .int (nI ln), .int 0, .ref m5, .int (nI ((faS tx ln ln 0).2)), .long hs])), (m1, .inl (g.2.1 0, 523, .inl rw)), (m2, .inl (g.2.1 0, 2092, .inl pst)), (m3, .inl (g.2.1 1, 4, .inr (.inl pa))), (m4, .inl (g.2.1 0, 100, .inl tx))]) := by
  refine enU (y := yX4_run) (ws := wsX4_run) (av := [.ref m0]) (cc := cX4_run) (maxL := 4) (ret := (some .int)) (by decide) rfl (Nat.le_of_ble_eq_true rfl) rfl ?_
  intro p e s m below meth c ls hx hb hr hml hown hts hlocks hE hP hD hl
  have hK := hE.1
  have hS : va_S (va_Ad [(m0, .inr (4, [.ref m1, .long ma, .ref m2, .ref m3, .int (nI np), .ref m4, .int (nI ln), .int th, .ref m5, .int (nI at_), .long hs])), (m1, .inl (g.2.1 0, 523, .inl rw)), (m2, .inl (g.2.1 0, 2092, .inl pst)), (m3, .inl (g.2.1 1, 4, .inr (.inl pa))), (m4, .inl (g.2.1 0, 100, .inl tx))]) s.heap s.heap [] := va_S.rf
  generalize hQ : MQ below _ _ s _ _ _ = Q9
  have hl : lv_has ls 4 [(0, .ref m0)] := hl
  refine lv_aload_n hx hb dX4_run_0 rfl (lv_at hl 0 rfl) ?_
  refine kUi (fun _ => [(m0, .inr (4, [.ref m1, .long ma, .ref m2, .ref m3, .int (nI np), .ref m4, .int (nI ln), .int th, .ref m5, .int (nI ((faS tx ln ln 0).2)), .long hs])), (m1, .inl (g.2.1 0, 523, .inl rw)), (m2, .inl (g.2.1 0, 2092, .inl pst)), (m3, .inl (g.2.1 1, 4, .inr (.inl pa))), (m4, .inl (g.2.1 0, 100, .inl tx))]) (va_runV (As := []) (rest := []) ⟨hx, hb, hml, hown, hts⟩ (c_X4_fault l g m0 m1 m2 m3 m4 m5 ma np ln th at_ hs tx (by first | assumption | omega | exact Nat.le_of_ble_eq_true rfl)) (cwV 0 hts gX4_run_X4_fault rfl rfl rfl (by decide +kernel) ⟨(Nat.le_of_ble_eq_true rfl), (Nat.le_of_ble_eq_true rfl)⟩) (preVd (RX4, TX4, 11) hE hP hD [0, 4] (by decide) rfl rfl) rfl rfl hl.1 rfl (lv_room (Nat.le_of_ble_eq_true rfl)) dX4_run_1 ⟨(Nat.le_of_ble_eq_true rfl), (Nat.le_of_ble_eq_true rfl)⟩) hP hD hS [0, 4] [1, 2, 3] 5 [m0, m1, m2, m3, m4] [(m1, .inl (g.2.1 0, 523, .inl rw)), (m2, .inl (g.2.1 0, 2092, .inl pst)), (m3, .inl (g.2.1 1, 4, .inr (.inl pa)))] rfl rfl rfl (fun _ => rfl) (fun _ => rfl) (fun _ => rfl) rfl (by decide) (fun r9 _ H locs hr9 hP hD hS => ?_)
  subst hr9
  refine lv_istore_n (lv' := [(1, .int ((faS tx ln ln 0).1)), (0, .ref m0)]) hx hb dX4_run_4 rfl hl (by decide) rfl (fun ls hl => ?_)
  refine lv_iload_n hx hb dX4_run_5 rfl (lv_at hl 0 rfl) ?_
  refine lv_iconst (v := -1) hx hb dX4_run_6 (by decide) ?_
  refine lv_icmp_eq (tgt := 19) hx hb dX4_run_7 (by decide) (fun c7 => ?_) (fun c7 => ?_)
  · refine lv_aload_n hx hb dX4_run_19 rfl (lv_at hl 1 rfl) ?_
    refine kUv (fun _ => [(m0, .inr (4, [.ref m1, .long ma, .ref m2, .ref m3, .int (nI (kcF np)), .ref m4, .int (nI ln), .int th, .ref m5, .int (nI (((faS tx ln ln 0).2))), .long hs])), (m1, .inl (g.2.1 0, 523, .inl rw)), (m2, .inl (g.2.1 0, 2092, .inl (svP pst np rw))), (m3, .inl (g.2.1 1, 4, .inr (.inl (svA pa np ma)))), (m4, .inl (g.2.1 0, 100, .inl tx))]) (va_runV (As := []) (rest := []) ⟨hx, hb, hml, hown, hts⟩ (c_X4_save l g m0 m1 m2 m3 m4 m5 ma np ln th ((faS tx ln ln 0).2) hs rw w pst pa (by first | assumption | omega | exact Nat.le_of_ble_eq_true rfl)) (cwV 0 hts gX4_run_X4_save rfl rfl rfl (by decide +kernel) ⟨(Nat.le_of_ble_eq_true rfl), (Nat.le_of_ble_eq_true rfl)⟩) (preVd (RX4, TX4, 11) hE hP hD [0, 1, 2, 3] (by decide) rfl rfl) rfl rfl hl.1 rfl (lv_room (Nat.le_of_ble_eq_true rfl)) dX4_run_20 ⟨(Nat.le_of_ble_eq_true rfl), (Nat.le_of_ble_eq_true rfl)⟩) hP hD hS [0, 1, 2, 3] [4] 5 [m0, m1, m2, m3, m4] [(m4, .inl (g.2.1 0, 100, .inl tx))] rfl rfl rfl (fun _ => rfl) (fun _ => rfl) (fun _ => rfl) rfl (by decide) (fun _ H locs hr9 hP hD hS => ?_)
    refine lv_aload_n hx hb dX4_run_23 rfl (lv_at hl 1 rfl) ?_
    refine lv_iconst (v := 0) hx hb dX4_run_24 (by decide) ?_
    refine lv_tope (y := (nI 0)) rfl ?_
    refine va_put (D := g.1) (ci := 4) (v := .int (nI 0)) (ty := .int) (C := RX4) (T := TX4) (N := 11) hx hb hts in_X4_run_X4 tyX4 tyX4_ok nmX4 hown hK hP hD hS 0 rfl rfl 9 (by decide) (hts _ (List.mem_of_getElem? (i := 1) rfl)) (fun _ h9 => h9) rfl (by decide +kernel) rfl rfl (Nat.le_of_ble_eq_true rfl) dX4_run_25 (fun H locs hP hD hS => ?_)
    have hP : va_P g.1 vwCl [(m0, .inr (4, [.ref m1, .long ma, .ref m2, .ref m3, .int (nI (kcF np)), .ref m4, .int (nI ln), .int th, .ref m5, .int (nI 0), .long hs])), (m1, .inl (g.2.1 0, 523, .inl rw)), (m2, .inl (g.2.1 0, 2092, .inl (svP pst np rw))), (m3, .inl (g.2.1 1, 4, .inr (.inl (svA pa np ma)))), (m4, .inl (g.2.1 0, 100, .inl tx))] _ := hP
    have hD : va_D (va_Ad [(m0, .inr (4, [.ref m1, .long ma, .ref m2, .ref m3, .int (nI np), .ref m4, .int (nI ln), .int th, .ref m5, .int (nI at_), .long hs])), (m1, .inl (g.2.1 0, 523, .inl rw)), (m2, .inl (g.2.1 0, 2092, .inl pst)), (m3, .inl (g.2.1 1, 4, .inr (.inl pa))), (m4, .inl (g.2.1 0, 100, .inl tx))]) [(m0, .inr (4, [.ref m1, .long ma, .ref m2, .ref m3, .int (nI (kcF np)), .ref m4, .int (nI ln), .int th, .ref m5, .int (nI 0), .long hs])), (m1, .inl (g.2.1 0, 523, .inl rw)), (m2, .inl (g.2.1 0, 2092, .inl (svP pst np rw))), (m3, .inl (g.2.1 1, 4, .inr (.inl (svA pa np ma)))), (m4, .inl (g.2.1 0, 100, .inl tx))] := hD
    refine lv_iconst (v := 0) hx hb dX4_run_28 (by decide) ?_
    refine lv_istore_n (lv' := [(2, .int 0), (1, .int ((faS tx ln ln 0).1)), (0, .ref m0)]) hx hb dX4_run_29 rfl hl (by decide) rfl (fun ls hl => ?_)
    have lp30 : ∀ (n9 : Nat) (q : Nat) (rq : Nat → Int32) (co : Int32), ln - q < n9 → (q ≤ ln) → ((faS tx ln ln q).1 = -1) → (regOK w (mG rq)) → (rq 0 = nI w) → (ruS w tx ln ln (rq, co, q) = ruS w tx ln ln (rw, 0, 0)) → ∀ (H : Heap) (locs : List Loc), va_P g.1 vwCl [(m0, .inr (4, [.ref m1, .long ma, .ref m2, .ref m3, .int (nI (kcF np)), .ref m4, .int (nI ln), .int th, .ref m5, .int (nI q), .long hs])), (m1, .inl (g.2.1 0, 523, .inl rq)), (m2, .inl (g.2.1 0, 2092, .inl (svP pst np rw))), (m3, .inl (g.2.1 1, 4, .inr (.inl (svA pa np ma)))), (m4, .inl (g.2.1 0, 100, .inl tx))] H → va_D (va_Ad [(m0, .inr (4, [.ref m1, .long ma, .ref m2, .ref m3, .int (nI np), .ref m4, .int (nI ln), .int th, .ref m5, .int (nI at_), .long hs])), (m1, .inl (g.2.1 0, 523, .inl rw)), (m2, .inl (g.2.1 0, 2092, .inl pst)), (m3, .inl (g.2.1 1, 4, .inr (.inl pa))), (m4, .inl (g.2.1 0, 100, .inl tx))]) [(m0, .inr (4, [.ref m1, .long ma, .ref m2, .ref m3, .int (nI (kcF np)), .ref m4, .int (nI ln), .int th, .ref m5, .int (nI q), .long hs])), (m1, .inl (g.2.1 0, 523, .inl rq)), (m2, .inl (g.2.1 0, 2092, .inl (svP pst np rw))), (m3, .inl (g.2.1 1, 4, .inr (.inl (svA pa np ma)))), (m4, .inl (g.2.1 0, 100, .inl tx))] → va_S (va_Ad [(m0, .inr (4, [.ref m1, .long ma, .ref m2, .ref m3, .int (nI np), .ref m4, .int (nI ln), .int th, .ref m5, .int (nI at_), .long hs])), (m1, .inl (g.2.1 0, 523, .inl rw)), (m2, .inl (g.2.1 0, 2092, .inl pst)), (m3, .inl (g.2.1 1, 4, .inr (.inl pa))), (m4, .inl (g.2.1 0, 100, .inl tx))]) s.heap H locs → ∀ (ls : Array Slot), lv_has ls 4 [(2, .int co), (1, .int ((faS tx ln ln 0).1)), (0, .ref m0)] → W p l e rm_X4_run s m [Value.ref m0].toArray below meth c H locs 0 0 Q9 (F0 m 30 ls []) := by
      intro n9
      induction n9 with
      | zero => intro q rq co h9; exact absurd h9 (Nat.not_lt_zero _)
      | succ n9 ih30 =>
        intro q rq co hm30 hq hfa hreg9 hrw9 hres
        intro H locs hP hD hS ls hl
        refine lv_aload_n hx hb dX4_run_30 rfl (lv_at hl 2 rfl) ?_
        refine va_get (D := g.1) (ci := 4) (v := .int (nI q)) (C := RX4) (T := TX4) (N := 11) hx hb hts in_X4_run_X4 hown hK hP 0 rfl rfl 9 (by decide) (hts _ (List.mem_of_getElem? (i := 1) rfl)) (fun _ h9 => h9) rfl dX4_run_31 ?_
        refine lv_aload_n hx hb dX4_run_34 rfl (lv_at hl 2 rfl) ?_
        refine va_get (D := g.1) (ci := 4) (v := .int (nI ln)) (C := RX4) (T := TX4) (N := 11) hx hb hts in_X4_run_X4 hown hK hP 0 rfl rfl 6 (by decide) (hts _ (List.mem_of_getElem? (i := 2) rfl)) (fun _ h9 => h9) rfl dX4_run_35 ?_
        refine lv_icmp_ge (tgt := 53) hx hb dX4_run_38 (by decide) (fun c38 => ?_) (fun c38 => ?_)
        · have n38 : ln ≤ q := (nI_leI (a := ln) (b := q) (by omega) (by omega)).mp c38
          have e8 : ruS w tx ln ln (rw, 0, 0) = (rq, co, q) := hres.symm.trans (ruS_e (by omega))
          refine lv_aload_n hx hb dX4_run_53 rfl (lv_at hl 2 rfl) ?_
          refine lv_dup hx hb dX4_run_54 rfl ?_
          refine va_get (D := g.1) (ci := 4) (v := .long ma) (C := RX4) (T := TX4) (N := 11) hx hb hts in_X4_run_X4 hown hK hP 0 rfl rfl 1 (by decide) (hts _ (List.mem_of_getElem? (i := 3) rfl)) (fun _ h9 => h9) rfl dX4_run_55 ?_
          refine lv_iload_n hx hb dX4_run_58 rfl (lv_at hl 0 rfl) ?_
          refine lv_i2l (v := Int32.toInt64 co) hx hb dX4_run_59 rfl ?_
          refine lv_ladd hx hb dX4_run_60 ?_
          refine va_put (D := g.1) (ci := 4) (v := .long (ma + (Int32.toInt64 co))) (ty := .long) (C := RX4) (T := TX4) (N := 11) hx hb hts in_X4_run_X4 tyX4 tyX4_ok nmX4 hown hK hP hD hS 0 rfl rfl 1 (by decide) (hts _ (List.mem_of_getElem? (i := 3) rfl)) (fun _ h9 => h9) rfl (by decide +kernel) rfl rfl (Nat.le_of_ble_eq_true rfl) dX4_run_61 (fun H locs hP hD hS => ?_)
          have hP : va_P g.1 vwCl [(m0, .inr (4, [.ref m1, .long (ma + (Int32.toInt64 co)), .ref m2, .ref m3, .int (nI (kcF np)), .ref m4, .int (nI ln), .int th, .ref m5, .int (nI q), .long hs])), (m1, .inl (g.2.1 0, 523, .inl rq)), (m2, .inl (g.2.1 0, 2092, .inl (svP pst np rw))), (m3, .inl (g.2.1 1, 4, .inr (.inl (svA pa np ma)))), (m4, .inl (g.2.1 0, 100, .inl tx))] _ := hP
          have hD : va_D (va_Ad [(m0, .inr (4, [.ref m1, .long ma, .ref m2, .ref m3, .int (nI np), .ref m4, .int (nI ln), .int th, .ref m5, .int (nI at_), .long hs])), (m1, .inl (g.2.1 0, 523, .inl rw)), (m2, .inl (g.2.1 0, 2092, .inl pst)), (m3, .inl (g.2.1 1, 4, .inr (.inl pa))), (m4, .inl (g.2.1 0, 100, .inl tx))]) [(m0, .inr (4, [.ref m1, .long (ma + (Int32.toInt64 co)), .ref m2, .ref m3, .int (nI (kcF np)), .ref m4, .int (nI ln), .int th, .ref m5, .int (nI q), .long hs])), (m1, .inl (g.2.1 0, 523, .inl rq)), (m2, .inl (g.2.1 0, 2092, .inl (svP pst np rw))), (m3, .inl (g.2.1 1, 4, .inr (.inl (svA pa np ma)))), (m4, .inl (g.2.1 0, 100, .inl tx))] := hD
          refine lv_aload_n hx hb dX4_run_64 rfl (lv_at hl 2 rfl) ?_
          refine lv_iload_n hx hb dX4_run_65 rfl (lv_at hl 0 rfl) ?_
          refine kUi (fun _ => [(m0, .inr (4, [.ref m1, .long (ma + (Int32.toInt64 co)), .ref m2, .ref m3, .int (nI ((kcF np))), .ref m4, .int (nI ln), .int 0, .ref m5, .int (nI q), .long hs])), (m1, .inl (g.2.1 0, 523, .inl rq)), (m2, .inl (g.2.1 0, 2092, .inl (svP pst np rw))), (m3, .inl (g.2.1 1, 4, .inr (.inl (svA pa np ma)))), (m4, .inl (g.2.1 0, 100, .inl tx))]) (va_runV (As := [.int co]) (rest := []) ⟨hx, hb, hml, hown, hts⟩ (c_X4_tells l g m0 m1 m2 m3 m4 m5 (ma + (Int32.toInt64 co)) (kcF np) ln th q hs co) (cwV 1 hts gX4_run_X4_tells rfl rfl rfl (by decide +kernel) ⟨(Nat.le_of_ble_eq_true rfl), (Nat.le_of_ble_eq_true rfl)⟩) (preVd (RX4, TX4, 11) hE hP hD [0] (by decide) rfl rfl) rfl rfl hl.1 rfl (lv_room (Nat.le_of_ble_eq_true rfl)) dX4_run_66 ⟨(Nat.le_of_ble_eq_true rfl), (Nat.le_of_ble_eq_true rfl)⟩) hP hD hS [0] [1, 2, 3, 4] 5 [m0, m1, m2, m3, m4] [(m1, .inl (g.2.1 0, 523, .inl rq)), (m2, .inl (g.2.1 0, 2092, .inl (svP pst np rw))), (m3, .inl (g.2.1 1, 4, .inr (.inl (svA pa np ma)))), (m4, .inl (g.2.1 0, 100, .inl tx))] rfl rfl rfl (fun _ => rfl) (fun _ => rfl) (fun _ => rfl) rfl (by decide) (fun r9 _ H locs hr9 hP hD hS => ?_)
          have hr9 := Eq.symm hr9
          subst hr9
          subst hQ
          have hP9 : va_P g.1 vwCl [(m0, .inr (4, [.ref m1, .long (ma + Int32.toInt64 ((ruS w tx ln ln (rw, 0, 0)).2.1)), .ref m2, .ref m3, .int (nI (kcF np)), .ref m4, .int (nI ln), .int 0, .ref m5, .int (nI ((ruS w tx ln ln (rw, 0, 0)).2.2)), .long hs])), (m1, .inl (g.2.1 0, 523, .inl ((ruS w tx ln ln (rw, 0, 0)).1))), (m2, .inl (g.2.1 0, 2092, .inl (svP pst np rw))), (m3, .inl (g.2.1 1, 4, .inr (.inl (svA pa np ma)))), (m4, .inl (g.2.1 0, 100, .inl tx))] H := by rw [e8]; exact hP
          exact W.iret (v := co) hx hb hr (fun t ht hW => ⟨⟨co, true, rfl, Or.inl ⟨rfl, c7, by rw [e8]⟩, by show va_P g.1 vwCl _ t.heap; rw [ht]; exact hP9⟩, hS.F ht⟩) hS.2.2 dX4_run_69
        · have n38 : q < ln := Nat.lt_of_not_le (fun h9 => c38 ((nI_leI (a := ln) (b := q) (by omega) (by omega)).mpr h9))
          have gok := fa_ok hln n38 hfa
          refine lv_aload_n hx hb dX4_run_41 rfl (lv_at hl 2 rfl) ?_
          refine kUi (fun _ => [(m0, .inr (4, [.ref m1, .long ma, .ref m2, .ref m3, .int (nI ((kcF np))), .ref m4, .int (nI ln), .int th, .ref m5, .int (nI ((roX rq w tx ln q).2.2)), .long hs])), (m1, .inl (g.2.1 0, 523, .inl ((roX rq w tx ln q).1))), (m2, .inl (g.2.1 0, 2092, .inl (svP pst np rw))), (m3, .inl (g.2.1 1, 4, .inr (.inl (svA pa np ma)))), (m4, .inl (g.2.1 0, 100, .inl tx))]) (va_runV (As := []) (rest := []) ⟨hx, hb, hml, hown, hts⟩ (c_X4_runOne l g m0 m1 m2 m3 m4 m5 ma (kcF np) ln th q hs rq w tx (by first | assumption | omega | exact Nat.le_of_ble_eq_true rfl) hrw9 n38 (by first | assumption | omega | exact Nat.le_of_ble_eq_true rfl) gok.1 hreg9) (cwV 0 hts gX4_run_X4_runOne rfl rfl rfl (by decide +kernel) ⟨(Nat.le_of_ble_eq_true rfl), (Nat.le_of_ble_eq_true rfl)⟩) (preVd (RX4, TX4, 11) hE hP hD [0, 1, 4] (by decide) rfl rfl) rfl rfl hl.1 rfl (lv_room (Nat.le_of_ble_eq_true rfl)) dX4_run_42 ⟨(Nat.le_of_ble_eq_true rfl), (Nat.le_of_ble_eq_true rfl)⟩) hP hD hS [0, 1, 4] [2, 3] 5 [m0, m1, m2, m3, m4] [(m2, .inl (g.2.1 0, 2092, .inl (svP pst np rw))), (m3, .inl (g.2.1 1, 4, .inr (.inl (svA pa np ma))))] rfl rfl rfl (fun _ => rfl) (fun _ => rfl) (fun _ => rfl) rfl (by decide) (fun r9 _ H locs hr9 hP hD hS => ?_)
          subst hr9
          refine lv_istore_n (lv' := [(3, .int ((roX rq w tx ln q).2.1)), (2, .int co), (1, .int ((faS tx ln ln 0).1)), (0, .ref m0)]) hx hb dX4_run_45 rfl hl (by decide) rfl (fun ls hl => ?_)
          refine lv_iload_n hx hb dX4_run_46 rfl (lv_at hl 1 rfl) ?_
          refine lv_iload_n hx hb dX4_run_47 rfl (lv_at hl 0 rfl) ?_
          refine lv_iadd hx hb dX4_run_48 ?_
          refine lv_istore_n (lv' := [(2, .int (co + ((roX rq w tx ln q).2.1))), (3, .int ((roX rq w tx ln q).2.1)), (1, .int ((faS tx ln ln 0).1)), (0, .ref m0)]) hx hb dX4_run_49 rfl hl (by decide) rfl (fun ls hl => ?_)
          refine lv_goto (tgt := 30) hx hb dX4_run_50 (by decide) ?_
          have g1 := foF_b (tx := tx) n38 hln
          have g2 := foF_ro (rw := rq) (w := w) hln n38 gok.1
          exact ih30 ((roX rq w tx ln q).2.2) ((roX rq w tx ln q).1) (co + (roX rq w tx ln q).2.1) (by rw [g2]; have := g1.2.2 gok.1; omega) (by rw [g2]; exact g1.2.1) (by rw [g2]; exact gok.2) (roX_reg hw8 hreg9) (roX_0.trans hrw9) ((ruS_s n38).symm.trans hres)  _ _ hP hD hS _ (lv_sub hl [0, 2, 3] rfl)
    exact lp30 ((ln - 0) + 1) 0 rw 0 (Nat.lt_succ_self _) (Nat.zero_le _) c7 hreg hrw rfl  _ _ hP hD hS _ (lv_sub hl [0, 1, 2] rfl)
  · refine lv_aload_n hx hb dX4_run_10 rfl (lv_at hl 1 rfl) ?_
    refine lv_bipush (v := -10) hx hb dX4_run_11 (by decide) ?_
    refine lv_iload_n hx hb dX4_run_13 rfl (lv_at hl 0 rfl) ?_
    refine lv_isub hx hb dX4_run_14 ?_
    refine kUi (fun _ => [(m0, .inr (4, [.ref m1, .long ma, .ref m2, .ref m3, .int (nI np), .ref m4, .int (nI ln), .int 0, .ref m5, .int (nI (((faS tx ln ln 0).2))), .long hs])), (m1, .inl (g.2.1 0, 523, .inl rw)), (m2, .inl (g.2.1 0, 2092, .inl pst)), (m3, .inl (g.2.1 1, 4, .inr (.inl pa))), (m4, .inl (g.2.1 0, 100, .inl tx))]) (va_runV (As := [.int ((-10) - ((faS tx ln ln 0).1))]) (rest := []) ⟨hx, hb, hml, hown, hts⟩ (c_X4_tells l g m0 m1 m2 m3 m4 m5 ma np ln th ((faS tx ln ln 0).2) hs ((-10) - ((faS tx ln ln 0).1))) (cwV 1 hts gX4_run_X4_tells rfl rfl rfl (by decide +kernel) ⟨(Nat.le_of_ble_eq_true rfl), (Nat.le_of_ble_eq_true rfl)⟩) (preVd (RX4, TX4, 11) hE hP hD [0] (by decide) rfl rfl) rfl rfl hl.1 rfl (lv_room (Nat.le_of_ble_eq_true rfl)) dX4_run_15 ⟨(Nat.le_of_ble_eq_true rfl), (Nat.le_of_ble_eq_true rfl)⟩) hP hD hS [0] [1, 2, 3, 4] 5 [m0, m1, m2, m3, m4] [(m1, .inl (g.2.1 0, 523, .inl rw)), (m2, .inl (g.2.1 0, 2092, .inl pst)), (m3, .inl (g.2.1 1, 4, .inr (.inl pa))), (m4, .inl (g.2.1 0, 100, .inl tx))] rfl rfl rfl (fun _ => rfl) (fun _ => rfl) (fun _ => rfl) rfl (by decide) (fun r9 _ H locs hr9 hP hD hS => ?_)
    subst hr9
    subst hQ
    have hP9 : va_P g.1 vwCl [(m0, .inr (4, [.ref m1, .long ma, .ref m2, .ref m3, .int (nI np), .ref m4, .int (nI ln), .int 0, .ref m5, .int (nI ((faS tx ln ln 0).2)), .long hs])), (m1, .inl (g.2.1 0, 523, .inl rw)), (m2, .inl (g.2.1 0, 2092, .inl pst)), (m3, .inl (g.2.1 1, 4, .inr (.inl pa))), (m4, .inl (g.2.1 0, 100, .inl tx))] H := hP
    exact W.iret (v := ((-10) - ((faS tx ln ln 0).1))) hx hb hr (fun t ht hW => ⟨⟨((-10) - ((faS tx ln ln 0).1)), false, rfl, Or.inr ⟨rfl, c7, rfl⟩, by show va_P g.1 vwCl _ t.heap; rw [ht]; exact hP9⟩, hS.F ht⟩) hS.2.2 dX4_run_18
