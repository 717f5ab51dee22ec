/-! PROGRAM: printed by wip/whole/gen/spec_prog.py -/
abbrev rm_X1_isLetter : Room := { frames := 0, cells := 0, slots := 0, locals := 0 }
set_option maxRecDepth 100000 in
set_option maxHeartbeats 4000000 in
theorem c_X1_isLetter (l : Launch) (g : GT) (v : Int32) : cRi l g yX1_isLetter wsX1_isLetter rm_X1_isLetter [.int v] [] (fun r => r = (if isL v then (1 : Int32) else 0)) := by
  refine enR (y := yX1_isLetter) (ws := wsX1_isLetter) (av := [.int v]) (cc := cX1_isLetter) (maxL := 1) (ret := (some .boolean)) (by decide) rfl (Nat.le_of_ble_eq_true rfl) rfl ?_
  intro p e s m below meth c ls hx hb hr hml hown hts hlocks hE hP hl
  have hK := hE.1
  have hS : va_S noA s.heap s.heap [] := va_S.rf
  generalize hQ : MQ below _ _ s _ _ _ = Q9
  have hl : lv_has ls 1 [(0, .int v)] := hl
  refine lv_iload_n hx hb dX1_isLetter_0 rfl (lv_at hl 0 rfl) ?_
  refine lv_bipush (v := 97) hx hb dX1_isLetter_1 (by decide) ?_
  refine lv_icmp_lt (tgt := 16) hx hb dX1_isLetter_3 (by decide) (fun c3 => ?_) (fun c3 => ?_)
  · refine lv_iconst (v := 0) hx hb dX1_isLetter_16 (by decide) ?_
    subst hQ
    exact W.zret (v := 0) hx hb hr rfl (fun t ht hW => ⟨⟨0, (), rfl, by first | exact (if_pos (And.intro (Int32.not_lt.mp c3) (Int32.not_lt.mp c9))).symm | exact (if_neg (fun h => absurd h.1 (Int32.not_le.mpr c3))).symm | exact (if_neg (fun h => absurd h.2 (Int32.not_le.mpr c9))).symm, trivial⟩, hS.F ht⟩) hS.2.2 dX1_isLetter_17
  · refine lv_iload_n hx hb dX1_isLetter_6 rfl (lv_at hl 0 rfl) ?_
    refine lv_bipush (v := 104) hx hb dX1_isLetter_7 (by decide) ?_
    refine lv_icmp_gt (tgt := 16) hx hb dX1_isLetter_9 (by decide) (fun c9 => ?_) (fun c9 => ?_)
    · refine lv_iconst (v := 0) hx hb dX1_isLetter_16 (by decide) ?_
      subst hQ
      exact W.zret (v := 0) hx hb hr rfl (fun t ht hW => ⟨⟨0, (), rfl, by first | exact (if_pos (And.intro (Int32.not_lt.mp c3) (Int32.not_lt.mp c9))).symm | exact (if_neg (fun h => absurd h.1 (Int32.not_le.mpr c3))).symm | exact (if_neg (fun h => absurd h.2 (Int32.not_le.mpr c9))).symm, trivial⟩, hS.F ht⟩) hS.2.2 dX1_isLetter_17
    · refine lv_iconst (v := 1) hx hb dX1_isLetter_12 (by decide) ?_
      refine lv_goto (tgt := 17) hx hb dX1_isLetter_13 (by decide) ?_
      subst hQ
      exact W.zret (v := 1) hx hb hr rfl (fun t ht hW => ⟨⟨1, (), rfl, by first | exact (if_pos (And.intro (Int32.not_lt.mp c3) (Int32.not_lt.mp c9))).symm | exact (if_neg (fun h => absurd h.1 (Int32.not_le.mpr c3))).symm | exact (if_neg (fun h => absurd h.2 (Int32.not_le.mpr c9))).symm, trivial⟩, hS.F ht⟩) hS.2.2 dX1_isLetter_17
abbrev rm_X1_isDigit : Room := { frames := 0, cells := 0, slots := 0, locals := 0 }
set_option maxRecDepth 100000 in
set_option maxHeartbeats 4000000 in
theorem c_X1_isDigit (l : Launch) (g : GT) (v : Int32) : cRi l g yX1_isDigit wsX1_isDigit rm_X1_isDigit [.int v] [] (fun r => r = (if isD v then (1 : Int32) else 0)) := by
  refine enR (y := yX1_isDigit) (ws := wsX1_isDigit) (av := [.int v]) (cc := cX1_isDigit) (maxL := 1) (ret := (some .boolean)) (by decide) rfl (Nat.le_of_ble_eq_true rfl) rfl ?_
  intro p e s m below meth c ls hx hb hr hml hown hts hlocks hE hP hl
  have hK := hE.1
  have hS : va_S noA s.heap s.heap [] := va_S.rf
  generalize hQ : MQ below _ _ s _ _ _ = Q9
  have hl : lv_has ls 1 [(0, .int v)] := hl
  refine lv_iload_n hx hb dX1_isDigit_0 rfl (lv_at hl 0 rfl) ?_
  refine lv_bipush (v := 48) hx hb dX1_isDigit_1 (by decide) ?_
  refine lv_icmp_lt (tgt := 16) hx hb dX1_isDigit_3 (by decide) (fun c3 => ?_) (fun c3 => ?_)
  · refine lv_iconst (v := 0) hx hb dX1_isDigit_16 (by decide) ?_
    subst hQ
    exact W.zret (v := 0) hx hb hr rfl (fun t ht hW => ⟨⟨0, (), rfl, by first | exact (if_pos (And.intro (Int32.not_lt.mp c3) (Int32.not_lt.mp c9))).symm | exact (if_neg (fun h => absurd h.1 (Int32.not_le.mpr c3))).symm | exact (if_neg (fun h => absurd h.2 (Int32.not_le.mpr c9))).symm, trivial⟩, hS.F ht⟩) hS.2.2 dX1_isDigit_17
  · refine lv_iload_n hx hb dX1_isDigit_6 rfl (lv_at hl 0 rfl) ?_
    refine lv_bipush (v := 57) hx hb dX1_isDigit_7 (by decide) ?_
    refine lv_icmp_gt (tgt := 16) hx hb dX1_isDigit_9 (by decide) (fun c9 => ?_) (fun c9 => ?_)
    · refine lv_iconst (v := 0) hx hb dX1_isDigit_16 (by decide) ?_
      subst hQ
      exact W.zret (v := 0) hx hb hr rfl (fun t ht hW => ⟨⟨0, (), rfl, by first | exact (if_pos (And.intro (Int32.not_lt.mp c3) (Int32.not_lt.mp c9))).symm | exact (if_neg (fun h => absurd h.1 (Int32.not_le.mpr c3))).symm | exact (if_neg (fun h => absurd h.2 (Int32.not_le.mpr c9))).symm, trivial⟩, hS.F ht⟩) hS.2.2 dX1_isDigit_17
    · refine lv_iconst (v := 1) hx hb dX1_isDigit_12 (by decide) ?_
      refine lv_goto (tgt := 17) hx hb dX1_isDigit_13 (by decide) ?_
      subst hQ
      exact W.zret (v := 1) hx hb hr rfl (fun t ht hW => ⟨⟨1, (), rfl, by first | exact (if_pos (And.intro (Int32.not_lt.mp c3) (Int32.not_lt.mp c9))).symm | exact (if_neg (fun h => absurd h.1 (Int32.not_le.mpr c3))).symm | exact (if_neg (fun h => absurd h.2 (Int32.not_le.mpr c9))).symm, trivial⟩, hS.F ht⟩) hS.2.2 dX1_isDigit_17
abbrev rm_X1_isSign : Room := { frames := 0, cells := 0, slots := 0, locals := 0 }
set_option maxRecDepth 100000 in
set_option maxHeartbeats 4000000 in
theorem c_X1_isSign (l : Launch) (g : GT) (v : Int32) : cRi l g yX1_isSign wsX1_isSign rm_X1_isSign [.int v] [] (fun r => r = (if isS v then (1 : Int32) else 0)) := by
  refine enR (y := yX1_isSign) (ws := wsX1_isSign) (av := [.int v]) (cc := cX1_isSign) (maxL := 1) (ret := (some .boolean)) (by decide) rfl (Nat.le_of_ble_eq_true rfl) rfl ?_
  intro p e s m below meth c ls hx hb hr hml hown hts hlocks hE hP hl
  have hK := hE.1
  have hS : va_S noA s.heap s.heap [] := va_S.rf
  generalize hQ : MQ below _ _ s _ _ _ = Q9
  have hl : lv_has ls 1 [(0, .int v)] := hl
  refine lv_iload_n hx hb dX1_isSign_0 rfl (lv_at hl 0 rfl) ?_
  by_cases q1_35 : v = 35
  · refine lv_tope (y := 35) q1_35 ?_
    refine lv_lookup (tgt := 60) (off := 59) hx hb dX1_isSign_1 (by decide) (by decide) (by decide) ?_
    refine lv_iconst (v := 1) hx hb dX1_isSign_60 (by decide) ?_
    subst hQ
    exact W.zret (v := 1) hx hb hr rfl (fun t ht hW => ⟨⟨1, (), rfl, (if_pos (by unfold isS; simp [*])).symm, trivial⟩, hS.F ht⟩) hS.2.2 dX1_isSign_61
  · skip
    by_cases q1_42 : v = 42
    · refine lv_tope (y := 42) q1_42 ?_
      refine lv_lookup (tgt := 60) (off := 59) hx hb dX1_isSign_1 (by decide) (by decide) (by decide) ?_
      refine lv_iconst (v := 1) hx hb dX1_isSign_60 (by decide) ?_
      subst hQ
      exact W.zret (v := 1) hx hb hr rfl (fun t ht hW => ⟨⟨1, (), rfl, (if_pos (by unfold isS; simp [*])).symm, trivial⟩, hS.F ht⟩) hS.2.2 dX1_isSign_61
    · skip
      by_cases q1_43 : v = 43
      · refine lv_tope (y := 43) q1_43 ?_
        refine lv_lookup (tgt := 60) (off := 59) hx hb dX1_isSign_1 (by decide) (by decide) (by decide) ?_
        refine lv_iconst (v := 1) hx hb dX1_isSign_60 (by decide) ?_
        subst hQ
        exact W.zret (v := 1) hx hb hr rfl (fun t ht hW => ⟨⟨1, (), rfl, (if_pos (by unfold isS; simp [*])).symm, trivial⟩, hS.F ht⟩) hS.2.2 dX1_isSign_61
      · skip
        by_cases q1_45 : v = 45
        · refine lv_tope (y := 45) q1_45 ?_
          refine lv_lookup (tgt := 60) (off := 59) hx hb dX1_isSign_1 (by decide) (by decide) (by decide) ?_
          refine lv_iconst (v := 1) hx hb dX1_isSign_60 (by decide) ?_
          subst hQ
          exact W.zret (v := 1) hx hb hr rfl (fun t ht hW => ⟨⟨1, (), rfl, (if_pos (by unfold isS; simp [*])).symm, trivial⟩, hS.F ht⟩) hS.2.2 dX1_isSign_61
        · skip
          by_cases q1_62 : v = 62
          · refine lv_tope (y := 62) q1_62 ?_
            refine lv_lookup (tgt := 60) (off := 59) hx hb dX1_isSign_1 (by decide) (by decide) (by decide) ?_
            refine lv_iconst (v := 1) hx hb dX1_isSign_60 (by decide) ?_
            subst hQ
            exact W.zret (v := 1) hx hb hr rfl (fun t ht hW => ⟨⟨1, (), rfl, (if_pos (by unfold isS; simp [*])).symm, trivial⟩, hS.F ht⟩) hS.2.2 dX1_isSign_61
          · skip
            by_cases q1_120 : v = 120
            · refine lv_tope (y := 120) q1_120 ?_
              refine lv_lookup (tgt := 60) (off := 59) hx hb dX1_isSign_1 (by decide) (by decide) (by decide) ?_
              refine lv_iconst (v := 1) hx hb dX1_isSign_60 (by decide) ?_
              subst hQ
              exact W.zret (v := 1) hx hb hr rfl (fun t ht hW => ⟨⟨1, (), rfl, (if_pos (by unfold isS; simp [*])).symm, trivial⟩, hS.F ht⟩) hS.2.2 dX1_isSign_61
            · skip
              refine lv_lookup (tgt := 62) (off := 61) hx hb dX1_isSign_1 (by decide) ((lv_osw q1_35 (by decide)).trans ((lv_osw q1_42 (by decide)).trans ((lv_osw q1_43 (by decide)).trans ((lv_osw q1_45 (by decide)).trans ((lv_osw q1_62 (by decide)).trans ((lv_osw q1_120 (by decide)).trans rfl)))))) (by decide) ?_
              refine lv_iconst (v := 0) hx hb dX1_isSign_62 (by decide) ?_
              subst hQ
              exact W.zret (v := 0) hx hb hr rfl (fun t ht hW => ⟨⟨0, (), rfl, (if_neg (by unfold isS; simp [q1_35, q1_42, q1_43, q1_45, q1_62, q1_120])).symm, trivial⟩, hS.F ht⟩) hS.2.2 dX1_isSign_63
theorem in_X1_takeDigit_X1 : ∀ w ∈ wsX10, w ∈ wsX1_takeDigit := by decide +kernel
abbrev rm_X1_takeDigit : Room := { frames := 0, cells := 0, slots := 0, locals := 0 }
set_option maxRecDepth 100000 in
set_option maxHeartbeats 4000000 in
theorem c_X1_takeDigit (l : Launch) (g : GT) (p0 : Nat) (p1 : Nat) (p2 : Nat) (p3 : Nat) (p4 : Nat) (p5 : Nat) (len : Nat) (tx : Nat → Int32) (u : PSt) (v : Int32) (hdg : uDg u ≤ 3) : cUi l g yX1_takeDigit wsX1_takeDigit rm_X1_takeDigit [.ref p0, .int v] [(p0, .inr (1, [.ref p1, .int (nI len), .ref p2, .ref p3, .ref p4, .ref p5, .int (nI ((uNs u))), .int (nI ((uPl u))), .int (nI ((uDg u))), .int (uTg u), .int (uSn u), .int (uFi u), .int (uSe u)])), (p1, .inl (g.2.1 0, 100, .inl tx)), (p2, .inl (g.2.1 0, 25, .inl (uT u))), (p3, .inl (g.2.1 0, 25, .inl (uG u))), (p4, .inl (g.2.1 0, 25, .inl (uF u))), (p5, .inl (g.2.1 0, 25, .inl (uE u)))] (fun r (_ : Unit) => r = (if (pTD u v).2 = true then (1 : Int32) else 0)) (fun _ => [(p0, .inr (1, [.ref p1, .int (nI len), .ref p2, .ref p3, .ref p4, .ref p5, .int (nI ((uNs ((pTD u v).1)))), .int (nI ((uPl ((pTD u v).1)))), .int (nI ((uDg ((pTD u v).1)))), .int (uTg ((pTD u v).1)), .int (uSn ((pTD u v).1)), .int (uFi ((pTD u v).1)), .int (uSe ((pTD u v).1))])), (p1, .inl (g.2.1 0, 100, .inl tx)), (p2, .inl (g.2.1 0, 25, .inl (uT ((pTD u v).1)))), (p3, .inl (g.2.1 0, 25, .inl (uG ((pTD u v).1)))), (p4, .inl (g.2.1 0, 25, .inl (uF ((pTD u v).1)))), (p5, .inl (g.2.1 0, 25, .inl (uE ((pTD u v).1))))]) := by
  refine enU (y := yX1_takeDigit) (ws := wsX1_takeDigit) (av := [.ref p0, .int v]) (cc := cX1_takeDigit) (maxL := 2) (ret := (some .boolean)) (by decide) rfl (Nat.le_of_ble_eq_true rfl) rfl ?_
  intro p e s m below meth c ls hx hb hr hml hown hts hlocks hE hP hD hl
  have hK := hE.1
  have hS : va_S (va_Ad [(p0, .inr (1, [.ref p1, .int (nI len), .ref p2, .ref p3, .ref p4, .ref p5, .int (nI ((uNs u))), .int (nI ((uPl u))), .int (nI ((uDg u))), .int (uTg u), .int (uSn u), .int (uFi u), .int (uSe u)])), (p1, .inl (g.2.1 0, 100, .inl tx)), (p2, .inl (g.2.1 0, 25, .inl (uT u))), (p3, .inl (g.2.1 0, 25, .inl (uG u))), (p4, .inl (g.2.1 0, 25, .inl (uF u))), (p5, .inl (g.2.1 0, 25, .inl (uE u)))]) s.heap s.heap [] := va_S.rf
  generalize hQ : MQ below _ _ s _ _ _ = Q9
  have hl : lv_has ls 2 [(0, .ref p0), (1, .int v)] := hl
  refine lv_aload_n hx hb dX1_takeDigit_0 rfl (lv_at hl 0 rfl) ?_
  refine va_get (D := g.1) (ci := 1) (v := .int (nI ((uDg u)))) (C := RX1) (T := TX1) (N := 13) hx hb hts in_X1_takeDigit_X1 hown hK hP 0 rfl rfl 8 (by decide) (hts _ (List.mem_of_getElem? (i := 1) rfl)) (fun _ h9 => h9) rfl dX1_takeDigit_1 ?_
  refine lv_iconst (v := 3) hx hb dX1_takeDigit_4 (by decide) ?_
  refine lv_icmp_lt (tgt := 10) hx hb dX1_takeDigit_5 (by decide) (fun c5 => ?_) (fun c5 => ?_)
  · have n5 : (uDg u) < 3 := (nI_ltI (a := (uDg u)) (b := 3) (by omega) (by omega)).mp c5
    refine lv_aload_n hx hb dX1_takeDigit_10 rfl (lv_at hl 0 rfl) ?_
    refine lv_bipush (v := 10) hx hb dX1_takeDigit_11 (by decide) ?_
    refine lv_aload_n hx hb dX1_takeDigit_13 rfl (lv_at hl 0 rfl) ?_
    refine va_get (D := g.1) (ci := 1) (v := .int (uFi u)) (C := RX1) (T := TX1) (N := 13) hx hb hts in_X1_takeDigit_X1 hown hK hP 0 rfl rfl 11 (by decide) (hts _ (List.mem_of_getElem? (i := 2) rfl)) (fun _ h9 => h9) rfl dX1_takeDigit_14 ?_
    refine lv_imul hx hb dX1_takeDigit_17 ?_
    refine lv_iload_n hx hb dX1_takeDigit_18 rfl (lv_at hl 1 rfl) ?_
    refine lv_iadd hx hb dX1_takeDigit_19 ?_
    refine lv_bipush (v := 48) hx hb dX1_takeDigit_20 (by decide) ?_
    refine lv_isub hx hb dX1_takeDigit_22 ?_
    refine va_put (D := g.1) (ci := 1) (v := .int (((10 * (uFi u)) + v) - 48)) (ty := .int) (C := RX1) (T := TX1) (N := 13) hx hb hts in_X1_takeDigit_X1 tyX1 tyX1_ok nmX1 hown hK hP hD hS 0 rfl rfl 11 (by decide) (hts _ (List.mem_of_getElem? (i := 2) rfl)) (fun _ h9 => h9) rfl (by decide +kernel) rfl rfl (Nat.le_of_ble_eq_true rfl) dX1_takeDigit_23 (fun H locs hP hD hS => ?_)
    have hP : va_P g.1 vwCl [(p0, .inr (1, [.ref p1, .int (nI len), .ref p2, .ref p3, .ref p4, .ref p5, .int (nI ((uNs u))), .int (nI ((uPl u))), .int (nI ((uDg u))), .int (uTg u), .int (uSn u), .int (((10 * (uFi u)) + v) - 48), .int (uSe u)])), (p1, .inl (g.2.1 0, 100, .inl tx)), (p2, .inl (g.2.1 0, 25, .inl (uT u))), (p3, .inl (g.2.1 0, 25, .inl (uG u))), (p4, .inl (g.2.1 0, 25, .inl (uF u))), (p5, .inl (g.2.1 0, 25, .inl (uE u)))] _ := hP
    have hD : va_D (va_Ad [(p0, .inr (1, [.ref p1, .int (nI len), .ref p2, .ref p3, .ref p4, .ref p5, .int (nI ((uNs u))), .int (nI ((uPl u))), .int (nI ((uDg u))), .int (uTg u), .int (uSn u), .int (uFi u), .int (uSe u)])), (p1, .inl (g.2.1 0, 100, .inl tx)), (p2, .inl (g.2.1 0, 25, .inl (uT u))), (p3, .inl (g.2.1 0, 25, .inl (uG u))), (p4, .inl (g.2.1 0, 25, .inl (uF u))), (p5, .inl (g.2.1 0, 25, .inl (uE u)))]) [(p0, .inr (1, [.ref p1, .int (nI len), .ref p2, .ref p3, .ref p4, .ref p5, .int (nI ((uNs u))), .int (nI ((uPl u))), .int (nI ((uDg u))), .int (uTg u), .int (uSn u), .int (((10 * (uFi u)) + v) - 48), .int (uSe u)])), (p1, .inl (g.2.1 0, 100, .inl tx)), (p2, .inl (g.2.1 0, 25, .inl (uT u))), (p3, .inl (g.2.1 0, 25, .inl (uG u))), (p4, .inl (g.2.1 0, 25, .inl (uF u))), (p5, .inl (g.2.1 0, 25, .inl (uE u)))] := hD
    refine lv_aload_n hx hb dX1_takeDigit_26 rfl (lv_at hl 0 rfl) ?_
    refine lv_dup hx hb dX1_takeDigit_27 rfl ?_
    refine va_get (D := g.1) (ci := 1) (v := .int (nI ((uDg u)))) (C := RX1) (T := TX1) (N := 13) hx hb hts in_X1_takeDigit_X1 hown hK hP 0 rfl rfl 8 (by decide) (hts _ (List.mem_of_getElem? (i := 1) rfl)) (fun _ h9 => h9) rfl dX1_takeDigit_28 ?_
    refine lv_iconst (v := 1) hx hb dX1_takeDigit_31 (by decide) ?_
    refine lv_iadd hx hb dX1_takeDigit_32 ?_
    refine lv_tope (y := (nI ((uDg u) + 1))) (show ((nI ((uDg u))) + 1 : Int32) = nI ((uDg u) + 1) from nI_add ((uDg u)) (1)) ?_
    refine va_put (D := g.1) (ci := 1) (v := .int (nI ((uDg u) + 1))) (ty := .int) (C := RX1) (T := TX1) (N := 13) hx hb hts in_X1_takeDigit_X1 tyX1 tyX1_ok nmX1 hown hK hP hD hS 0 rfl rfl 8 (by decide) (hts _ (List.mem_of_getElem? (i := 1) rfl)) (fun _ h9 => h9) rfl (by decide +kernel) rfl rfl (Nat.le_of_ble_eq_true rfl) dX1_takeDigit_33 (fun H locs hP hD hS => ?_)
    have hP : va_P g.1 vwCl [(p0, .inr (1, [.ref p1, .int (nI len), .ref p2, .ref p3, .ref p4, .ref p5, .int (nI ((uNs u))), .int (nI ((uPl u))), .int (nI ((uDg u) + 1)), .int (uTg u), .int (uSn u), .int (((10 * (uFi u)) + v) - 48), .int (uSe u)])), (p1, .inl (g.2.1 0, 100, .inl tx)), (p2, .inl (g.2.1 0, 25, .inl (uT u))), (p3, .inl (g.2.1 0, 25, .inl (uG u))), (p4, .inl (g.2.1 0, 25, .inl (uF u))), (p5, .inl (g.2.1 0, 25, .inl (uE u)))] _ := hP
    have hD : va_D (va_Ad [(p0, .inr (1, [.ref p1, .int (nI len), .ref p2, .ref p3, .ref p4, .ref p5, .int (nI ((uNs u))), .int (nI ((uPl u))), .int (nI ((uDg u))), .int (uTg u), .int (uSn u), .int (uFi u), .int (uSe u)])), (p1, .inl (g.2.1 0, 100, .inl tx)), (p2, .inl (g.2.1 0, 25, .inl (uT u))), (p3, .inl (g.2.1 0, 25, .inl (uG u))), (p4, .inl (g.2.1 0, 25, .inl (uF u))), (p5, .inl (g.2.1 0, 25, .inl (uE u)))]) [(p0, .inr (1, [.ref p1, .int (nI len), .ref p2, .ref p3, .ref p4, .ref p5, .int (nI ((uNs u))), .int (nI ((uPl u))), .int (nI ((uDg u) + 1)), .int (uTg u), .int (uSn u), .int (((10 * (uFi u)) + v) - 48), .int (uSe u)])), (p1, .inl (g.2.1 0, 100, .inl tx)), (p2, .inl (g.2.1 0, 25, .inl (uT u))), (p3, .inl (g.2.1 0, 25, .inl (uG u))), (p4, .inl (g.2.1 0, 25, .inl (uF u))), (p5, .inl (g.2.1 0, 25, .inl (uE u)))] := hD
    refine lv_iconst (v := 1) hx hb dX1_takeDigit_36 (by decide) ?_
    have e9 : pTD u v = ((uPl u, uDg u + 1, uTg u, uSn u, 10 * uFi u + v - 48, uSe u, uNs u, uT u, uG u, uF u, uE u), true) := if_pos n5
    subst hQ
    have hP9 : va_P g.1 vwCl [(p0, .inr (1, [.ref p1, .int (nI len), .ref p2, .ref p3, .ref p4, .ref p5, .int (nI ((uNs ((pTD u v).1)))), .int (nI ((uPl ((pTD u v).1)))), .int (nI ((uDg ((pTD u v).1)))), .int (uTg ((pTD u v).1)), .int (uSn ((pTD u v).1)), .int (uFi ((pTD u v).1)), .int (uSe ((pTD u v).1))])), (p1, .inl (g.2.1 0, 100, .inl tx)), (p2, .inl (g.2.1 0, 25, .inl (uT ((pTD u v).1)))), (p3, .inl (g.2.1 0, 25, .inl (uG ((pTD u v).1)))), (p4, .inl (g.2.1 0, 25, .inl (uF ((pTD u v).1)))), (p5, .inl (g.2.1 0, 25, .inl (uE ((pTD u v).1))))] H := by rw [e9]; exact hP
    exact W.zret (v := 1) hx hb hr rfl (fun t ht hW => ⟨⟨1, (), rfl, by rw [e9]; rfl, by show va_P g.1 vwCl _ t.heap; rw [ht]; exact hP9⟩, hS.F ht⟩) hS.2.2 dX1_takeDigit_37
  · have n5 : 3 ≤ (uDg u) := Nat.le_of_not_lt (fun h9 => c5 ((nI_ltI (a := (uDg u)) (b := 3) (by omega) (by omega)).mpr h9))
    refine lv_iconst (v := 0) hx hb dX1_takeDigit_8 (by decide) ?_
    have e9 : pTD u v = (u, false) := if_neg (by omega)
    subst hQ
    have hP9 : va_P g.1 vwCl [(p0, .inr (1, [.ref p1, .int (nI len), .ref p2, .ref p3, .ref p4, .ref p5, .int (nI ((uNs ((pTD u v).1)))), .int (nI ((uPl ((pTD u v).1)))), .int (nI ((uDg ((pTD u v).1)))), .int (uTg ((pTD u v).1)), .int (uSn ((pTD u v).1)), .int (uFi ((pTD u v).1)), .int (uSe ((pTD u v).1))])), (p1, .inl (g.2.1 0, 100, .inl tx)), (p2, .inl (g.2.1 0, 25, .inl (uT ((pTD u v).1)))), (p3, .inl (g.2.1 0, 25, .inl (uG ((pTD u v).1)))), (p4, .inl (g.2.1 0, 25, .inl (uF ((pTD u v).1)))), (p5, .inl (g.2.1 0, 25, .inl (uE ((pTD u v).1))))] s.heap := by rw [e9]; exact hP
    exact W.zret (v := 0) hx hb hr rfl (fun t ht hW => ⟨⟨0, (), rfl, by rw [e9]; rfl, by show va_P g.1 vwCl _ t.heap; rw [ht]; exact hP9⟩, hS.F ht⟩) hS.2.2 dX1_takeDigit_9
theorem in_X1_takeSemicolon_X1 : ∀ w ∈ wsX10, w ∈ wsX1_takeSemicolon := by decide +kernel
abbrev rm_X1_takeSemicolon : Room := { frames := 0, cells := 0, slots := 0, locals := 0 }
set_option maxRecDepth 100000 in
set_option maxHeartbeats 4000000 in
theorem c_X1_takeSemicolon (l : Launch) (g : GT) (p0 : Nat) (p1 : Nat) (p2 : Nat) (p3 : Nat) (p4 : Nat) (p5 : Nat) (len : Nat) (tx : Nat → Int32) (u : PSt) (v : Int32) (hns : uNs u ≤ 25) : cUi l g yX1_takeSemicolon wsX1_takeSemicolon rm_X1_takeSemicolon [.ref p0, .int v] [(p0, .inr (1, [.ref p1, .int (nI len), .ref p2, .ref p3, .ref p4, .ref p5, .int (nI ((uNs u))), .int (nI ((uPl u))), .int (nI ((uDg u))), .int (uTg u), .int (uSn u), .int (uFi u), .int (uSe u)])), (p1, .inl (g.2.1 0, 100, .inl tx)), (p2, .inl (g.2.1 0, 25, .inl (uT u))), (p3, .inl (g.2.1 0, 25, .inl (uG u))), (p4, .inl (g.2.1 0, 25, .inl (uF u))), (p5, .inl (g.2.1 0, 25, .inl (uE u)))] (fun r (_ : Unit) => r = (if (pTS u v).2 = true then (1 : Int32) else 0)) (fun _ => [(p0, .inr (1, [.ref p1, .int (nI len), .ref p2, .ref p3, .ref p4, .ref p5, .int (nI ((uNs ((pTS u v).1)))), .int (nI ((uPl ((pTS u v).1)))), .int (nI ((uDg ((pTS u v).1)))), .int (uTg ((pTS u v).1)), .int (uSn ((pTS u v).1)), .int (uFi ((pTS u v).1)), .int (uSe ((pTS u v).1))])), (p1, .inl (g.2.1 0, 100, .inl tx)), (p2, .inl (g.2.1 0, 25, .inl (uT ((pTS u v).1)))), (p3, .inl (g.2.1 0, 25, .inl (uG ((pTS u v).1)))), (p4, .inl (g.2.1 0, 25, .inl (uF ((pTS u v).1)))), (p5, .inl (g.2.1 0, 25, .inl (uE ((pTS u v).1))))]) := by
  refine enU (y := yX1_takeSemicolon) (ws := wsX1_takeSemicolon) (av := [.ref p0, .int v]) (cc := cX1_takeSemicolon) (maxL := 2) (ret := (some .boolean)) (by decide) rfl (Nat.le_of_ble_eq_true rfl) rfl ?_
  intro p e s m below meth c ls hx hb hr hml hown hts hlocks hE hP hD hl
  have hK := hE.1
  have hS : va_S (va_Ad [(p0, .inr (1, [.ref p1, .int (nI len), .ref p2, .ref p3, .ref p4, .ref p5, .int (nI ((uNs u))), .int (nI ((uPl u))), .int (nI ((uDg u))), .int (uTg u), .int (uSn u), .int (uFi u), .int (uSe u)])), (p1, .inl (g.2.1 0, 100, .inl tx)), (p2, .inl (g.2.1 0, 25, .inl (uT u))), (p3, .inl (g.2.1 0, 25, .inl (uG u))), (p4, .inl (g.2.1 0, 25, .inl (uF u))), (p5, .inl (g.2.1 0, 25, .inl (uE u)))]) s.heap s.heap [] := va_S.rf
  generalize hQ : MQ below _ _ s _ _ _ = Q9
  have hl : lv_has ls 2 [(0, .ref p0), (1, .int v)] := hl
  refine lv_iload_n hx hb dX1_takeSemicolon_0 rfl (lv_at hl 1 rfl) ?_
  refine lv_bipush (v := 59) hx hb dX1_takeSemicolon_1 (by decide) ?_
  refine lv_icmp_ne (tgt := 15) hx hb dX1_takeSemicolon_3 (by decide) (fun c3 => ?_) (fun c3 => ?_)
  · refine lv_iconst (v := 0) hx hb dX1_takeSemicolon_15 (by decide) ?_
    have e9 : pTS u v = (u, false) := if_neg (by first | exact fun h => c3 h.1 | exact fun h => absurd h.2 (by omega))
    subst hQ
    have hP9 : va_P g.1 vwCl [(p0, .inr (1, [.ref p1, .int (nI len), .ref p2, .ref p3, .ref p4, .ref p5, .int (nI ((uNs ((pTS u v).1)))), .int (nI ((uPl ((pTS u v).1)))), .int (nI ((uDg ((pTS u v).1)))), .int (uTg ((pTS u v).1)), .int (uSn ((pTS u v).1)), .int (uFi ((pTS u v).1)), .int (uSe ((pTS u v).1))])), (p1, .inl (g.2.1 0, 100, .inl tx)), (p2, .inl (g.2.1 0, 25, .inl (uT ((pTS u v).1)))), (p3, .inl (g.2.1 0, 25, .inl (uG ((pTS u v).1)))), (p4, .inl (g.2.1 0, 25, .inl (uF ((pTS u v).1)))), (p5, .inl (g.2.1 0, 25, .inl (uE ((pTS u v).1))))] s.heap := by rw [e9]; exact hP
    exact W.zret (v := 0) hx hb hr rfl (fun t ht hW => ⟨⟨0, (), rfl, by rw [e9]; rfl, by show va_P g.1 vwCl _ t.heap; rw [ht]; exact hP9⟩, hS.F ht⟩) hS.2.2 dX1_takeSemicolon_16
  · refine lv_aload_n hx hb dX1_takeSemicolon_6 rfl (lv_at hl 0 rfl) ?_
    refine va_get (D := g.1) (ci := 1) (v := .int (nI ((uNs u)))) (C := RX1) (T := TX1) (N := 13) hx hb hts in_X1_takeSemicolon_X1 hown hK hP 0 rfl rfl 6 (by decide) (hts _ (List.mem_of_getElem? (i := 1) rfl)) (fun _ h9 => h9) rfl dX1_takeSemicolon_7 ?_
    refine lv_bipush (v := 25) hx hb dX1_takeSemicolon_10 (by decide) ?_
    refine lv_icmp_lt (tgt := 17) hx hb dX1_takeSemicolon_12 (by decide) (fun c12 => ?_) (fun c12 => ?_)
    · have n12 : (uNs u) < 25 := (nI_ltI (a := (uNs u)) (b := 25) (by omega) (by omega)).mp c12
      refine lv_aload_n hx hb dX1_takeSemicolon_17 rfl (lv_at hl 0 rfl) ?_
      refine va_get (D := g.1) (ci := 1) (v := .ref p2) (C := RX1) (T := TX1) (N := 13) hx hb hts in_X1_takeSemicolon_X1 hown hK hP 0 rfl rfl 2 (by decide) (hts _ (List.mem_of_getElem? (i := 2) rfl)) (fun _ h9 => h9) rfl dX1_takeSemicolon_18 ?_
      refine lv_aload_n hx hb dX1_takeSemicolon_21 rfl (lv_at hl 0 rfl) ?_
      refine va_get (D := g.1) (ci := 1) (v := .int (nI ((uNs u)))) (C := RX1) (T := TX1) (N := 13) hx hb hts in_X1_takeSemicolon_X1 hown hK hP 0 rfl rfl 6 (by decide) (hts _ (List.mem_of_getElem? (i := 1) rfl)) (fun _ h9 => h9) rfl dX1_takeSemicolon_22 ?_
      refine lv_aload_n hx hb dX1_takeSemicolon_25 rfl (lv_at hl 0 rfl) ?_
      refine va_get (D := g.1) (ci := 1) (v := .int (uTg u)) (C := RX1) (T := TX1) (N := 13) hx hb hts in_X1_takeSemicolon_X1 hown hK hP 0 rfl rfl 9 (by decide) (hts _ (List.mem_of_getElem? (i := 3) rfl)) (fun _ h9 => h9) rfl dX1_takeSemicolon_26 ?_
      refine gIast (k := (uNs u)) (x := (uTg u)) (wsn := [(p0, .inr (1, [.ref p1, .int (nI len), .ref p2, .ref p3, .ref p4, .ref p5, .int (nI ((uNs u))), .int (nI ((uPl u))), .int (nI ((uDg u))), .int (uTg u), .int (uSn u), .int (uFi u), .int (uSe u)])), (p1, .inl (g.2.1 0, 100, .inl tx)), (p2, .inl (g.2.1 0, 25, .inl (upd (uT u) (uNs u) (uTg u)))), (p3, .inl (g.2.1 0, 25, .inl (uG u))), (p4, .inl (g.2.1 0, 25, .inl (uF u))), (p5, .inl (g.2.1 0, 25, .inl (uE u)))]) hx hb hE hP hD hS 2 rfl (by omega) (by omega) dX1_takeSemicolon_29 (hw := rfl) (kk := fun H locs hP hD hS => ?_)
      refine lv_aload_n hx hb dX1_takeSemicolon_30 rfl (lv_at hl 0 rfl) ?_
      refine va_get (D := g.1) (ci := 1) (v := .ref p3) (C := RX1) (T := TX1) (N := 13) hx hb hts in_X1_takeSemicolon_X1 hown hK hP 0 rfl rfl 3 (by decide) (hts _ (List.mem_of_getElem? (i := 4) rfl)) (fun _ h9 => h9) rfl dX1_takeSemicolon_31 ?_
      refine lv_aload_n hx hb dX1_takeSemicolon_34 rfl (lv_at hl 0 rfl) ?_
      refine va_get (D := g.1) (ci := 1) (v := .int (nI ((uNs u)))) (C := RX1) (T := TX1) (N := 13) hx hb hts in_X1_takeSemicolon_X1 hown hK hP 0 rfl rfl 6 (by decide) (hts _ (List.mem_of_getElem? (i := 1) rfl)) (fun _ h9 => h9) rfl dX1_takeSemicolon_35 ?_
      refine lv_aload_n hx hb dX1_takeSemicolon_38 rfl (lv_at hl 0 rfl) ?_
      refine va_get (D := g.1) (ci := 1) (v := .int (uSn u)) (C := RX1) (T := TX1) (N := 13) hx hb hts in_X1_takeSemicolon_X1 hown hK hP 0 rfl rfl 10 (by decide) (hts _ (List.mem_of_getElem? (i := 5) rfl)) (fun _ h9 => h9) rfl dX1_takeSemicolon_39 ?_
      refine gIast (k := (uNs u)) (x := (uSn u)) (wsn := [(p0, .inr (1, [.ref p1, .int (nI len), .ref p2, .ref p3, .ref p4, .ref p5, .int (nI ((uNs u))), .int (nI ((uPl u))), .int (nI ((uDg u))), .int (uTg u), .int (uSn u), .int (uFi u), .int (uSe u)])), (p1, .inl (g.2.1 0, 100, .inl tx)), (p2, .inl (g.2.1 0, 25, .inl (upd (uT u) (uNs u) (uTg u)))), (p3, .inl (g.2.1 0, 25, .inl (upd (uG u) (uNs u) (uSn u)))), (p4, .inl (g.2.1 0, 25, .inl (uF u))), (p5, .inl (g.2.1 0, 25, .inl (uE u)))]) hx hb hE hP hD hS 3 rfl (by omega) (by omega) dX1_takeSemicolon_42 (hw := rfl) (kk := fun H locs hP hD hS => ?_)
      refine lv_aload_n hx hb dX1_takeSemicolon_43 rfl (lv_at hl 0 rfl) ?_
      refine va_get (D := g.1) (ci := 1) (v := .ref p4) (C := RX1) (T := TX1) (N := 13) hx hb hts in_X1_takeSemicolon_X1 hown hK hP 0 rfl rfl 4 (by decide) (hts _ (List.mem_of_getElem? (i := 6) rfl)) (fun _ h9 => h9) rfl dX1_takeSemicolon_44 ?_
      refine lv_aload_n hx hb dX1_takeSemicolon_47 rfl (lv_at hl 0 rfl) ?_
      refine va_get (D := g.1) (ci := 1) (v := .int (nI ((uNs u)))) (C := RX1) (T := TX1) (N := 13) hx hb hts in_X1_takeSemicolon_X1 hown hK hP 0 rfl rfl 6 (by decide) (hts _ (List.mem_of_getElem? (i := 1) rfl)) (fun _ h9 => h9) rfl dX1_takeSemicolon_48 ?_
      refine lv_aload_n hx hb dX1_takeSemicolon_51 rfl (lv_at hl 0 rfl) ?_
      refine va_get (D := g.1) (ci := 1) (v := .int (uFi u)) (C := RX1) (T := TX1) (N := 13) hx hb hts in_X1_takeSemicolon_X1 hown hK hP 0 rfl rfl 11 (by decide) (hts _ (List.mem_of_getElem? (i := 7) rfl)) (fun _ h9 => h9) rfl dX1_takeSemicolon_52 ?_
      refine gIast (k := (uNs u)) (x := (uFi u)) (wsn := [(p0, .inr (1, [.ref p1, .int (nI len), .ref p2, .ref p3, .ref p4, .ref p5, .int (nI ((uNs u))), .int (nI ((uPl u))), .int (nI ((uDg u))), .int (uTg u), .int (uSn u), .int (uFi u), .int (uSe u)])), (p1, .inl (g.2.1 0, 100, .inl tx)), (p2, .inl (g.2.1 0, 25, .inl (upd (uT u) (uNs u) (uTg u)))), (p3, .inl (g.2.1 0, 25, .inl (upd (uG u) (uNs u) (uSn u)))), (p4, .inl (g.2.1 0, 25, .inl (upd (uF u) (uNs u) (uFi u)))), (p5, .inl (g.2.1 0, 25, .inl (uE u)))]) hx hb hE hP hD hS 4 rfl (by omega) (by omega) dX1_takeSemicolon_55 (hw := rfl) (kk := fun H locs hP hD hS => ?_)
      refine lv_aload_n hx hb dX1_takeSemicolon_56 rfl (lv_at hl 0 rfl) ?_
      refine va_get (D := g.1) (ci := 1) (v := .ref p5) (C := RX1) (T := TX1) (N := 13) hx hb hts in_X1_takeSemicolon_X1 hown hK hP 0 rfl rfl 5 (by decide) (hts _ (List.mem_of_getElem? (i := 8) rfl)) (fun _ h9 => h9) rfl dX1_takeSemicolon_57 ?_
      refine lv_aload_n hx hb dX1_takeSemicolon_60 rfl (lv_at hl 0 rfl) ?_
      refine va_get (D := g.1) (ci := 1) (v := .int (nI ((uNs u)))) (C := RX1) (T := TX1) (N := 13) hx hb hts in_X1_takeSemicolon_X1 hown hK hP 0 rfl rfl 6 (by decide) (hts _ (List.mem_of_getElem? (i := 1) rfl)) (fun _ h9 => h9) rfl dX1_takeSemicolon_61 ?_
      refine lv_aload_n hx hb dX1_takeSemicolon_64 rfl (lv_at hl 0 rfl) ?_
      refine va_get (D := g.1) (ci := 1) (v := .int (uSe u)) (C := RX1) (T := TX1) (N := 13) hx hb hts in_X1_takeSemicolon_X1 hown hK hP 0 rfl rfl 12 (by decide) (hts _ (List.mem_of_getElem? (i := 9) rfl)) (fun _ h9 => h9) rfl dX1_takeSemicolon_65 ?_
      refine gIast (k := (uNs u)) (x := (uSe u)) (wsn := [(p0, .inr (1, [.ref p1, .int (nI len), .ref p2, .ref p3, .ref p4, .ref p5, .int (nI ((uNs u))), .int (nI ((uPl u))), .int (nI ((uDg u))), .int (uTg u), .int (uSn u), .int (uFi u), .int (uSe u)])), (p1, .inl (g.2.1 0, 100, .inl tx)), (p2, .inl (g.2.1 0, 25, .inl (upd (uT u) (uNs u) (uTg u)))), (p3, .inl (g.2.1 0, 25, .inl (upd (uG u) (uNs u) (uSn u)))), (p4, .inl (g.2.1 0, 25, .inl (upd (uF u) (uNs u) (uFi u)))), (p5, .inl (g.2.1 0, 25, .inl (upd (uE u) (uNs u) (uSe u))))]) hx hb hE hP hD hS 5 rfl (by omega) (by omega) dX1_takeSemicolon_68 (hw := rfl) (kk := fun H locs hP hD hS => ?_)
      refine lv_aload_n hx hb dX1_takeSemicolon_69 rfl (lv_at hl 0 rfl) ?_
      refine lv_dup hx hb dX1_takeSemicolon_70 rfl ?_
      refine va_get (D := g.1) (ci := 1) (v := .int (nI ((uNs u)))) (C := RX1) (T := TX1) (N := 13) hx hb hts in_X1_takeSemicolon_X1 hown hK hP 0 rfl rfl 6 (by decide) (hts _ (List.mem_of_getElem? (i := 1) rfl)) (fun _ h9 => h9) rfl dX1_takeSemicolon_71 ?_
      refine lv_iconst (v := 1) hx hb dX1_takeSemicolon_74 (by decide) ?_
      refine lv_iadd hx hb dX1_takeSemicolon_75 ?_
      refine lv_tope (y := (nI ((uNs u) + 1))) (show ((nI ((uNs u))) + 1 : Int32) = nI ((uNs u) + 1) from nI_add ((uNs u)) (1)) ?_
      refine va_put (D := g.1) (ci := 1) (v := .int (nI ((uNs u) + 1))) (ty := .int) (C := RX1) (T := TX1) (N := 13) hx hb hts in_X1_takeSemicolon_X1 tyX1 tyX1_ok nmX1 hown hK hP hD hS 0 rfl rfl 6 (by decide) (hts _ (List.mem_of_getElem? (i := 1) rfl)) (fun _ h9 => h9) rfl (by decide +kernel) rfl rfl (Nat.le_of_ble_eq_true rfl) dX1_takeSemicolon_76 (fun H locs hP hD hS => ?_)
      have hP : va_P g.1 vwCl [(p0, .inr (1, [.ref p1, .int (nI len), .ref p2, .ref p3, .ref p4, .ref p5, .int (nI ((uNs u) + 1)), .int (nI ((uPl u))), .int (nI ((uDg u))), .int (uTg u), .int (uSn u), .int (uFi u), .int (uSe u)])), (p1, .inl (g.2.1 0, 100, .inl tx)), (p2, .inl (g.2.1 0, 25, .inl (upd (uT u) (uNs u) (uTg u)))), (p3, .inl (g.2.1 0, 25, .inl (upd (uG u) (uNs u) (uSn u)))), (p4, .inl (g.2.1 0, 25, .inl (upd (uF u) (uNs u) (uFi u)))), (p5, .inl (g.2.1 0, 25, .inl (upd (uE u) (uNs u) (uSe u))))] _ := hP
      have hD : va_D (va_Ad [(p0, .inr (1, [.ref p1, .int (nI len), .ref p2, .ref p3, .ref p4, .ref p5, .int (nI ((uNs u))), .int (nI ((uPl u))), .int (nI ((uDg u))), .int (uTg u), .int (uSn u), .int (uFi u), .int (uSe u)])), (p1, .inl (g.2.1 0, 100, .inl tx)), (p2, .inl (g.2.1 0, 25, .inl (uT u))), (p3, .inl (g.2.1 0, 25, .inl (uG u))), (p4, .inl (g.2.1 0, 25, .inl (uF u))), (p5, .inl (g.2.1 0, 25, .inl (uE u)))]) [(p0, .inr (1, [.ref p1, .int (nI len), .ref p2, .ref p3, .ref p4, .ref p5, .int (nI ((uNs u) + 1)), .int (nI ((uPl u))), .int (nI ((uDg u))), .int (uTg u), .int (uSn u), .int (uFi u), .int (uSe u)])), (p1, .inl (g.2.1 0, 100, .inl tx)), (p2, .inl (g.2.1 0, 25, .inl (upd (uT u) (uNs u) (uTg u)))), (p3, .inl (g.2.1 0, 25, .inl (upd (uG u) (uNs u) (uSn u)))), (p4, .inl (g.2.1 0, 25, .inl (upd (uF u) (uNs u) (uFi u)))), (p5, .inl (g.2.1 0, 25, .inl (upd (uE u) (uNs u) (uSe u))))] := hD
      refine lv_aload_n hx hb dX1_takeSemicolon_79 rfl (lv_at hl 0 rfl) ?_
      refine lv_iconst (v := 0) hx hb dX1_takeSemicolon_80 (by decide) ?_
      refine lv_tope (y := (nI 0)) rfl ?_
      refine va_put (D := g.1) (ci := 1) (v := .int (nI 0)) (ty := .int) (C := RX1) (T := TX1) (N := 13) hx hb hts in_X1_takeSemicolon_X1 tyX1 tyX1_ok nmX1 hown hK hP hD hS 0 rfl rfl 7 (by decide) (hts _ (List.mem_of_getElem? (i := 10) rfl)) (fun _ h9 => h9) rfl (by decide +kernel) rfl rfl (Nat.le_of_ble_eq_true rfl) dX1_takeSemicolon_81 (fun H locs hP hD hS => ?_)
      have hP : va_P g.1 vwCl [(p0, .inr (1, [.ref p1, .int (nI len), .ref p2, .ref p3, .ref p4, .ref p5, .int (nI ((uNs u) + 1)), .int (nI 0), .int (nI ((uDg u))), .int (uTg u), .int (uSn u), .int (uFi u), .int (uSe u)])), (p1, .inl (g.2.1 0, 100, .inl tx)), (p2, .inl (g.2.1 0, 25, .inl (upd (uT u) (uNs u) (uTg u)))), (p3, .inl (g.2.1 0, 25, .inl (upd (uG u) (uNs u) (uSn u)))), (p4, .inl (g.2.1 0, 25, .inl (upd (uF u) (uNs u) (uFi u)))), (p5, .inl (g.2.1 0, 25, .inl (upd (uE u) (uNs u) (uSe u))))] _ := hP
      have hD : va_D (va_Ad [(p0, .inr (1, [.ref p1, .int (nI len), .ref p2, .ref p3, .ref p4, .ref p5, .int (nI ((uNs u))), .int (nI ((uPl u))), .int (nI ((uDg u))), .int (uTg u), .int (uSn u), .int (uFi u), .int (uSe u)])), (p1, .inl (g.2.1 0, 100, .inl tx)), (p2, .inl (g.2.1 0, 25, .inl (uT u))), (p3, .inl (g.2.1 0, 25, .inl (uG u))), (p4, .inl (g.2.1 0, 25, .inl (uF u))), (p5, .inl (g.2.1 0, 25, .inl (uE u)))]) [(p0, .inr (1, [.ref p1, .int (nI len), .ref p2, .ref p3, .ref p4, .ref p5, .int (nI ((uNs u) + 1)), .int (nI 0), .int (nI ((uDg u))), .int (uTg u), .int (uSn u), .int (uFi u), .int (uSe u)])), (p1, .inl (g.2.1 0, 100, .inl tx)), (p2, .inl (g.2.1 0, 25, .inl (upd (uT u) (uNs u) (uTg u)))), (p3, .inl (g.2.1 0, 25, .inl (upd (uG u) (uNs u) (uSn u)))), (p4, .inl (g.2.1 0, 25, .inl (upd (uF u) (uNs u) (uFi u)))), (p5, .inl (g.2.1 0, 25, .inl (upd (uE u) (uNs u) (uSe u))))] := hD
      refine lv_iconst (v := 1) hx hb dX1_takeSemicolon_84 (by decide) ?_
      have e9 : pTS u v = ((0, uDg u, uTg u, uSn u, uFi u, uSe u, uNs u + 1, upd (uT u) (uNs u) (uTg u), upd (uG u) (uNs u) (uSn u), upd (uF u) (uNs u) (uFi u), upd (uE u) (uNs u) (uSe u)), true) := if_pos ⟨c3, n12⟩
      subst hQ
      have hP9 : va_P g.1 vwCl [(p0, .inr (1, [.ref p1, .int (nI len), .ref p2, .ref p3, .ref p4, .ref p5, .int (nI ((uNs ((pTS u v).1)))), .int (nI ((uPl ((pTS u v).1)))), .int (nI ((uDg ((pTS u v).1)))), .int (uTg ((pTS u v).1)), .int (uSn ((pTS u v).1)), .int (uFi ((pTS u v).1)), .int (uSe ((pTS u v).1))])), (p1, .inl (g.2.1 0, 100, .inl tx)), (p2, .inl (g.2.1 0, 25, .inl (uT ((pTS u v).1)))), (p3, .inl (g.2.1 0, 25, .inl (uG ((pTS u v).1)))), (p4, .inl (g.2.1 0, 25, .inl (uF ((pTS u v).1)))), (p5, .inl (g.2.1 0, 25, .inl (uE ((pTS u v).1))))] H := by rw [e9]; exact hP
      exact W.zret (v := 1) hx hb hr rfl (fun t ht hW => ⟨⟨1, (), rfl, by rw [e9]; rfl, by show va_P g.1 vwCl _ t.heap; rw [ht]; exact hP9⟩, hS.F ht⟩) hS.2.2 dX1_takeSemicolon_85
    · have n12 : 25 ≤ (uNs u) := Nat.le_of_not_lt (fun h9 => c12 ((nI_ltI (a := (uNs u)) (b := 25) (by omega) (by omega)).mpr h9))
      refine lv_iconst (v := 0) hx hb dX1_takeSemicolon_15 (by decide) ?_
      have e9 : pTS u v = (u, false) := if_neg (by first | exact fun h => c3 h.1 | exact fun h => absurd h.2 (by omega))
      subst hQ
      have hP9 : va_P g.1 vwCl [(p0, .inr (1, [.ref p1, .int (nI len), .ref p2, .ref p3, .ref p4, .ref p5, .int (nI ((uNs ((pTS u v).1)))), .int (nI ((uPl ((pTS u v).1)))), .int (nI ((uDg ((pTS u v).1)))), .int (uTg ((pTS u v).1)), .int (uSn ((pTS u v).1)), .int (uFi ((pTS u v).1)), .int (uSe ((pTS u v).1))])), (p1, .inl (g.2.1 0, 100, .inl tx)), (p2, .inl (g.2.1 0, 25, .inl (uT ((pTS u v).1)))), (p3, .inl (g.2.1 0, 25, .inl (uG ((pTS u v).1)))), (p4, .inl (g.2.1 0, 25, .inl (uF ((pTS u v).1)))), (p5, .inl (g.2.1 0, 25, .inl (uE ((pTS u v).1))))] s.heap := by rw [e9]; exact hP
      exact W.zret (v := 0) hx hb hr rfl (fun t ht hW => ⟨⟨0, (), rfl, by rw [e9]; rfl, by show va_P g.1 vwCl _ t.heap; rw [ht]; exact hP9⟩, hS.F ht⟩) hS.2.2 dX1_takeSemicolon_16
theorem in_X1_takeOperand_X1 : ∀ w ∈ wsX10, w ∈ wsX1_takeOperand := by decide +kernel
abbrev rm_X1_takeOperand : Room := { frames := 1, cells := 0, slots := 0, locals := 21 }
set_option maxRecDepth 100000 in
set_option maxHeartbeats 4000000 in
theorem c_X1_takeOperand (l : Launch) (g : GT) (p0 : Nat) (p1 : Nat) (p2 : Nat) (p3 : Nat) (p4 : Nat) (p5 : Nat) (len : Nat) (tx : Nat → Int32) (u : PSt) (v : Int32) : cUi l g yX1_takeOperand wsX1_takeOperand rm_X1_takeOperand [.ref p0, .int v] [(p0, .inr (1, [.ref p1, .int (nI len), .ref p2, .ref p3, .ref p4, .ref p5, .int (nI ((uNs u))), .int (nI ((uPl u))), .int (nI ((uDg u))), .int (uTg u), .int (uSn u), .int (uFi u), .int (uSe u)])), (p1, .inl (g.2.1 0, 100, .inl tx)), (p2, .inl (g.2.1 0, 25, .inl (uT u))), (p3, .inl (g.2.1 0, 25, .inl (uG u))), (p4, .inl (g.2.1 0, 25, .inl (uF u))), (p5, .inl (g.2.1 0, 25, .inl (uE u)))] (fun r (_ : Unit) => r = (if (pTO u v).2 = true then (1 : Int32) else 0)) (fun _ => [(p0, .inr (1, [.ref p1, .int (nI len), .ref p2, .ref p3, .ref p4, .ref p5, .int (nI ((uNs ((pTO u v).1)))), .int (nI ((uPl ((pTO u v).1)))), .int (nI ((uDg ((pTO u v).1)))), .int (uTg ((pTO u v).1)), .int (uSn ((pTO u v).1)), .int (uFi ((pTO u v).1)), .int (uSe ((pTO u v).1))])), (p1, .inl (g.2.1 0, 100, .inl tx)), (p2, .inl (g.2.1 0, 25, .inl (uT ((pTO u v).1)))), (p3, .inl (g.2.1 0, 25, .inl (uG ((pTO u v).1)))), (p4, .inl (g.2.1 0, 25, .inl (uF ((pTO u v).1)))), (p5, .inl (g.2.1 0, 25, .inl (uE ((pTO u v).1))))]) := by
  refine enU (y := yX1_takeOperand) (ws := wsX1_takeOperand) (av := [.ref p0, .int v]) (cc := cX1_takeOperand) (maxL := 2) (ret := (some .boolean)) (by decide) rfl (Nat.le_of_ble_eq_true rfl) rfl ?_
  intro p e s m below meth c ls hx hb hr hml hown hts hlocks hE hP hD hl
  have hK := hE.1
  have hS : va_S (va_Ad [(p0, .inr (1, [.ref p1, .int (nI len), .ref p2, .ref p3, .ref p4, .ref p5, .int (nI ((uNs u))), .int (nI ((uPl u))), .int (nI ((uDg u))), .int (uTg u), .int (uSn u), .int (uFi u), .int (uSe u)])), (p1, .inl (g.2.1 0, 100, .inl tx)), (p2, .inl (g.2.1 0, 25, .inl (uT u))), (p3, .inl (g.2.1 0, 25, .inl (uG u))), (p4, .inl (g.2.1 0, 25, .inl (uF u))), (p5, .inl (g.2.1 0, 25, .inl (uE u)))]) s.heap s.heap [] := va_S.rf
  generalize hQ : MQ below _ _ s _ _ _ = Q9
  have hl : lv_has ls 2 [(0, .ref p0), (1, .int v)] := hl
  refine lv_iload_n hx hb dX1_takeOperand_0 rfl (lv_at hl 1 rfl) ?_
  refine kRi (va_runS (As := [.int v]) (rest := []) ⟨hx, hb, hml, hown, hts⟩ (c_X1_isDigit l g v) (va_cwS 1 hts gX1_takeOperand_X1_isDigit rfl rfl rfl (by decide +kernel) ⟨(Nat.le_of_ble_eq_true rfl), (Nat.le_of_ble_eq_true rfl)⟩) (preS hE hP [] rfl) rfl rfl hl.1 rfl (lv_room (Nat.le_of_ble_eq_true rfl)) dX1_takeOperand_1 ⟨(Nat.le_of_ble_eq_true rfl), (Nat.le_of_ble_eq_true rfl)⟩) hP hS (fun r9 H locs hr9 hP hS => ?_)
  subst hr9
  refine lv_if_eq (tgt := 39) hx hb dX1_takeOperand_4 (by decide) (fun c4 => ?_) (fun c4 => ?_)
  · have b4 : ¬ (isD v) := bz_f c4
    refine lv_aload_n hx hb dX1_takeOperand_39 rfl (lv_at hl 0 rfl) ?_
    refine lv_iload_n hx hb dX1_takeOperand_40 rfl (lv_at hl 1 rfl) ?_
    refine lv_bipush (v := 97) hx hb dX1_takeOperand_41 (by decide) ?_
    refine lv_isub hx hb dX1_takeOperand_43 ?_
    refine va_put (D := g.1) (ci := 1) (v := .int (v - 97)) (ty := .int) (C := RX1) (T := TX1) (N := 13) hx hb hts in_X1_takeOperand_X1 tyX1 tyX1_ok nmX1 hown hK hP hD hS 0 rfl rfl 11 (by decide) (hts _ (List.mem_of_getElem? (i := 2) rfl)) (fun _ h9 => h9) rfl (by decide +kernel) rfl rfl (Nat.le_of_ble_eq_true rfl) dX1_takeOperand_44 (fun H locs hP hD hS => ?_)
    have hP : va_P g.1 vwCl [(p0, .inr (1, [.ref p1, .int (nI len), .ref p2, .ref p3, .ref p4, .ref p5, .int (nI ((uNs u))), .int (nI ((uPl u))), .int (nI ((uDg u))), .int (uTg u), .int (uSn u), .int (v - 97), .int (uSe u)])), (p1, .inl (g.2.1 0, 100, .inl tx)), (p2, .inl (g.2.1 0, 25, .inl (uT u))), (p3, .inl (g.2.1 0, 25, .inl (uG u))), (p4, .inl (g.2.1 0, 25, .inl (uF u))), (p5, .inl (g.2.1 0, 25, .inl (uE u)))] _ := hP
    have hD : va_D (va_Ad [(p0, .inr (1, [.ref p1, .int (nI len), .ref p2, .ref p3, .ref p4, .ref p5, .int (nI ((uNs u))), .int (nI ((uPl u))), .int (nI ((uDg u))), .int (uTg u), .int (uSn u), .int (uFi u), .int (uSe u)])), (p1, .inl (g.2.1 0, 100, .inl tx)), (p2, .inl (g.2.1 0, 25, .inl (uT u))), (p3, .inl (g.2.1 0, 25, .inl (uG u))), (p4, .inl (g.2.1 0, 25, .inl (uF u))), (p5, .inl (g.2.1 0, 25, .inl (uE u)))]) [(p0, .inr (1, [.ref p1, .int (nI len), .ref p2, .ref p3, .ref p4, .ref p5, .int (nI ((uNs u))), .int (nI ((uPl u))), .int (nI ((uDg u))), .int (uTg u), .int (uSn u), .int (v - 97), .int (uSe u)])), (p1, .inl (g.2.1 0, 100, .inl tx)), (p2, .inl (g.2.1 0, 25, .inl (uT u))), (p3, .inl (g.2.1 0, 25, .inl (uG u))), (p4, .inl (g.2.1 0, 25, .inl (uF u))), (p5, .inl (g.2.1 0, 25, .inl (uE u)))] := hD
    refine lv_aload_n hx hb dX1_takeOperand_47 rfl (lv_at hl 0 rfl) ?_
    refine lv_iconst (v := 4) hx hb dX1_takeOperand_48 (by decide) ?_
    refine lv_tope (y := (nI 4)) rfl ?_
    refine va_put (D := g.1) (ci := 1) (v := .int (nI 4)) (ty := .int) (C := RX1) (T := TX1) (N := 13) hx hb hts in_X1_takeOperand_X1 tyX1 tyX1_ok nmX1 hown hK hP hD hS 0 rfl rfl 7 (by decide) (hts _ (List.mem_of_getElem? (i := 5) rfl)) (fun _ h9 => h9) rfl (by decide +kernel) rfl rfl (Nat.le_of_ble_eq_true rfl) dX1_takeOperand_49 (fun H locs hP hD hS => ?_)
    have hP : va_P g.1 vwCl [(p0, .inr (1, [.ref p1, .int (nI len), .ref p2, .ref p3, .ref p4, .ref p5, .int (nI ((uNs u))), .int (nI 4), .int (nI ((uDg u))), .int (uTg u), .int (uSn u), .int (v - 97), .int (uSe u)])), (p1, .inl (g.2.1 0, 100, .inl tx)), (p2, .inl (g.2.1 0, 25, .inl (uT u))), (p3, .inl (g.2.1 0, 25, .inl (uG u))), (p4, .inl (g.2.1 0, 25, .inl (uF u))), (p5, .inl (g.2.1 0, 25, .inl (uE u)))] _ := hP
    have hD : va_D (va_Ad [(p0, .inr (1, [.ref p1, .int (nI len), .ref p2, .ref p3, .ref p4, .ref p5, .int (nI ((uNs u))), .int (nI ((uPl u))), .int (nI ((uDg u))), .int (uTg u), .int (uSn u), .int (uFi u), .int (uSe u)])), (p1, .inl (g.2.1 0, 100, .inl tx)), (p2, .inl (g.2.1 0, 25, .inl (uT u))), (p3, .inl (g.2.1 0, 25, .inl (uG u))), (p4, .inl (g.2.1 0, 25, .inl (uF u))), (p5, .inl (g.2.1 0, 25, .inl (uE u)))]) [(p0, .inr (1, [.ref p1, .int (nI len), .ref p2, .ref p3, .ref p4, .ref p5, .int (nI ((uNs u))), .int (nI 4), .int (nI ((uDg u))), .int (uTg u), .int (uSn u), .int (v - 97), .int (uSe u)])), (p1, .inl (g.2.1 0, 100, .inl tx)), (p2, .inl (g.2.1 0, 25, .inl (uT u))), (p3, .inl (g.2.1 0, 25, .inl (uG u))), (p4, .inl (g.2.1 0, 25, .inl (uF u))), (p5, .inl (g.2.1 0, 25, .inl (uE u)))] := hD
    refine lv_iload_n hx hb dX1_takeOperand_52 rfl (lv_at hl 1 rfl) ?_
    refine kRi (va_runS (As := [.int v]) (rest := []) ⟨hx, hb, hml, hown, hts⟩ (c_X1_isLetter l g v) (va_cwS 1 hts gX1_takeOperand_X1_isLetter rfl rfl rfl (by decide +kernel) ⟨(Nat.le_of_ble_eq_true rfl), (Nat.le_of_ble_eq_true rfl)⟩) (preS hE hP [] rfl) rfl rfl hl.1 rfl (lv_room (Nat.le_of_ble_eq_true rfl)) dX1_takeOperand_53 ⟨(Nat.le_of_ble_eq_true rfl), (Nat.le_of_ble_eq_true rfl)⟩) hP hS (fun r9 H locs hr9 hP hS => ?_)
    subst hr9
    have e9 : pTO u v = ((4, uDg u, uTg u, uSn u, v - 97, uSe u, uNs u, uT u, uG u, uF u, uE u), decide (isL v)) := if_neg b4
    subst hQ
    have hP9 : va_P g.1 vwCl [(p0, .inr (1, [.ref p1, .int (nI len), .ref p2, .ref p3, .ref p4, .ref p5, .int (nI ((uNs ((pTO u v).1)))), .int (nI ((uPl ((pTO u v).1)))), .int (nI ((uDg ((pTO u v).1)))), .int (uTg ((pTO u v).1)), .int (uSn ((pTO u v).1)), .int (uFi ((pTO u v).1)), .int (uSe ((pTO u v).1))])), (p1, .inl (g.2.1 0, 100, .inl tx)), (p2, .inl (g.2.1 0, 25, .inl (uT ((pTO u v).1)))), (p3, .inl (g.2.1 0, 25, .inl (uG ((pTO u v).1)))), (p4, .inl (g.2.1 0, 25, .inl (uF ((pTO u v).1)))), (p5, .inl (g.2.1 0, 25, .inl (uE ((pTO u v).1))))] H := by rw [e9]; exact hP
    exact W.zret (v := (if isL v then (1 : Int32) else 0)) hx hb hr bz_n (fun t ht hW => ⟨⟨(if isL v then (1 : Int32) else 0), (), rfl, by rw [e9]; exact bz_d, by show va_P g.1 vwCl _ t.heap; rw [ht]; exact hP9⟩, hS.F ht⟩) hS.2.2 dX1_takeOperand_56
  · have b4 : isD v := bz_t c4
    refine lv_aload_n hx hb dX1_takeOperand_7 rfl (lv_at hl 0 rfl) ?_
    refine lv_bipush (v := 61) hx hb dX1_takeOperand_8 (by decide) ?_
    refine va_put (D := g.1) (ci := 1) (v := .int 61) (ty := .int) (C := RX1) (T := TX1) (N := 13) hx hb hts in_X1_takeOperand_X1 tyX1 tyX1_ok nmX1 hown hK hP hD hS 0 rfl rfl 10 (by decide) (hts _ (List.mem_of_getElem? (i := 1) rfl)) (fun _ h9 => h9) rfl (by decide +kernel) rfl rfl (Nat.le_of_ble_eq_true rfl) dX1_takeOperand_10 (fun H locs hP hD hS => ?_)
    have hP : va_P g.1 vwCl [(p0, .inr (1, [.ref p1, .int (nI len), .ref p2, .ref p3, .ref p4, .ref p5, .int (nI ((uNs u))), .int (nI ((uPl u))), .int (nI ((uDg u))), .int (uTg u), .int 61, .int (uFi u), .int (uSe u)])), (p1, .inl (g.2.1 0, 100, .inl tx)), (p2, .inl (g.2.1 0, 25, .inl (uT u))), (p3, .inl (g.2.1 0, 25, .inl (uG u))), (p4, .inl (g.2.1 0, 25, .inl (uF u))), (p5, .inl (g.2.1 0, 25, .inl (uE u)))] _ := hP
    have hD : va_D (va_Ad [(p0, .inr (1, [.ref p1, .int (nI len), .ref p2, .ref p3, .ref p4, .ref p5, .int (nI ((uNs u))), .int (nI ((uPl u))), .int (nI ((uDg u))), .int (uTg u), .int (uSn u), .int (uFi u), .int (uSe u)])), (p1, .inl (g.2.1 0, 100, .inl tx)), (p2, .inl (g.2.1 0, 25, .inl (uT u))), (p3, .inl (g.2.1 0, 25, .inl (uG u))), (p4, .inl (g.2.1 0, 25, .inl (uF u))), (p5, .inl (g.2.1 0, 25, .inl (uE u)))]) [(p0, .inr (1, [.ref p1, .int (nI len), .ref p2, .ref p3, .ref p4, .ref p5, .int (nI ((uNs u))), .int (nI ((uPl u))), .int (nI ((uDg u))), .int (uTg u), .int 61, .int (uFi u), .int (uSe u)])), (p1, .inl (g.2.1 0, 100, .inl tx)), (p2, .inl (g.2.1 0, 25, .inl (uT u))), (p3, .inl (g.2.1 0, 25, .inl (uG u))), (p4, .inl (g.2.1 0, 25, .inl (uF u))), (p5, .inl (g.2.1 0, 25, .inl (uE u)))] := hD
    refine lv_aload_n hx hb dX1_takeOperand_13 rfl (lv_at hl 0 rfl) ?_
    refine lv_iconst (v := 0) hx hb dX1_takeOperand_14 (by decide) ?_
    refine va_put (D := g.1) (ci := 1) (v := .int 0) (ty := .int) (C := RX1) (T := TX1) (N := 13) hx hb hts in_X1_takeOperand_X1 tyX1 tyX1_ok nmX1 hown hK hP hD hS 0 rfl rfl 11 (by decide) (hts _ (List.mem_of_getElem? (i := 2) rfl)) (fun _ h9 => h9) rfl (by decide +kernel) rfl rfl (Nat.le_of_ble_eq_true rfl) dX1_takeOperand_15 (fun H locs hP hD hS => ?_)
    have hP : va_P g.1 vwCl [(p0, .inr (1, [.ref p1, .int (nI len), .ref p2, .ref p3, .ref p4, .ref p5, .int (nI ((uNs u))), .int (nI ((uPl u))), .int (nI ((uDg u))), .int (uTg u), .int 61, .int 0, .int (uSe u)])), (p1, .inl (g.2.1 0, 100, .inl tx)), (p2, .inl (g.2.1 0, 25, .inl (uT u))), (p3, .inl (g.2.1 0, 25, .inl (uG u))), (p4, .inl (g.2.1 0, 25, .inl (uF u))), (p5, .inl (g.2.1 0, 25, .inl (uE u)))] _ := hP
    have hD : va_D (va_Ad [(p0, .inr (1, [.ref p1, .int (nI len), .ref p2, .ref p3, .ref p4, .ref p5, .int (nI ((uNs u))), .int (nI ((uPl u))), .int (nI ((uDg u))), .int (uTg u), .int (uSn u), .int (uFi u), .int (uSe u)])), (p1, .inl (g.2.1 0, 100, .inl tx)), (p2, .inl (g.2.1 0, 25, .inl (uT u))), (p3, .inl (g.2.1 0, 25, .inl (uG u))), (p4, .inl (g.2.1 0, 25, .inl (uF u))), (p5, .inl (g.2.1 0, 25, .inl (uE u)))]) [(p0, .inr (1, [.ref p1, .int (nI len), .ref p2, .ref p3, .ref p4, .ref p5, .int (nI ((uNs u))), .int (nI ((uPl u))), .int (nI ((uDg u))), .int (uTg u), .int 61, .int 0, .int (uSe u)])), (p1, .inl (g.2.1 0, 100, .inl tx)), (p2, .inl (g.2.1 0, 25, .inl (uT u))), (p3, .inl (g.2.1 0, 25, .inl (uG u))), (p4, .inl (g.2.1 0, 25, .inl (uF u))), (p5, .inl (g.2.1 0, 25, .inl (uE u)))] := hD
    refine lv_aload_n hx hb dX1_takeOperand_18 rfl (lv_at hl 0 rfl) ?_
    refine lv_iconst (v := 0) hx hb dX1_takeOperand_19 (by decide) ?_
    refine va_put (D := g.1) (ci := 1) (v := .int 0) (ty := .int) (C := RX1) (T := TX1) (N := 13) hx hb hts in_X1_takeOperand_X1 tyX1 tyX1_ok nmX1 hown hK hP hD hS 0 rfl rfl 12 (by decide) (hts _ (List.mem_of_getElem? (i := 3) rfl)) (fun _ h9 => h9) rfl (by decide +kernel) rfl rfl (Nat.le_of_ble_eq_true rfl) dX1_takeOperand_20 (fun H locs hP hD hS => ?_)
    have hP : va_P g.1 vwCl [(p0, .inr (1, [.ref p1, .int (nI len), .ref p2, .ref p3, .ref p4, .ref p5, .int (nI ((uNs u))), .int (nI ((uPl u))), .int (nI ((uDg u))), .int (uTg u), .int 61, .int 0, .int 0])), (p1, .inl (g.2.1 0, 100, .inl tx)), (p2, .inl (g.2.1 0, 25, .inl (uT u))), (p3, .inl (g.2.1 0, 25, .inl (uG u))), (p4, .inl (g.2.1 0, 25, .inl (uF u))), (p5, .inl (g.2.1 0, 25, .inl (uE u)))] _ := hP
    have hD : va_D (va_Ad [(p0, .inr (1, [.ref p1, .int (nI len), .ref p2, .ref p3, .ref p4, .ref p5, .int (nI ((uNs u))), .int (nI ((uPl u))), .int (nI ((uDg u))), .int (uTg u), .int (uSn u), .int (uFi u), .int (uSe u)])), (p1, .inl (g.2.1 0, 100, .inl tx)), (p2, .inl (g.2.1 0, 25, .inl (uT u))), (p3, .inl (g.2.1 0, 25, .inl (uG u))), (p4, .inl (g.2.1 0, 25, .inl (uF u))), (p5, .inl (g.2.1 0, 25, .inl (uE u)))]) [(p0, .inr (1, [.ref p1, .int (nI len), .ref p2, .ref p3, .ref p4, .ref p5, .int (nI ((uNs u))), .int (nI ((uPl u))), .int (nI ((uDg u))), .int (uTg u), .int 61, .int 0, .int 0])), (p1, .inl (g.2.1 0, 100, .inl tx)), (p2, .inl (g.2.1 0, 25, .inl (uT u))), (p3, .inl (g.2.1 0, 25, .inl (uG u))), (p4, .inl (g.2.1 0, 25, .inl (uF u))), (p5, .inl (g.2.1 0, 25, .inl (uE u)))] := hD
    refine lv_aload_n hx hb dX1_takeOperand_23 rfl (lv_at hl 0 rfl) ?_
    refine lv_iconst (v := 0) hx hb dX1_takeOperand_24 (by decide) ?_
    refine lv_tope (y := (nI 0)) rfl ?_
    refine va_put (D := g.1) (ci := 1) (v := .int (nI 0)) (ty := .int) (C := RX1) (T := TX1) (N := 13) hx hb hts in_X1_takeOperand_X1 tyX1 tyX1_ok nmX1 hown hK hP hD hS 0 rfl rfl 8 (by decide) (hts _ (List.mem_of_getElem? (i := 4) rfl)) (fun _ h9 => h9) rfl (by decide +kernel) rfl rfl (Nat.le_of_ble_eq_true rfl) dX1_takeOperand_25 (fun H locs hP hD hS => ?_)
    have hP : va_P g.1 vwCl [(p0, .inr (1, [.ref p1, .int (nI len), .ref p2, .ref p3, .ref p4, .ref p5, .int (nI ((uNs u))), .int (nI ((uPl u))), .int (nI 0), .int (uTg u), .int 61, .int 0, .int 0])), (p1, .inl (g.2.1 0, 100, .inl tx)), (p2, .inl (g.2.1 0, 25, .inl (uT u))), (p3, .inl (g.2.1 0, 25, .inl (uG u))), (p4, .inl (g.2.1 0, 25, .inl (uF u))), (p5, .inl (g.2.1 0, 25, .inl (uE u)))] _ := hP
    have hD : va_D (va_Ad [(p0, .inr (1, [.ref p1, .int (nI len), .ref p2, .ref p3, .ref p4, .ref p5, .int (nI ((uNs u))), .int (nI ((uPl u))), .int (nI ((uDg u))), .int (uTg u), .int (uSn u), .int (uFi u), .int (uSe u)])), (p1, .inl (g.2.1 0, 100, .inl tx)), (p2, .inl (g.2.1 0, 25, .inl (uT u))), (p3, .inl (g.2.1 0, 25, .inl (uG u))), (p4, .inl (g.2.1 0, 25, .inl (uF u))), (p5, .inl (g.2.1 0, 25, .inl (uE u)))]) [(p0, .inr (1, [.ref p1, .int (nI len), .ref p2, .ref p3, .ref p4, .ref p5, .int (nI ((uNs u))), .int (nI ((uPl u))), .int (nI 0), .int (uTg u), .int 61, .int 0, .int 0])), (p1, .inl (g.2.1 0, 100, .inl tx)), (p2, .inl (g.2.1 0, 25, .inl (uT u))), (p3, .inl (g.2.1 0, 25, .inl (uG u))), (p4, .inl (g.2.1 0, 25, .inl (uF u))), (p5, .inl (g.2.1 0, 25, .inl (uE u)))] := hD
    refine lv_aload_n hx hb dX1_takeOperand_28 rfl (lv_at hl 0 rfl) ?_
    refine lv_iconst (v := 3) hx hb dX1_takeOperand_29 (by decide) ?_
    refine lv_tope (y := (nI 3)) rfl ?_
    refine va_put (D := g.1) (ci := 1) (v := .int (nI 3)) (ty := .int) (C := RX1) (T := TX1) (N := 13) hx hb hts in_X1_takeOperand_X1 tyX1 tyX1_ok nmX1 hown hK hP hD hS 0 rfl rfl 7 (by decide) (hts _ (List.mem_of_getElem? (i := 5) rfl)) (fun _ h9 => h9) rfl (by decide +kernel) rfl rfl (Nat.le_of_ble_eq_true rfl) dX1_takeOperand_30 (fun H locs hP hD hS => ?_)
    have hP : va_P g.1 vwCl [(p0, .inr (1, [.ref p1, .int (nI len), .ref p2, .ref p3, .ref p4, .ref p5, .int (nI ((uNs u))), .int (nI 3), .int (nI 0), .int (uTg u), .int 61, .int 0, .int 0])), (p1, .inl (g.2.1 0, 100, .inl tx)), (p2, .inl (g.2.1 0, 25, .inl (uT u))), (p3, .inl (g.2.1 0, 25, .inl (uG u))), (p4, .inl (g.2.1 0, 25, .inl (uF u))), (p5, .inl (g.2.1 0, 25, .inl (uE u)))] _ := hP
    have hD : va_D (va_Ad [(p0, .inr (1, [.ref p1, .int (nI len), .ref p2, .ref p3, .ref p4, .ref p5, .int (nI ((uNs u))), .int (nI ((uPl u))), .int (nI ((uDg u))), .int (uTg u), .int (uSn u), .int (uFi u), .int (uSe u)])), (p1, .inl (g.2.1 0, 100, .inl tx)), (p2, .inl (g.2.1 0, 25, .inl (uT u))), (p3, .inl (g.2.1 0, 25, .inl (uG u))), (p4, .inl (g.2.1 0, 25, .inl (uF u))), (p5, .inl (g.2.1 0, 25, .inl (uE u)))]) [(p0, .inr (1, [.ref p1, .int (nI len), .ref p2, .ref p3, .ref p4, .ref p5, .int (nI ((uNs u))), .int (nI 3), .int (nI 0), .int (uTg u), .int 61, .int 0, .int 0])), (p1, .inl (g.2.1 0, 100, .inl tx)), (p2, .inl (g.2.1 0, 25, .inl (uT u))), (p3, .inl (g.2.1 0, 25, .inl (uG u))), (p4, .inl (g.2.1 0, 25, .inl (uF u))), (p5, .inl (g.2.1 0, 25, .inl (uE u)))] := hD
    refine lv_aload_n hx hb dX1_takeOperand_33 rfl (lv_at hl 0 rfl) ?_
    refine lv_iload_n hx hb dX1_takeOperand_34 rfl (lv_at hl 1 rfl) ?_
    refine kUi (fun _ => [(p0, .inr (1, [.ref p1, .int (nI len), .ref p2, .ref p3, .ref p4, .ref p5, .int (nI ((uNs ((pTD (3, 0, uTg u, 61, 0, 0, uNs u, uT u, uG u, uF u, uE u) v).1)))), .int (nI ((uPl ((pTD (3, 0, uTg u, 61, 0, 0, uNs u, uT u, uG u, uF u, uE u) v).1)))), .int (nI ((uDg ((pTD (3, 0, uTg u, 61, 0, 0, uNs u, uT u, uG u, uF u, uE u) v).1)))), .int (uTg ((pTD (3, 0, uTg u, 61, 0, 0, uNs u, uT u, uG u, uF u, uE u) v).1)), .int (uSn ((pTD (3, 0, uTg u, 61, 0, 0, uNs u, uT u, uG u, uF u, uE u) v).1)), .int (uFi ((pTD (3, 0, uTg u, 61, 0, 0, uNs u, uT u, uG u, uF u, uE u) v).1)), .int (uSe ((pTD (3, 0, uTg u, 61, 0, 0, uNs u, uT u, uG u, uF u, uE u) v).1))])), (p1, .inl (g.2.1 0, 100, .inl tx)), (p2, .inl (g.2.1 0, 25, .inl (uT ((pTD (3, 0, uTg u, 61, 0, 0, uNs u, uT u, uG u, uF u, uE u) v).1)))), (p3, .inl (g.2.1 0, 25, .inl (uG ((pTD (3, 0, uTg u, 61, 0, 0, uNs u, uT u, uG u, uF u, uE u) v).1)))), (p4, .inl (g.2.1 0, 25, .inl (uF ((pTD (3, 0, uTg u, 61, 0, 0, uNs u, uT u, uG u, uF u, uE u) v).1)))), (p5, .inl (g.2.1 0, 25, .inl (uE ((pTD (3, 0, uTg u, 61, 0, 0, uNs u, uT u, uG u, uF u, uE u) v).1))))]) (va_runV (As := [.int v]) (rest := []) ⟨hx, hb, hml, hown, hts⟩ (c_X1_takeDigit l g p0 p1 p2 p3 p4 p5 len tx (3, 0, uTg u, 61, 0, 0, uNs u, uT u, uG u, uF u, uE u) v (by first | assumption | omega | exact Nat.le_of_ble_eq_true rfl)) (cwV 1 hts gX1_takeOperand_X1_takeDigit rfl rfl rfl (by decide +kernel) ⟨(Nat.le_of_ble_eq_true rfl), (Nat.le_of_ble_eq_true rfl)⟩) (preVd (RX1, TX1, 13) hE hP hD [0, 1, 2, 3, 4, 5] (by decide) rfl rfl) rfl rfl hl.1 rfl (lv_room (Nat.le_of_ble_eq_true rfl)) dX1_takeOperand_35 ⟨(Nat.le_of_ble_eq_true rfl), (Nat.le_of_ble_eq_true rfl)⟩) hP hD hS [0, 1, 2, 3, 4, 5] [] 6 [p0, p1, p2, p3, p4, p5] [] rfl rfl rfl (fun _ => rfl) (fun _ => rfl) (fun _ => rfl) rfl (by decide) (fun r9 _ H locs hr9 hP hD hS => ?_)
    subst hr9
    have e9 : pTO u v = pTD (3, 0, uTg u, 61, 0, 0, uNs u, uT u, uG u, uF u, uE u) v := if_pos b4
    subst hQ
    have hP9 : va_P g.1 vwCl [(p0, .inr (1, [.ref p1, .int (nI len), .ref p2, .ref p3, .ref p4, .ref p5, .int (nI ((uNs ((pTO u v).1)))), .int (nI ((uPl ((pTO u v).1)))), .int (nI ((uDg ((pTO u v).1)))), .int (uTg ((pTO u v).1)), .int (uSn ((pTO u v).1)), .int (uFi ((pTO u v).1)), .int (uSe ((pTO u v).1))])), (p1, .inl (g.2.1 0, 100, .inl tx)), (p2, .inl (g.2.1 0, 25, .inl (uT ((pTO u v).1)))), (p3, .inl (g.2.1 0, 25, .inl (uG ((pTO u v).1)))), (p4, .inl (g.2.1 0, 25, .inl (uF ((pTO u v).1)))), (p5, .inl (g.2.1 0, 25, .inl (uE ((pTO u v).1))))] H := by rw [e9]; exact hP
    exact W.zret (v := (if (pTD (3, 0, uTg u, 61, 0, 0, uNs u, uT u, uG u, uF u, uE u) v).2 = true then (1 : Int32) else 0)) hx hb hr bz_n (fun t ht hW => ⟨⟨(if (pTD (3, 0, uTg u, 61, 0, 0, uNs u, uT u, uG u, uF u, uE u) v).2 = true then (1 : Int32) else 0), (), rfl, by rw [e9], by show va_P g.1 vwCl _ t.heap; rw [ht]; exact hP9⟩, hS.F ht⟩) hS.2.2 dX1_takeOperand_38
theorem in_X1_take_X1 : ∀ w ∈ wsX10, w ∈ wsX1_take := by decide +kernel
abbrev rm_X1_take : Room := { frames := 2, cells := 0, slots := 0, locals := 42 }
set_option maxRecDepth 100000 in
set_option maxHeartbeats 4000000 in
theorem c_X1_take (l : Launch) (g : GT) (p0 : Nat) (p1 : Nat) (p2 : Nat) (p3 : Nat) (p4 : Nat) (p5 : Nat) (len : Nat) (tx : Nat → Int32) (u : PSt) (v : Int32) (hpl : uPl u ≤ 6) (hns : uNs u ≤ 25) : cUi l g yX1_take wsX1_take rm_X1_take [.ref p0, .int v] [(p0, .inr (1, [.ref p1, .int (nI len), .ref p2, .ref p3, .ref p4, .ref p5, .int (nI ((uNs u))), .int (nI ((uPl u))), .int (nI ((uDg u))), .int (uTg u), .int (uSn u), .int (uFi u), .int (uSe u)])), (p1, .inl (g.2.1 0, 100, .inl tx)), (p2, .inl (g.2.1 0, 25, .inl (uT u))), (p3, .inl (g.2.1 0, 25, .inl (uG u))), (p4, .inl (g.2.1 0, 25, .inl (uF u))), (p5, .inl (g.2.1 0, 25, .inl (uE u)))] (fun r (_ : Unit) => r = (if (pT u v).2 = true then (1 : Int32) else 0)) (fun _ => [(p0, .inr (1, [.ref p1, .int (nI len), .ref p2, .ref p3, .ref p4, .ref p5, .int (nI ((uNs ((pT u v).1)))), .int (nI ((uPl ((pT u v).1)))), .int (nI ((uDg ((pT u v).1)))), .int (uTg ((pT u v).1)), .int (uSn ((pT u v).1)), .int (uFi ((pT u v).1)), .int (uSe ((pT u v).1))])), (p1, .inl (g.2.1 0, 100, .inl tx)), (p2, .inl (g.2.1 0, 25, .inl (uT ((pT u v).1)))), (p3, .inl (g.2.1 0, 25, .inl (uG ((pT u v).1)))), (p4, .inl (g.2.1 0, 25, .inl (uF ((pT u v).1)))), (p5, .inl (g.2.1 0, 25, .inl (uE ((pT u v).1))))]) := by
  refine enU (y := yX1_take) (ws := wsX1_take) (av := [.ref p0, .int v]) (cc := cX1_take) (maxL := 2) (ret := (some .boolean)) (by decide) rfl (Nat.le_of_ble_eq_true rfl) rfl ?_
  intro p e s m below meth c ls hx hb hr hml hown hts hlocks hE hP hD hl
  have hK := hE.1
  have hS : va_S (va_Ad [(p0, .inr (1, [.ref p1, .int (nI len), .ref p2, .ref p3, .ref p4, .ref p5, .int (nI ((uNs u))), .int (nI ((uPl u))), .int (nI ((uDg u))), .int (uTg u), .int (uSn u), .int (uFi u), .int (uSe u)])), (p1, .inl (g.2.1 0, 100, .inl tx)), (p2, .inl (g.2.1 0, 25, .inl (uT u))), (p3, .inl (g.2.1 0, 25, .inl (uG u))), (p4, .inl (g.2.1 0, 25, .inl (uF u))), (p5, .inl (g.2.1 0, 25, .inl (uE u)))]) s.heap s.heap [] := va_S.rf
  generalize hQ : MQ below _ _ s _ _ _ = Q9
  have hl : lv_has ls 2 [(0, .ref p0), (1, .int v)] := hl
  refine lv_aload_n hx hb dX1_take_0 rfl (lv_at hl 0 rfl) ?_
  refine va_get (D := g.1) (ci := 1) (v := .int (nI ((uPl u)))) (C := RX1) (T := TX1) (N := 13) hx hb hts in_X1_take_X1 hown hK hP 0 rfl rfl 7 (by decide) (hts _ (List.mem_of_getElem? (i := 1) rfl)) (fun _ h9 => h9) rfl dX1_take_1 ?_
  rcases (show (uPl u) = 0 ∨ (uPl u) = 1 ∨ (uPl u) = 2 ∨ (uPl u) = 3 ∨ (uPl u) = 4 ∨ (uPl u) = 5 ∨ (uPl u) = 6 by omega) with k4 | k4 | k4 | k4 | k4 | k4 | k4
  · refine lv_tope (y := 0) (by rw [k4]; rfl) ?_
    refine lv_tableIn (tgt := 44) (off := 40) hx hb dX1_take_4 (by decide) (by decide) rfl (by decide) ?_
    refine lv_aload_n hx hb dX1_take_44 rfl (lv_at hl 0 rfl) ?_
    refine lv_iload_n hx hb dX1_take_45 rfl (lv_at hl 1 rfl) ?_
    refine lv_bipush (v := 97) hx hb dX1_take_46 (by decide) ?_
    refine lv_isub hx hb dX1_take_48 ?_
    refine va_put (D := g.1) (ci := 1) (v := .int (v - 97)) (ty := .int) (C := RX1) (T := TX1) (N := 13) hx hb hts in_X1_take_X1 tyX1 tyX1_ok nmX1 hown hK hP hD hS 0 rfl rfl 9 (by decide) (hts _ (List.mem_of_getElem? (i := 2) rfl)) (fun _ h9 => h9) rfl (by decide +kernel) rfl rfl (Nat.le_of_ble_eq_true rfl) dX1_take_49 (fun H locs hP hD hS => ?_)
    have hP : va_P g.1 vwCl [(p0, .inr (1, [.ref p1, .int (nI len), .ref p2, .ref p3, .ref p4, .ref p5, .int (nI ((uNs u))), .int (nI ((uPl u))), .int (nI ((uDg u))), .int (v - 97), .int (uSn u), .int (uFi u), .int (uSe u)])), (p1, .inl (g.2.1 0, 100, .inl tx)), (p2, .inl (g.2.1 0, 25, .inl (uT u))), (p3, .inl (g.2.1 0, 25, .inl (uG u))), (p4, .inl (g.2.1 0, 25, .inl (uF u))), (p5, .inl (g.2.1 0, 25, .inl (uE u)))] _ := hP
    have hD : va_D (va_Ad [(p0, .inr (1, [.ref p1, .int (nI len), .ref p2, .ref p3, .ref p4, .ref p5, .int (nI ((uNs u))), .int (nI ((uPl u))), .int (nI ((uDg u))), .int (uTg u), .int (uSn u), .int (uFi u), .int (uSe u)])), (p1, .inl (g.2.1 0, 100, .inl tx)), (p2, .inl (g.2.1 0, 25, .inl (uT u))), (p3, .inl (g.2.1 0, 25, .inl (uG u))), (p4, .inl (g.2.1 0, 25, .inl (uF u))), (p5, .inl (g.2.1 0, 25, .inl (uE u)))]) [(p0, .inr (1, [.ref p1, .int (nI len), .ref p2, .ref p3, .ref p4, .ref p5, .int (nI ((uNs u))), .int (nI ((uPl u))), .int (nI ((uDg u))), .int (v - 97), .int (uSn u), .int (uFi u), .int (uSe u)])), (p1, .inl (g.2.1 0, 100, .inl tx)), (p2, .inl (g.2.1 0, 25, .inl (uT u))), (p3, .inl (g.2.1 0, 25, .inl (uG u))), (p4, .inl (g.2.1 0, 25, .inl (uF u))), (p5, .inl (g.2.1 0, 25, .inl (uE u)))] := hD
    refine lv_aload_n hx hb dX1_take_52 rfl (lv_at hl 0 rfl) ?_
    refine lv_iconst (v := 1) hx hb dX1_take_53 (by decide) ?_
    refine lv_tope (y := (nI 1)) rfl ?_
    refine va_put (D := g.1) (ci := 1) (v := .int (nI 1)) (ty := .int) (C := RX1) (T := TX1) (N := 13) hx hb hts in_X1_take_X1 tyX1 tyX1_ok nmX1 hown hK hP hD hS 0 rfl rfl 7 (by decide) (hts _ (List.mem_of_getElem? (i := 1) rfl)) (fun _ h9 => h9) rfl (by decide +kernel) rfl rfl (Nat.le_of_ble_eq_true rfl) dX1_take_54 (fun H locs hP hD hS => ?_)
    have hP : va_P g.1 vwCl [(p0, .inr (1, [.ref p1, .int (nI len), .ref p2, .ref p3, .ref p4, .ref p5, .int (nI ((uNs u))), .int (nI 1), .int (nI ((uDg u))), .int (v - 97), .int (uSn u), .int (uFi u), .int (uSe u)])), (p1, .inl (g.2.1 0, 100, .inl tx)), (p2, .inl (g.2.1 0, 25, .inl (uT u))), (p3, .inl (g.2.1 0, 25, .inl (uG u))), (p4, .inl (g.2.1 0, 25, .inl (uF u))), (p5, .inl (g.2.1 0, 25, .inl (uE u)))] _ := hP
    have hD : va_D (va_Ad [(p0, .inr (1, [.ref p1, .int (nI len), .ref p2, .ref p3, .ref p4, .ref p5, .int (nI ((uNs u))), .int (nI ((uPl u))), .int (nI ((uDg u))), .int (uTg u), .int (uSn u), .int (uFi u), .int (uSe u)])), (p1, .inl (g.2.1 0, 100, .inl tx)), (p2, .inl (g.2.1 0, 25, .inl (uT u))), (p3, .inl (g.2.1 0, 25, .inl (uG u))), (p4, .inl (g.2.1 0, 25, .inl (uF u))), (p5, .inl (g.2.1 0, 25, .inl (uE u)))]) [(p0, .inr (1, [.ref p1, .int (nI len), .ref p2, .ref p3, .ref p4, .ref p5, .int (nI ((uNs u))), .int (nI 1), .int (nI ((uDg u))), .int (v - 97), .int (uSn u), .int (uFi u), .int (uSe u)])), (p1, .inl (g.2.1 0, 100, .inl tx)), (p2, .inl (g.2.1 0, 25, .inl (uT u))), (p3, .inl (g.2.1 0, 25, .inl (uG u))), (p4, .inl (g.2.1 0, 25, .inl (uF u))), (p5, .inl (g.2.1 0, 25, .inl (uE u)))] := hD
    refine lv_iload_n hx hb dX1_take_57 rfl (lv_at hl 1 rfl) ?_
    refine kRi (va_runS (As := [.int v]) (rest := []) ⟨hx, hb, hml, hown, hts⟩ (c_X1_isLetter l g v) (va_cwS 1 hts gX1_take_X1_isLetter rfl rfl rfl (by decide +kernel) ⟨(Nat.le_of_ble_eq_true rfl), (Nat.le_of_ble_eq_true rfl)⟩) (preS hE hP [] rfl) rfl rfl hl.1 rfl (lv_room (Nat.le_of_ble_eq_true rfl)) dX1_take_58 ⟨(Nat.le_of_ble_eq_true rfl), (Nat.le_of_ble_eq_true rfl)⟩) hP hS (fun r9 H locs hr9 hP hS => ?_)
    subst hr9
    have e9 : pT u v = ((1, uDg u, v - 97, uSn u, uFi u, uSe u, uNs u, uT u, uG u, uF u, uE u), decide (isL v)) := by rw [pT, if_pos k4]
    subst hQ
    have hP9 : va_P g.1 vwCl [(p0, .inr (1, [.ref p1, .int (nI len), .ref p2, .ref p3, .ref p4, .ref p5, .int (nI ((uNs ((pT u v).1)))), .int (nI ((uPl ((pT u v).1)))), .int (nI ((uDg ((pT u v).1)))), .int (uTg ((pT u v).1)), .int (uSn ((pT u v).1)), .int (uFi ((pT u v).1)), .int (uSe ((pT u v).1))])), (p1, .inl (g.2.1 0, 100, .inl tx)), (p2, .inl (g.2.1 0, 25, .inl (uT ((pT u v).1)))), (p3, .inl (g.2.1 0, 25, .inl (uG ((pT u v).1)))), (p4, .inl (g.2.1 0, 25, .inl (uF ((pT u v).1)))), (p5, .inl (g.2.1 0, 25, .inl (uE ((pT u v).1))))] H := by rw [e9]; exact hP
    exact W.zret (v := (if isL v then (1 : Int32) else 0)) hx hb hr bz_n (fun t ht hW => ⟨⟨(if isL v then (1 : Int32) else 0), (), rfl, by rw [e9]; exact bz_d, by show va_P g.1 vwCl _ t.heap; rw [ht]; exact hP9⟩, hS.F ht⟩) hS.2.2 dX1_take_61
  · refine lv_tope (y := 1) (by rw [k4]; rfl) ?_
    refine lv_tableIn (tgt := 62) (off := 58) hx hb dX1_take_4 (by decide) (by decide) rfl (by decide) ?_
    refine lv_aload_n hx hb dX1_take_62 rfl (lv_at hl 0 rfl) ?_
    refine lv_iconst (v := 2) hx hb dX1_take_63 (by decide) ?_
    refine lv_tope (y := (nI 2)) rfl ?_
    refine va_put (D := g.1) (ci := 1) (v := .int (nI 2)) (ty := .int) (C := RX1) (T := TX1) (N := 13) hx hb hts in_X1_take_X1 tyX1 tyX1_ok nmX1 hown hK hP hD hS 0 rfl rfl 7 (by decide) (hts _ (List.mem_of_getElem? (i := 1) rfl)) (fun _ h9 => h9) rfl (by decide +kernel) rfl rfl (Nat.le_of_ble_eq_true rfl) dX1_take_64 (fun H locs hP hD hS => ?_)
    have hP : va_P g.1 vwCl [(p0, .inr (1, [.ref p1, .int (nI len), .ref p2, .ref p3, .ref p4, .ref p5, .int (nI ((uNs u))), .int (nI 2), .int (nI ((uDg u))), .int (uTg u), .int (uSn u), .int (uFi u), .int (uSe u)])), (p1, .inl (g.2.1 0, 100, .inl tx)), (p2, .inl (g.2.1 0, 25, .inl (uT u))), (p3, .inl (g.2.1 0, 25, .inl (uG u))), (p4, .inl (g.2.1 0, 25, .inl (uF u))), (p5, .inl (g.2.1 0, 25, .inl (uE u)))] _ := hP
    have hD : va_D (va_Ad [(p0, .inr (1, [.ref p1, .int (nI len), .ref p2, .ref p3, .ref p4, .ref p5, .int (nI ((uNs u))), .int (nI ((uPl u))), .int (nI ((uDg u))), .int (uTg u), .int (uSn u), .int (uFi u), .int (uSe u)])), (p1, .inl (g.2.1 0, 100, .inl tx)), (p2, .inl (g.2.1 0, 25, .inl (uT u))), (p3, .inl (g.2.1 0, 25, .inl (uG u))), (p4, .inl (g.2.1 0, 25, .inl (uF u))), (p5, .inl (g.2.1 0, 25, .inl (uE u)))]) [(p0, .inr (1, [.ref p1, .int (nI len), .ref p2, .ref p3, .ref p4, .ref p5, .int (nI ((uNs u))), .int (nI 2), .int (nI ((uDg u))), .int (uTg u), .int (uSn u), .int (uFi u), .int (uSe u)])), (p1, .inl (g.2.1 0, 100, .inl tx)), (p2, .inl (g.2.1 0, 25, .inl (uT u))), (p3, .inl (g.2.1 0, 25, .inl (uG u))), (p4, .inl (g.2.1 0, 25, .inl (uF u))), (p5, .inl (g.2.1 0, 25, .inl (uE u)))] := hD
    refine lv_iload_n hx hb dX1_take_67 rfl (lv_at hl 1 rfl) ?_
    refine lv_bipush (v := 61) hx hb dX1_take_68 (by decide) ?_
    refine lv_icmp_ne (tgt := 77) hx hb dX1_take_70 (by decide) (fun c70 => ?_) (fun c70 => ?_)
    · refine lv_iconst (v := 0) hx hb dX1_take_77 (by decide) ?_
      have e9 : pT u v = ((2, uDg u, uTg u, uSn u, uFi u, uSe u, uNs u, uT u, uG u, uF u, uE u), decide (v = 61)) := by rw [pT, k4]; rfl
      subst hQ
      have hP9 : va_P g.1 vwCl [(p0, .inr (1, [.ref p1, .int (nI len), .ref p2, .ref p3, .ref p4, .ref p5, .int (nI ((uNs ((pT u v).1)))), .int (nI ((uPl ((pT u v).1)))), .int (nI ((uDg ((pT u v).1)))), .int (uTg ((pT u v).1)), .int (uSn ((pT u v).1)), .int (uFi ((pT u v).1)), .int (uSe ((pT u v).1))])), (p1, .inl (g.2.1 0, 100, .inl tx)), (p2, .inl (g.2.1 0, 25, .inl (uT ((pT u v).1)))), (p3, .inl (g.2.1 0, 25, .inl (uG ((pT u v).1)))), (p4, .inl (g.2.1 0, 25, .inl (uF ((pT u v).1)))), (p5, .inl (g.2.1 0, 25, .inl (uE ((pT u v).1))))] H := by rw [e9]; exact hP
      exact W.zret (v := 0) hx hb hr rfl (fun t ht hW => ⟨⟨0, (), rfl, by rw [e9]; first | exact (if_pos (decide_eq_true c70)).symm | exact (if_neg (fun h => c70 (of_decide_eq_true h))).symm, by show va_P g.1 vwCl _ t.heap; rw [ht]; exact hP9⟩, hS.F ht⟩) hS.2.2 dX1_take_78
    · refine lv_iconst (v := 1) hx hb dX1_take_73 (by decide) ?_
      refine lv_goto (tgt := 78) hx hb dX1_take_74 (by decide) ?_
      have e9 : pT u v = ((2, uDg u, uTg u, uSn u, uFi u, uSe u, uNs u, uT u, uG u, uF u, uE u), decide (v = 61)) := by rw [pT, k4]; rfl
      subst hQ
      have hP9 : va_P g.1 vwCl [(p0, .inr (1, [.ref p1, .int (nI len), .ref p2, .ref p3, .ref p4, .ref p5, .int (nI ((uNs ((pT u v).1)))), .int (nI ((uPl ((pT u v).1)))), .int (nI ((uDg ((pT u v).1)))), .int (uTg ((pT u v).1)), .int (uSn ((pT u v).1)), .int (uFi ((pT u v).1)), .int (uSe ((pT u v).1))])), (p1, .inl (g.2.1 0, 100, .inl tx)), (p2, .inl (g.2.1 0, 25, .inl (uT ((pT u v).1)))), (p3, .inl (g.2.1 0, 25, .inl (uG ((pT u v).1)))), (p4, .inl (g.2.1 0, 25, .inl (uF ((pT u v).1)))), (p5, .inl (g.2.1 0, 25, .inl (uE ((pT u v).1))))] H := by rw [e9]; exact hP
      exact W.zret (v := 1) hx hb hr rfl (fun t ht hW => ⟨⟨1, (), rfl, by rw [e9]; first | exact (if_pos (decide_eq_true c70)).symm | exact (if_neg (fun h => c70 (of_decide_eq_true h))).symm, by show va_P g.1 vwCl _ t.heap; rw [ht]; exact hP9⟩, hS.F ht⟩) hS.2.2 dX1_take_78
  · refine lv_tope (y := 2) (by rw [k4]; rfl) ?_
    refine lv_tableIn (tgt := 79) (off := 75) hx hb dX1_take_4 (by decide) (by decide) rfl (by decide) ?_
    refine lv_aload_n hx hb dX1_take_79 rfl (lv_at hl 0 rfl) ?_
    refine lv_iload_n hx hb dX1_take_80 rfl (lv_at hl 1 rfl) ?_
    refine kUi (fun _ => [(p0, .inr (1, [.ref p1, .int (nI len), .ref p2, .ref p3, .ref p4, .ref p5, .int (nI ((uNs ((pTO u v).1)))), .int (nI ((uPl ((pTO u v).1)))), .int (nI ((uDg ((pTO u v).1)))), .int (uTg ((pTO u v).1)), .int (uSn ((pTO u v).1)), .int (uFi ((pTO u v).1)), .int (uSe ((pTO u v).1))])), (p1, .inl (g.2.1 0, 100, .inl tx)), (p2, .inl (g.2.1 0, 25, .inl (uT ((pTO u v).1)))), (p3, .inl (g.2.1 0, 25, .inl (uG ((pTO u v).1)))), (p4, .inl (g.2.1 0, 25, .inl (uF ((pTO u v).1)))), (p5, .inl (g.2.1 0, 25, .inl (uE ((pTO u v).1))))]) (va_runV (As := [.int v]) (rest := []) ⟨hx, hb, hml, hown, hts⟩ (c_X1_takeOperand l g p0 p1 p2 p3 p4 p5 len tx u v) (cwV 1 hts gX1_take_X1_takeOperand rfl rfl rfl (by decide +kernel) ⟨(Nat.le_of_ble_eq_true rfl), (Nat.le_of_ble_eq_true rfl)⟩) (preVd (RX1, TX1, 13) hE hP hD [0, 1, 2, 3, 4, 5] (by decide) rfl rfl) rfl rfl hl.1 rfl (lv_room (Nat.le_of_ble_eq_true rfl)) dX1_take_81 ⟨(Nat.le_of_ble_eq_true rfl), (Nat.le_of_ble_eq_true rfl)⟩) hP hD hS [0, 1, 2, 3, 4, 5] [] 6 [p0, p1, p2, p3, p4, p5] [] rfl rfl rfl (fun _ => rfl) (fun _ => rfl) (fun _ => rfl) rfl (by decide) (fun r9 _ H locs hr9 hP hD hS => ?_)
    subst hr9
    have e9 : pT u v = pTO u v := by rw [pT, k4]; rfl
    subst hQ
    have hP9 : va_P g.1 vwCl [(p0, .inr (1, [.ref p1, .int (nI len), .ref p2, .ref p3, .ref p4, .ref p5, .int (nI ((uNs ((pT u v).1)))), .int (nI ((uPl ((pT u v).1)))), .int (nI ((uDg ((pT u v).1)))), .int (uTg ((pT u v).1)), .int (uSn ((pT u v).1)), .int (uFi ((pT u v).1)), .int (uSe ((pT u v).1))])), (p1, .inl (g.2.1 0, 100, .inl tx)), (p2, .inl (g.2.1 0, 25, .inl (uT ((pT u v).1)))), (p3, .inl (g.2.1 0, 25, .inl (uG ((pT u v).1)))), (p4, .inl (g.2.1 0, 25, .inl (uF ((pT u v).1)))), (p5, .inl (g.2.1 0, 25, .inl (uE ((pT u v).1))))] H := by rw [e9]; exact hP
    exact W.zret (v := (if (pTO u v).2 = true then (1 : Int32) else 0)) hx hb hr bz_n (fun t ht hW => ⟨⟨(if (pTO u v).2 = true then (1 : Int32) else 0), (), rfl, by rw [e9], by show va_P g.1 vwCl _ t.heap; rw [ht]; exact hP9⟩, hS.F ht⟩) hS.2.2 dX1_take_84
  · refine lv_tope (y := 3) (by rw [k4]; rfl) ?_
    refine lv_tableIn (tgt := 119) (off := 115) hx hb dX1_take_4 (by decide) (by decide) rfl (by decide) ?_
    refine lv_aload_n hx hb dX1_take_119 rfl (lv_at hl 0 rfl) ?_
    refine lv_iload_n hx hb dX1_take_120 rfl (lv_at hl 1 rfl) ?_
    refine kUi (fun _ => [(p0, .inr (1, [.ref p1, .int (nI len), .ref p2, .ref p3, .ref p4, .ref p5, .int (nI ((uNs ((pTS u v).1)))), .int (nI ((uPl ((pTS u v).1)))), .int (nI ((uDg ((pTS u v).1)))), .int (uTg ((pTS u v).1)), .int (uSn ((pTS u v).1)), .int (uFi ((pTS u v).1)), .int (uSe ((pTS u v).1))])), (p1, .inl (g.2.1 0, 100, .inl tx)), (p2, .inl (g.2.1 0, 25, .inl (uT ((pTS u v).1)))), (p3, .inl (g.2.1 0, 25, .inl (uG ((pTS u v).1)))), (p4, .inl (g.2.1 0, 25, .inl (uF ((pTS u v).1)))), (p5, .inl (g.2.1 0, 25, .inl (uE ((pTS u v).1))))]) (va_runV (As := [.int v]) (rest := []) ⟨hx, hb, hml, hown, hts⟩ (c_X1_takeSemicolon l g p0 p1 p2 p3 p4 p5 len tx u v (by first | assumption | omega | exact Nat.le_of_ble_eq_true rfl)) (cwV 1 hts gX1_take_X1_takeSemicolon rfl rfl rfl (by decide +kernel) ⟨(Nat.le_of_ble_eq_true rfl), (Nat.le_of_ble_eq_true rfl)⟩) (preVd (RX1, TX1, 13) hE hP hD [0, 1, 2, 3, 4, 5] (by decide) rfl rfl) rfl rfl hl.1 rfl (lv_room (Nat.le_of_ble_eq_true rfl)) dX1_take_121 ⟨(Nat.le_of_ble_eq_true rfl), (Nat.le_of_ble_eq_true rfl)⟩) hP hD hS [0, 1, 2, 3, 4, 5] [] 6 [p0, p1, p2, p3, p4, p5] [] rfl rfl rfl (fun _ => rfl) (fun _ => rfl) (fun _ => rfl) rfl (by decide) (fun r9 _ H locs hr9 hP hD hS => ?_)
    subst hr9
    have e9 : pT u v = pTS u v := by rw [pT, k4]; rfl
    subst hQ
    have hP9 : va_P g.1 vwCl [(p0, .inr (1, [.ref p1, .int (nI len), .ref p2, .ref p3, .ref p4, .ref p5, .int (nI ((uNs ((pT u v).1)))), .int (nI ((uPl ((pT u v).1)))), .int (nI ((uDg ((pT u v).1)))), .int (uTg ((pT u v).1)), .int (uSn ((pT u v).1)), .int (uFi ((pT u v).1)), .int (uSe ((pT u v).1))])), (p1, .inl (g.2.1 0, 100, .inl tx)), (p2, .inl (g.2.1 0, 25, .inl (uT ((pT u v).1)))), (p3, .inl (g.2.1 0, 25, .inl (uG ((pT u v).1)))), (p4, .inl (g.2.1 0, 25, .inl (uF ((pT u v).1)))), (p5, .inl (g.2.1 0, 25, .inl (uE ((pT u v).1))))] H := by rw [e9]; exact hP
    exact W.zret (v := (if (pTS u v).2 = true then (1 : Int32) else 0)) hx hb hr bz_n (fun t ht hW => ⟨⟨(if (pTS u v).2 = true then (1 : Int32) else 0), (), rfl, by rw [e9], by show va_P g.1 vwCl _ t.heap; rw [ht]; exact hP9⟩, hS.F ht⟩) hS.2.2 dX1_take_124
  · refine lv_tope (y := 4) (by rw [k4]; rfl) ?_
    refine lv_tableIn (tgt := 85) (off := 81) hx hb dX1_take_4 (by decide) (by decide) rfl (by decide) ?_
    refine lv_aload_n hx hb dX1_take_85 rfl (lv_at hl 0 rfl) ?_
    refine lv_iload_n hx hb dX1_take_86 rfl (lv_at hl 1 rfl) ?_
    refine va_put (D := g.1) (ci := 1) (v := .int v) (ty := .int) (C := RX1) (T := TX1) (N := 13) hx hb hts in_X1_take_X1 tyX1 tyX1_ok nmX1 hown hK hP hD hS 0 rfl rfl 10 (by decide) (hts _ (List.mem_of_getElem? (i := 3) rfl)) (fun _ h9 => h9) rfl (by decide +kernel) rfl rfl (Nat.le_of_ble_eq_true rfl) dX1_take_87 (fun H locs hP hD hS => ?_)
    have hP : va_P g.1 vwCl [(p0, .inr (1, [.ref p1, .int (nI len), .ref p2, .ref p3, .ref p4, .ref p5, .int (nI ((uNs u))), .int (nI ((uPl u))), .int (nI ((uDg u))), .int (uTg u), .int v, .int (uFi u), .int (uSe u)])), (p1, .inl (g.2.1 0, 100, .inl tx)), (p2, .inl (g.2.1 0, 25, .inl (uT u))), (p3, .inl (g.2.1 0, 25, .inl (uG u))), (p4, .inl (g.2.1 0, 25, .inl (uF u))), (p5, .inl (g.2.1 0, 25, .inl (uE u)))] _ := hP
    have hD : va_D (va_Ad [(p0, .inr (1, [.ref p1, .int (nI len), .ref p2, .ref p3, .ref p4, .ref p5, .int (nI ((uNs u))), .int (nI ((uPl u))), .int (nI ((uDg u))), .int (uTg u), .int (uSn u), .int (uFi u), .int (uSe u)])), (p1, .inl (g.2.1 0, 100, .inl tx)), (p2, .inl (g.2.1 0, 25, .inl (uT u))), (p3, .inl (g.2.1 0, 25, .inl (uG u))), (p4, .inl (g.2.1 0, 25, .inl (uF u))), (p5, .inl (g.2.1 0, 25, .inl (uE u)))]) [(p0, .inr (1, [.ref p1, .int (nI len), .ref p2, .ref p3, .ref p4, .ref p5, .int (nI ((uNs u))), .int (nI ((uPl u))), .int (nI ((uDg u))), .int (uTg u), .int v, .int (uFi u), .int (uSe u)])), (p1, .inl (g.2.1 0, 100, .inl tx)), (p2, .inl (g.2.1 0, 25, .inl (uT u))), (p3, .inl (g.2.1 0, 25, .inl (uG u))), (p4, .inl (g.2.1 0, 25, .inl (uF u))), (p5, .inl (g.2.1 0, 25, .inl (uE u)))] := hD
    refine lv_aload_n hx hb dX1_take_90 rfl (lv_at hl 0 rfl) ?_
    refine lv_iconst (v := 5) hx hb dX1_take_91 (by decide) ?_
    refine lv_tope (y := (nI 5)) rfl ?_
    refine va_put (D := g.1) (ci := 1) (v := .int (nI 5)) (ty := .int) (C := RX1) (T := TX1) (N := 13) hx hb hts in_X1_take_X1 tyX1 tyX1_ok nmX1 hown hK hP hD hS 0 rfl rfl 7 (by decide) (hts _ (List.mem_of_getElem? (i := 1) rfl)) (fun _ h9 => h9) rfl (by decide +kernel) rfl rfl (Nat.le_of_ble_eq_true rfl) dX1_take_92 (fun H locs hP hD hS => ?_)
    have hP : va_P g.1 vwCl [(p0, .inr (1, [.ref p1, .int (nI len), .ref p2, .ref p3, .ref p4, .ref p5, .int (nI ((uNs u))), .int (nI 5), .int (nI ((uDg u))), .int (uTg u), .int v, .int (uFi u), .int (uSe u)])), (p1, .inl (g.2.1 0, 100, .inl tx)), (p2, .inl (g.2.1 0, 25, .inl (uT u))), (p3, .inl (g.2.1 0, 25, .inl (uG u))), (p4, .inl (g.2.1 0, 25, .inl (uF u))), (p5, .inl (g.2.1 0, 25, .inl (uE u)))] _ := hP
    have hD : va_D (va_Ad [(p0, .inr (1, [.ref p1, .int (nI len), .ref p2, .ref p3, .ref p4, .ref p5, .int (nI ((uNs u))), .int (nI ((uPl u))), .int (nI ((uDg u))), .int (uTg u), .int (uSn u), .int (uFi u), .int (uSe u)])), (p1, .inl (g.2.1 0, 100, .inl tx)), (p2, .inl (g.2.1 0, 25, .inl (uT u))), (p3, .inl (g.2.1 0, 25, .inl (uG u))), (p4, .inl (g.2.1 0, 25, .inl (uF u))), (p5, .inl (g.2.1 0, 25, .inl (uE u)))]) [(p0, .inr (1, [.ref p1, .int (nI len), .ref p2, .ref p3, .ref p4, .ref p5, .int (nI ((uNs u))), .int (nI 5), .int (nI ((uDg u))), .int (uTg u), .int v, .int (uFi u), .int (uSe u)])), (p1, .inl (g.2.1 0, 100, .inl tx)), (p2, .inl (g.2.1 0, 25, .inl (uT u))), (p3, .inl (g.2.1 0, 25, .inl (uG u))), (p4, .inl (g.2.1 0, 25, .inl (uF u))), (p5, .inl (g.2.1 0, 25, .inl (uE u)))] := hD
    refine lv_iload_n hx hb dX1_take_95 rfl (lv_at hl 1 rfl) ?_
    refine kRi (va_runS (As := [.int v]) (rest := []) ⟨hx, hb, hml, hown, hts⟩ (c_X1_isSign l g v) (va_cwS 1 hts gX1_take_X1_isSign rfl rfl rfl (by decide +kernel) ⟨(Nat.le_of_ble_eq_true rfl), (Nat.le_of_ble_eq_true rfl)⟩) (preS hE hP [] rfl) rfl rfl hl.1 rfl (lv_room (Nat.le_of_ble_eq_true rfl)) dX1_take_96 ⟨(Nat.le_of_ble_eq_true rfl), (Nat.le_of_ble_eq_true rfl)⟩) hP hS (fun r9 H locs hr9 hP hS => ?_)
    subst hr9
    have e9 : pT u v = ((5, uDg u, uTg u, v, uFi u, uSe u, uNs u, uT u, uG u, uF u, uE u), decide (isS v)) := by rw [pT, k4]; rfl
    subst hQ
    have hP9 : va_P g.1 vwCl [(p0, .inr (1, [.ref p1, .int (nI len), .ref p2, .ref p3, .ref p4, .ref p5, .int (nI ((uNs ((pT u v).1)))), .int (nI ((uPl ((pT u v).1)))), .int (nI ((uDg ((pT u v).1)))), .int (uTg ((pT u v).1)), .int (uSn ((pT u v).1)), .int (uFi ((pT u v).1)), .int (uSe ((pT u v).1))])), (p1, .inl (g.2.1 0, 100, .inl tx)), (p2, .inl (g.2.1 0, 25, .inl (uT ((pT u v).1)))), (p3, .inl (g.2.1 0, 25, .inl (uG ((pT u v).1)))), (p4, .inl (g.2.1 0, 25, .inl (uF ((pT u v).1)))), (p5, .inl (g.2.1 0, 25, .inl (uE ((pT u v).1))))] H := by rw [e9]; exact hP
    exact W.zret (v := (if isS v then (1 : Int32) else 0)) hx hb hr bz_n (fun t ht hW => ⟨⟨(if isS v then (1 : Int32) else 0), (), rfl, by rw [e9]; exact bz_d, by show va_P g.1 vwCl _ t.heap; rw [ht]; exact hP9⟩, hS.F ht⟩) hS.2.2 dX1_take_99
  · refine lv_tope (y := 5) (by rw [k4]; rfl) ?_
    refine lv_tableIn (tgt := 100) (off := 96) hx hb dX1_take_4 (by decide) (by decide) rfl (by decide) ?_
    refine lv_aload_n hx hb dX1_take_100 rfl (lv_at hl 0 rfl) ?_
    refine lv_iload_n hx hb dX1_take_101 rfl (lv_at hl 1 rfl) ?_
    refine lv_bipush (v := 97) hx hb dX1_take_102 (by decide) ?_
    refine lv_isub hx hb dX1_take_104 ?_
    refine va_put (D := g.1) (ci := 1) (v := .int (v - 97)) (ty := .int) (C := RX1) (T := TX1) (N := 13) hx hb hts in_X1_take_X1 tyX1 tyX1_ok nmX1 hown hK hP hD hS 0 rfl rfl 12 (by decide) (hts _ (List.mem_of_getElem? (i := 4) rfl)) (fun _ h9 => h9) rfl (by decide +kernel) rfl rfl (Nat.le_of_ble_eq_true rfl) dX1_take_105 (fun H locs hP hD hS => ?_)
    have hP : va_P g.1 vwCl [(p0, .inr (1, [.ref p1, .int (nI len), .ref p2, .ref p3, .ref p4, .ref p5, .int (nI ((uNs u))), .int (nI ((uPl u))), .int (nI ((uDg u))), .int (uTg u), .int (uSn u), .int (uFi u), .int (v - 97)])), (p1, .inl (g.2.1 0, 100, .inl tx)), (p2, .inl (g.2.1 0, 25, .inl (uT u))), (p3, .inl (g.2.1 0, 25, .inl (uG u))), (p4, .inl (g.2.1 0, 25, .inl (uF u))), (p5, .inl (g.2.1 0, 25, .inl (uE u)))] _ := hP
    have hD : va_D (va_Ad [(p0, .inr (1, [.ref p1, .int (nI len), .ref p2, .ref p3, .ref p4, .ref p5, .int (nI ((uNs u))), .int (nI ((uPl u))), .int (nI ((uDg u))), .int (uTg u), .int (uSn u), .int (uFi u), .int (uSe u)])), (p1, .inl (g.2.1 0, 100, .inl tx)), (p2, .inl (g.2.1 0, 25, .inl (uT u))), (p3, .inl (g.2.1 0, 25, .inl (uG u))), (p4, .inl (g.2.1 0, 25, .inl (uF u))), (p5, .inl (g.2.1 0, 25, .inl (uE u)))]) [(p0, .inr (1, [.ref p1, .int (nI len), .ref p2, .ref p3, .ref p4, .ref p5, .int (nI ((uNs u))), .int (nI ((uPl u))), .int (nI ((uDg u))), .int (uTg u), .int (uSn u), .int (uFi u), .int (v - 97)])), (p1, .inl (g.2.1 0, 100, .inl tx)), (p2, .inl (g.2.1 0, 25, .inl (uT u))), (p3, .inl (g.2.1 0, 25, .inl (uG u))), (p4, .inl (g.2.1 0, 25, .inl (uF u))), (p5, .inl (g.2.1 0, 25, .inl (uE u)))] := hD
    refine lv_aload_n hx hb dX1_take_108 rfl (lv_at hl 0 rfl) ?_
    refine lv_bipush (v := 6) hx hb dX1_take_109 (by decide) ?_
    refine lv_tope (y := (nI 6)) rfl ?_
    refine va_put (D := g.1) (ci := 1) (v := .int (nI 6)) (ty := .int) (C := RX1) (T := TX1) (N := 13) hx hb hts in_X1_take_X1 tyX1 tyX1_ok nmX1 hown hK hP hD hS 0 rfl rfl 7 (by decide) (hts _ (List.mem_of_getElem? (i := 1) rfl)) (fun _ h9 => h9) rfl (by decide +kernel) rfl rfl (Nat.le_of_ble_eq_true rfl) dX1_take_111 (fun H locs hP hD hS => ?_)
    have hP : va_P g.1 vwCl [(p0, .inr (1, [.ref p1, .int (nI len), .ref p2, .ref p3, .ref p4, .ref p5, .int (nI ((uNs u))), .int (nI 6), .int (nI ((uDg u))), .int (uTg u), .int (uSn u), .int (uFi u), .int (v - 97)])), (p1, .inl (g.2.1 0, 100, .inl tx)), (p2, .inl (g.2.1 0, 25, .inl (uT u))), (p3, .inl (g.2.1 0, 25, .inl (uG u))), (p4, .inl (g.2.1 0, 25, .inl (uF u))), (p5, .inl (g.2.1 0, 25, .inl (uE u)))] _ := hP
    have hD : va_D (va_Ad [(p0, .inr (1, [.ref p1, .int (nI len), .ref p2, .ref p3, .ref p4, .ref p5, .int (nI ((uNs u))), .int (nI ((uPl u))), .int (nI ((uDg u))), .int (uTg u), .int (uSn u), .int (uFi u), .int (uSe u)])), (p1, .inl (g.2.1 0, 100, .inl tx)), (p2, .inl (g.2.1 0, 25, .inl (uT u))), (p3, .inl (g.2.1 0, 25, .inl (uG u))), (p4, .inl (g.2.1 0, 25, .inl (uF u))), (p5, .inl (g.2.1 0, 25, .inl (uE u)))]) [(p0, .inr (1, [.ref p1, .int (nI len), .ref p2, .ref p3, .ref p4, .ref p5, .int (nI ((uNs u))), .int (nI 6), .int (nI ((uDg u))), .int (uTg u), .int (uSn u), .int (uFi u), .int (v - 97)])), (p1, .inl (g.2.1 0, 100, .inl tx)), (p2, .inl (g.2.1 0, 25, .inl (uT u))), (p3, .inl (g.2.1 0, 25, .inl (uG u))), (p4, .inl (g.2.1 0, 25, .inl (uF u))), (p5, .inl (g.2.1 0, 25, .inl (uE u)))] := hD
    refine lv_iload_n hx hb dX1_take_114 rfl (lv_at hl 1 rfl) ?_
    refine kRi (va_runS (As := [.int v]) (rest := []) ⟨hx, hb, hml, hown, hts⟩ (c_X1_isLetter l g v) (va_cwS 1 hts gX1_take_X1_isLetter rfl rfl rfl (by decide +kernel) ⟨(Nat.le_of_ble_eq_true rfl), (Nat.le_of_ble_eq_true rfl)⟩) (preS hE hP [] rfl) rfl rfl hl.1 rfl (lv_room (Nat.le_of_ble_eq_true rfl)) dX1_take_115 ⟨(Nat.le_of_ble_eq_true rfl), (Nat.le_of_ble_eq_true rfl)⟩) hP hS (fun r9 H locs hr9 hP hS => ?_)
    subst hr9
    have e9 : pT u v = ((6, uDg u, uTg u, uSn u, uFi u, v - 97, uNs u, uT u, uG u, uF u, uE u), decide (isL v)) := by rw [pT, k4]; rfl
    subst hQ
    have hP9 : va_P g.1 vwCl [(p0, .inr (1, [.ref p1, .int (nI len), .ref p2, .ref p3, .ref p4, .ref p5, .int (nI ((uNs ((pT u v).1)))), .int (nI ((uPl ((pT u v).1)))), .int (nI ((uDg ((pT u v).1)))), .int (uTg ((pT u v).1)), .int (uSn ((pT u v).1)), .int (uFi ((pT u v).1)), .int (uSe ((pT u v).1))])), (p1, .inl (g.2.1 0, 100, .inl tx)), (p2, .inl (g.2.1 0, 25, .inl (uT ((pT u v).1)))), (p3, .inl (g.2.1 0, 25, .inl (uG ((pT u v).1)))), (p4, .inl (g.2.1 0, 25, .inl (uF ((pT u v).1)))), (p5, .inl (g.2.1 0, 25, .inl (uE ((pT u v).1))))] H := by rw [e9]; exact hP
    exact W.zret (v := (if isL v then (1 : Int32) else 0)) hx hb hr bz_n (fun t ht hW => ⟨⟨(if isL v then (1 : Int32) else 0), (), rfl, by rw [e9]; exact bz_d, by show va_P g.1 vwCl _ t.heap; rw [ht]; exact hP9⟩, hS.F ht⟩) hS.2.2 dX1_take_118
  · refine lv_tope (y := 6) (by rw [k4]; rfl) ?_
    refine lv_tableOut (tgt := 119) hx hb dX1_take_4 (by decide) (by decide) ?_
    refine lv_aload_n hx hb dX1_take_119 rfl (lv_at hl 0 rfl) ?_
    refine lv_iload_n hx hb dX1_take_120 rfl (lv_at hl 1 rfl) ?_
    refine kUi (fun _ => [(p0, .inr (1, [.ref p1, .int (nI len), .ref p2, .ref p3, .ref p4, .ref p5, .int (nI ((uNs ((pTS u v).1)))), .int (nI ((uPl ((pTS u v).1)))), .int (nI ((uDg ((pTS u v).1)))), .int (uTg ((pTS u v).1)), .int (uSn ((pTS u v).1)), .int (uFi ((pTS u v).1)), .int (uSe ((pTS u v).1))])), (p1, .inl (g.2.1 0, 100, .inl tx)), (p2, .inl (g.2.1 0, 25, .inl (uT ((pTS u v).1)))), (p3, .inl (g.2.1 0, 25, .inl (uG ((pTS u v).1)))), (p4, .inl (g.2.1 0, 25, .inl (uF ((pTS u v).1)))), (p5, .inl (g.2.1 0, 25, .inl (uE ((pTS u v).1))))]) (va_runV (As := [.int v]) (rest := []) ⟨hx, hb, hml, hown, hts⟩ (c_X1_takeSemicolon l g p0 p1 p2 p3 p4 p5 len tx u v (by first | assumption | omega | exact Nat.le_of_ble_eq_true rfl)) (cwV 1 hts gX1_take_X1_takeSemicolon rfl rfl rfl (by decide +kernel) ⟨(Nat.le_of_ble_eq_true rfl), (Nat.le_of_ble_eq_true rfl)⟩) (preVd (RX1, TX1, 13) hE hP hD [0, 1, 2, 3, 4, 5] (by decide) rfl rfl) rfl rfl hl.1 rfl (lv_room (Nat.le_of_ble_eq_true rfl)) dX1_take_121 ⟨(Nat.le_of_ble_eq_true rfl), (Nat.le_of_ble_eq_true rfl)⟩) hP hD hS [0, 1, 2, 3, 4, 5] [] 6 [p0, p1, p2, p3, p4, p5] [] rfl rfl rfl (fun _ => rfl) (fun _ => rfl) (fun _ => rfl) rfl (by decide) (fun r9 _ H locs hr9 hP hD hS => ?_)
    subst hr9
    have e9 : pT u v = pTS u v := by rw [pT, k4]; rfl
    subst hQ
    have hP9 : va_P g.1 vwCl [(p0, .inr (1, [.ref p1, .int (nI len), .ref p2, .ref p3, .ref p4, .ref p5, .int (nI ((uNs ((pT u v).1)))), .int (nI ((uPl ((pT u v).1)))), .int (nI ((uDg ((pT u v).1)))), .int (uTg ((pT u v).1)), .int (uSn ((pT u v).1)), .int (uFi ((pT u v).1)), .int (uSe ((pT u v).1))])), (p1, .inl (g.2.1 0, 100, .inl tx)), (p2, .inl (g.2.1 0, 25, .inl (uT ((pT u v).1)))), (p3, .inl (g.2.1 0, 25, .inl (uG ((pT u v).1)))), (p4, .inl (g.2.1 0, 25, .inl (uF ((pT u v).1)))), (p5, .inl (g.2.1 0, 25, .inl (uE ((pT u v).1))))] H := by rw [e9]; exact hP
    exact W.zret (v := (if (pTS u v).2 = true then (1 : Int32) else 0)) hx hb hr bz_n (fun t ht hW => ⟨⟨(if (pTS u v).2 = true then (1 : Int32) else 0), (), rfl, by rw [e9], by show va_P g.1 vwCl _ t.heap; rw [ht]; exact hP9⟩, hS.F ht⟩) hS.2.2 dX1_take_124
theorem in_X1_read_X1 : ∀ w ∈ wsX10, w ∈ wsX1_read := by decide +kernel
abbrev rm_X1_read : Room := { frames := 3, cells := 0, slots := 0, locals := 63 }
set_option maxRecDepth 100000 in
set_option maxHeartbeats 4000000 in
theorem c_X1_read (l : Launch) (g : GT) (p0 : Nat) (p1 : Nat) (p2 : Nat) (p3 : Nat) (p4 : Nat) (p5 : Nat) (len : Nat) (tx : Nat → Int32) (u : PSt) (at_ : Nat) (hat : at_ < 100) (hpl : uPl u ≤ 6) (hns : uNs u ≤ 25) : cUi l g yX1_read wsX1_read rm_X1_read [.ref p0, .int (nI at_)] [(p0, .inr (1, [.ref p1, .int (nI len), .ref p2, .ref p3, .ref p4, .ref p5, .int (nI ((uNs u))), .int (nI ((uPl u))), .int (nI ((uDg u))), .int (uTg u), .int (uSn u), .int (uFi u), .int (uSe u)])), (p1, .inl (g.2.1 0, 100, .inl tx)), (p2, .inl (g.2.1 0, 25, .inl (uT u))), (p3, .inl (g.2.1 0, 25, .inl (uG u))), (p4, .inl (g.2.1 0, 25, .inl (uF u))), (p5, .inl (g.2.1 0, 25, .inl (uE u)))] (fun r (_ : Unit) => r = ((pRd u (tx at_) at_).2)) (fun _ => [(p0, .inr (1, [.ref p1, .int (nI len), .ref p2, .ref p3, .ref p4, .ref p5, .int (nI ((uNs ((pRd u (tx at_) at_).1)))), .int (nI ((uPl ((pRd u (tx at_) at_).1)))), .int (nI ((uDg ((pRd u (tx at_) at_).1)))), .int (uTg ((pRd u (tx at_) at_).1)), .int (uSn ((pRd u (tx at_) at_).1)), .int (uFi ((pRd u (tx at_) at_).1)), .int (uSe ((pRd u (tx at_) at_).1))])), (p1, .inl (g.2.1 0, 100, .inl tx)), (p2, .inl (g.2.1 0, 25, .inl (uT ((pRd u (tx at_) at_).1)))), (p3, .inl (g.2.1 0, 25, .inl (uG ((pRd u (tx at_) at_).1)))), (p4, .inl (g.2.1 0, 25, .inl (uF ((pRd u (tx at_) at_).1)))), (p5, .inl (g.2.1 0, 25, .inl (uE ((pRd u (tx at_) at_).1))))]) := by
  refine enU (y := yX1_read) (ws := wsX1_read) (av := [.ref p0, .int (nI at_)]) (cc := cX1_read) (maxL := 2) (ret := (some .int)) (by decide) rfl (Nat.le_of_ble_eq_true rfl) rfl ?_
  intro p e s m below meth c ls hx hb hr hml hown hts hlocks hE hP hD hl
  have hK := hE.1
  have hS : va_S (va_Ad [(p0, .inr (1, [.ref p1, .int (nI len), .ref p2, .ref p3, .ref p4, .ref p5, .int (nI ((uNs u))), .int (nI ((uPl u))), .int (nI ((uDg u))), .int (uTg u), .int (uSn u), .int (uFi u), .int (uSe u)])), (p1, .inl (g.2.1 0, 100, .inl tx)), (p2, .inl (g.2.1 0, 25, .inl (uT u))), (p3, .inl (g.2.1 0, 25, .inl (uG u))), (p4, .inl (g.2.1 0, 25, .inl (uF u))), (p5, .inl (g.2.1 0, 25, .inl (uE u)))]) s.heap s.heap [] := va_S.rf
  generalize hQ : MQ below _ _ s _ _ _ = Q9
  have hl : lv_has ls 2 [(0, .ref p0), (1, .int (nI at_))] := hl
  refine lv_aload_n hx hb dX1_read_0 rfl (lv_at hl 0 rfl) ?_
  refine lv_aload_n hx hb dX1_read_1 rfl (lv_at hl 0 rfl) ?_
  refine va_get (D := g.1) (ci := 1) (v := .ref p1) (C := RX1) (T := TX1) (N := 13) hx hb hts in_X1_read_X1 hown hK hP 0 rfl rfl 0 (by decide) (hts _ (List.mem_of_getElem? (i := 1) rfl)) (fun _ h9 => h9) rfl dX1_read_2 ?_
  refine lv_iload_n hx hb dX1_read_5 rfl (lv_at hl 1 rfl) ?_
  refine gIald (k := at_) hx hb hE hP 1 rfl (by omega) (by omega) dX1_read_6 ?_
  refine kUi (fun _ => [(p0, .inr (1, [.ref p1, .int (nI len), .ref p2, .ref p3, .ref p4, .ref p5, .int (nI ((uNs ((pT u (tx at_)).1)))), .int (nI ((uPl ((pT u (tx at_)).1)))), .int (nI ((uDg ((pT u (tx at_)).1)))), .int (uTg ((pT u (tx at_)).1)), .int (uSn ((pT u (tx at_)).1)), .int (uFi ((pT u (tx at_)).1)), .int (uSe ((pT u (tx at_)).1))])), (p1, .inl (g.2.1 0, 100, .inl tx)), (p2, .inl (g.2.1 0, 25, .inl (uT ((pT u (tx at_)).1)))), (p3, .inl (g.2.1 0, 25, .inl (uG ((pT u (tx at_)).1)))), (p4, .inl (g.2.1 0, 25, .inl (uF ((pT u (tx at_)).1)))), (p5, .inl (g.2.1 0, 25, .inl (uE ((pT u (tx at_)).1))))]) (va_runV (As := [.int (tx at_)]) (rest := []) ⟨hx, hb, hml, hown, hts⟩ (c_X1_take l g p0 p1 p2 p3 p4 p5 len tx u (tx at_) (by first | assumption | omega | exact Nat.le_of_ble_eq_true rfl) (by first | assumption | omega | exact Nat.le_of_ble_eq_true rfl)) (cwV 1 hts gX1_read_X1_take rfl rfl rfl (by decide +kernel) ⟨(Nat.le_of_ble_eq_true rfl), (Nat.le_of_ble_eq_true rfl)⟩) (preVd (RX1, TX1, 13) hE hP hD [0, 1, 2, 3, 4, 5] (by decide) rfl rfl) rfl rfl hl.1 rfl (lv_room (Nat.le_of_ble_eq_true rfl)) dX1_read_7 ⟨(Nat.le_of_ble_eq_true rfl), (Nat.le_of_ble_eq_true rfl)⟩) hP hD hS [0, 1, 2, 3, 4, 5] [] 6 [p0, p1, p2, p3, p4, p5] [] rfl rfl rfl (fun _ => rfl) (fun _ => rfl) (fun _ => rfl) rfl (by decide) (fun r9 _ H locs hr9 hP hD hS => ?_)
  subst hr9
  refine lv_if_eq (tgt := 17) hx hb dX1_read_10 (by decide) (fun c10 => ?_) (fun c10 => ?_)
  · have b10 : ¬ ((pT u (tx at_)).2 = true) := bz_f c10
    refine lv_iload_n hx hb dX1_read_17 rfl (lv_at hl 1 rfl) ?_
    subst hQ
    have hP9 : va_P g.1 vwCl [(p0, .inr (1, [.ref p1, .int (nI len), .ref p2, .ref p3, .ref p4, .ref p5, .int (nI ((uNs ((pRd u (tx at_) at_).1)))), .int (nI ((uPl ((pRd u (tx at_) at_).1)))), .int (nI ((uDg ((pRd u (tx at_) at_).1)))), .int (uTg ((pRd u (tx at_) at_).1)), .int (uSn ((pRd u (tx at_) at_).1)), .int (uFi ((pRd u (tx at_) at_).1)), .int (uSe ((pRd u (tx at_) at_).1))])), (p1, .inl (g.2.1 0, 100, .inl tx)), (p2, .inl (g.2.1 0, 25, .inl (uT ((pRd u (tx at_) at_).1)))), (p3, .inl (g.2.1 0, 25, .inl (uG ((pRd u (tx at_) at_).1)))), (p4, .inl (g.2.1 0, 25, .inl (uF ((pRd u (tx at_) at_).1)))), (p5, .inl (g.2.1 0, 25, .inl (uE ((pRd u (tx at_) at_).1))))] H := hP
    exact W.iret (v := (nI at_)) hx hb hr (fun t ht hW => ⟨⟨(nI at_), (), rfl, by first | exact (if_pos b10).symm | exact (if_neg b10).symm, by show va_P g.1 vwCl _ t.heap; rw [ht]; exact hP9⟩, hS.F ht⟩) hS.2.2 dX1_read_18
  · have b10 : (pT u (tx at_)).2 = true := bz_t c10
    refine lv_iconst (v := -1) hx hb dX1_read_13 (by decide) ?_
    refine lv_goto (tgt := 18) hx hb dX1_read_14 (by decide) ?_
    subst hQ
    have hP9 : va_P g.1 vwCl [(p0, .inr (1, [.ref p1, .int (nI len), .ref p2, .ref p3, .ref p4, .ref p5, .int (nI ((uNs ((pRd u (tx at_) at_).1)))), .int (nI ((uPl ((pRd u (tx at_) at_).1)))), .int (nI ((uDg ((pRd u (tx at_) at_).1)))), .int (uTg ((pRd u (tx at_) at_).1)), .int (uSn ((pRd u (tx at_) at_).1)), .int (uFi ((pRd u (tx at_) at_).1)), .int (uSe ((pRd u (tx at_) at_).1))])), (p1, .inl (g.2.1 0, 100, .inl tx)), (p2, .inl (g.2.1 0, 25, .inl (uT ((pRd u (tx at_) at_).1)))), (p3, .inl (g.2.1 0, 25, .inl (uG ((pRd u (tx at_) at_).1)))), (p4, .inl (g.2.1 0, 25, .inl (uF ((pRd u (tx at_) at_).1)))), (p5, .inl (g.2.1 0, 25, .inl (uE ((pRd u (tx at_) at_).1))))] H := hP
    exact W.iret (v := (-1)) hx hb hr (fun t ht hW => ⟨⟨(-1), (), rfl, by first | exact (if_pos b10).symm | exact (if_neg b10).symm, by show va_P g.1 vwCl _ t.heap; rw [ht]; exact hP9⟩, hS.F ht⟩) hS.2.2 dX1_read_18
theorem in_X1_readInNumber_X1 : ∀ w ∈ wsX10, w ∈ wsX1_readInNumber := by decide +kernel
abbrev rm_X1_readInNumber : Room := { frames := 1, cells := 0, slots := 0, locals := 21 }
set_option maxRecDepth 100000 in
set_option maxHeartbeats 4000000 in
theorem c_X1_readInNumber (l : Launch) (g : GT) (p0 : Nat) (p1 : Nat) (p2 : Nat) (p3 : Nat) (p4 : Nat) (p5 : Nat) (len : Nat) (tx : Nat → Int32) (u : PSt) (at_ : Nat) (hat : at_ < 100) (hdg : uDg u ≤ 3) (hns : uNs u ≤ 25) : cUi l g yX1_readInNumber wsX1_readInNumber rm_X1_readInNumber [.ref p0, .int (nI at_)] [(p0, .inr (1, [.ref p1, .int (nI len), .ref p2, .ref p3, .ref p4, .ref p5, .int (nI ((uNs u))), .int (nI ((uPl u))), .int (nI ((uDg u))), .int (uTg u), .int (uSn u), .int (uFi u), .int (uSe u)])), (p1, .inl (g.2.1 0, 100, .inl tx)), (p2, .inl (g.2.1 0, 25, .inl (uT u))), (p3, .inl (g.2.1 0, 25, .inl (uG u))), (p4, .inl (g.2.1 0, 25, .inl (uF u))), (p5, .inl (g.2.1 0, 25, .inl (uE u)))] (fun r (_ : Unit) => r = ((pRN u (tx at_) at_).2)) (fun _ => [(p0, .inr (1, [.ref p1, .int (nI len), .ref p2, .ref p3, .ref p4, .ref p5, .int (nI ((uNs ((pRN u (tx at_) at_).1)))), .int (nI ((uPl ((pRN u (tx at_) at_).1)))), .int (nI ((uDg ((pRN u (tx at_) at_).1)))), .int (uTg ((pRN u (tx at_) at_).1)), .int (uSn ((pRN u (tx at_) at_).1)), .int (uFi ((pRN u (tx at_) at_).1)), .int (uSe ((pRN u (tx at_) at_).1))])), (p1, .inl (g.2.1 0, 100, .inl tx)), (p2, .inl (g.2.1 0, 25, .inl (uT ((pRN u (tx at_) at_).1)))), (p3, .inl (g.2.1 0, 25, .inl (uG ((pRN u (tx at_) at_).1)))), (p4, .inl (g.2.1 0, 25, .inl (uF ((pRN u (tx at_) at_).1)))), (p5, .inl (g.2.1 0, 25, .inl (uE ((pRN u (tx at_) at_).1))))]) := by
  refine enU (y := yX1_readInNumber) (ws := wsX1_readInNumber) (av := [.ref p0, .int (nI at_)]) (cc := cX1_readInNumber) (maxL := 3) (ret := (some .int)) (by decide) rfl (Nat.le_of_ble_eq_true rfl) rfl ?_
  intro p e s m below meth c ls hx hb hr hml hown hts hlocks hE hP hD hl
  have hK := hE.1
  have hS : va_S (va_Ad [(p0, .inr (1, [.ref p1, .int (nI len), .ref p2, .ref p3, .ref p4, .ref p5, .int (nI ((uNs u))), .int (nI ((uPl u))), .int (nI ((uDg u))), .int (uTg u), .int (uSn u), .int (uFi u), .int (uSe u)])), (p1, .inl (g.2.1 0, 100, .inl tx)), (p2, .inl (g.2.1 0, 25, .inl (uT u))), (p3, .inl (g.2.1 0, 25, .inl (uG u))), (p4, .inl (g.2.1 0, 25, .inl (uF u))), (p5, .inl (g.2.1 0, 25, .inl (uE u)))]) s.heap s.heap [] := va_S.rf
  generalize hQ : MQ below _ _ s _ _ _ = Q9
  have hl : lv_has ls 3 [(0, .ref p0), (1, .int (nI at_))] := hl
  refine lv_aload_n hx hb dX1_readInNumber_0 rfl (lv_at hl 0 rfl) ?_
  refine va_get (D := g.1) (ci := 1) (v := .ref p1) (C := RX1) (T := TX1) (N := 13) hx hb hts in_X1_readInNumber_X1 hown hK hP 0 rfl rfl 0 (by decide) (hts _ (List.mem_of_getElem? (i := 1) rfl)) (fun _ h9 => h9) rfl dX1_readInNumber_1 ?_
  refine lv_iload_n hx hb dX1_readInNumber_4 rfl (lv_at hl 1 rfl) ?_
  refine gIald (k := at_) hx hb hE hP 1 rfl (by omega) (by omega) dX1_readInNumber_5 ?_
  refine lv_istore_n (lv' := [(2, .int (tx at_)), (0, .ref p0), (1, .int (nI at_))]) hx hb dX1_readInNumber_6 rfl hl (by decide) rfl (fun ls hl => ?_)
  refine lv_iload_n hx hb dX1_readInNumber_7 rfl (lv_at hl 0 rfl) ?_
  refine kRi (va_runS (As := [.int (tx at_)]) (rest := []) ⟨hx, hb, hml, hown, hts⟩ (c_X1_isDigit l g (tx at_)) (va_cwS 1 hts gX1_readInNumber_X1_isDigit rfl rfl rfl (by decide +kernel) ⟨(Nat.le_of_ble_eq_true rfl), (Nat.le_of_ble_eq_true rfl)⟩) (preS hE hP [] rfl) rfl rfl hl.1 rfl (lv_room (Nat.le_of_ble_eq_true rfl)) dX1_readInNumber_8 ⟨(Nat.le_of_ble_eq_true rfl), (Nat.le_of_ble_eq_true rfl)⟩) hP hS (fun r9 H locs hr9 hP hS => ?_)
  subst hr9
  refine lv_if_eq (tgt := 28) hx hb dX1_readInNumber_11 (by decide) (fun c11 => ?_) (fun c11 => ?_)
  · have b11 : ¬ (isD (tx at_)) := bz_f c11
    refine lv_aload_n hx hb dX1_readInNumber_28 rfl (lv_at hl 1 rfl) ?_
    refine va_get (D := g.1) (ci := 1) (v := .int (uFi u)) (C := RX1) (T := TX1) (N := 13) hx hb hts in_X1_readInNumber_X1 hown hK hP 0 rfl rfl 11 (by decide) (hts _ (List.mem_of_getElem? (i := 2) rfl)) (fun _ h9 => h9) rfl dX1_readInNumber_29 ?_
    refine lv_sipush (v := 255) hx hb dX1_readInNumber_32 (by decide) ?_
    refine lv_icmp_le (tgt := 45) hx hb dX1_readInNumber_35 (by decide) (fun c35 => ?_) (fun c35 => ?_)
    · refine lv_aload_n hx hb dX1_readInNumber_45 rfl (lv_at hl 1 rfl) ?_
      refine lv_iload_n hx hb dX1_readInNumber_46 rfl (lv_at hl 0 rfl) ?_
      refine kUi (fun _ => [(p0, .inr (1, [.ref p1, .int (nI len), .ref p2, .ref p3, .ref p4, .ref p5, .int (nI ((uNs ((pTS u (tx at_)).1)))), .int (nI ((uPl ((pTS u (tx at_)).1)))), .int (nI ((uDg ((pTS u (tx at_)).1)))), .int (uTg ((pTS u (tx at_)).1)), .int (uSn ((pTS u (tx at_)).1)), .int (uFi ((pTS u (tx at_)).1)), .int (uSe ((pTS u (tx at_)).1))])), (p1, .inl (g.2.1 0, 100, .inl tx)), (p2, .inl (g.2.1 0, 25, .inl (uT ((pTS u (tx at_)).1)))), (p3, .inl (g.2.1 0, 25, .inl (uG ((pTS u (tx at_)).1)))), (p4, .inl (g.2.1 0, 25, .inl (uF ((pTS u (tx at_)).1)))), (p5, .inl (g.2.1 0, 25, .inl (uE ((pTS u (tx at_)).1))))]) (va_runV (As := [.int (tx at_)]) (rest := []) ⟨hx, hb, hml, hown, hts⟩ (c_X1_takeSemicolon l g p0 p1 p2 p3 p4 p5 len tx u (tx at_) (by first | assumption | omega | exact Nat.le_of_ble_eq_true rfl)) (cwV 1 hts gX1_readInNumber_X1_takeSemicolon rfl rfl rfl (by decide +kernel) ⟨(Nat.le_of_ble_eq_true rfl), (Nat.le_of_ble_eq_true rfl)⟩) (preVd (RX1, TX1, 13) hE hP hD [0, 1, 2, 3, 4, 5] (by decide) rfl rfl) rfl rfl hl.1 rfl (lv_room (Nat.le_of_ble_eq_true rfl)) dX1_readInNumber_47 ⟨(Nat.le_of_ble_eq_true rfl), (Nat.le_of_ble_eq_true rfl)⟩) hP hD hS [0, 1, 2, 3, 4, 5] [] 6 [p0, p1, p2, p3, p4, p5] [] rfl rfl rfl (fun _ => rfl) (fun _ => rfl) (fun _ => rfl) rfl (by decide) (fun r9 _ H locs hr9 hP hD hS => ?_)
      subst hr9
      refine lv_if_eq (tgt := 57) hx hb dX1_readInNumber_50 (by decide) (fun c50 => ?_) (fun c50 => ?_)
      · have b50 : ¬ ((pTS u (tx at_)).2 = true) := bz_f c50
        refine lv_iload_n hx hb dX1_readInNumber_57 rfl (lv_at hl 2 rfl) ?_
        have e9 : pRN u (tx at_) at_ = ((pTS u (tx at_)).1, if (pTS u (tx at_)).2 = true then -1 else nI at_) := (if_neg b11).trans (if_neg (Int32.not_lt.mpr c35))
        subst hQ
        have hP9 : va_P g.1 vwCl [(p0, .inr (1, [.ref p1, .int (nI len), .ref p2, .ref p3, .ref p4, .ref p5, .int (nI ((uNs ((pRN u (tx at_) at_).1)))), .int (nI ((uPl ((pRN u (tx at_) at_).1)))), .int (nI ((uDg ((pRN u (tx at_) at_).1)))), .int (uTg ((pRN u (tx at_) at_).1)), .int (uSn ((pRN u (tx at_) at_).1)), .int (uFi ((pRN u (tx at_) at_).1)), .int (uSe ((pRN u (tx at_) at_).1))])), (p1, .inl (g.2.1 0, 100, .inl tx)), (p2, .inl (g.2.1 0, 25, .inl (uT ((pRN u (tx at_) at_).1)))), (p3, .inl (g.2.1 0, 25, .inl (uG ((pRN u (tx at_) at_).1)))), (p4, .inl (g.2.1 0, 25, .inl (uF ((pRN u (tx at_) at_).1)))), (p5, .inl (g.2.1 0, 25, .inl (uE ((pRN u (tx at_) at_).1))))] H := by rw [e9]; exact hP
        exact W.iret (v := (nI at_)) hx hb hr (fun t ht hW => ⟨⟨(nI at_), (), rfl, by rw [e9]; first | exact (if_pos b50).symm | exact (if_neg b50).symm, by show va_P g.1 vwCl _ t.heap; rw [ht]; exact hP9⟩, hS.F ht⟩) hS.2.2 dX1_readInNumber_58
      · have b50 : (pTS u (tx at_)).2 = true := bz_t c50
        refine lv_iconst (v := -1) hx hb dX1_readInNumber_53 (by decide) ?_
        refine lv_goto (tgt := 58) hx hb dX1_readInNumber_54 (by decide) ?_
        have e9 : pRN u (tx at_) at_ = ((pTS u (tx at_)).1, if (pTS u (tx at_)).2 = true then -1 else nI at_) := (if_neg b11).trans (if_neg (Int32.not_lt.mpr c35))
        subst hQ
        have hP9 : va_P g.1 vwCl [(p0, .inr (1, [.ref p1, .int (nI len), .ref p2, .ref p3, .ref p4, .ref p5, .int (nI ((uNs ((pRN u (tx at_) at_).1)))), .int (nI ((uPl ((pRN u (tx at_) at_).1)))), .int (nI ((uDg ((pRN u (tx at_) at_).1)))), .int (uTg ((pRN u (tx at_) at_).1)), .int (uSn ((pRN u (tx at_) at_).1)), .int (uFi ((pRN u (tx at_) at_).1)), .int (uSe ((pRN u (tx at_) at_).1))])), (p1, .inl (g.2.1 0, 100, .inl tx)), (p2, .inl (g.2.1 0, 25, .inl (uT ((pRN u (tx at_) at_).1)))), (p3, .inl (g.2.1 0, 25, .inl (uG ((pRN u (tx at_) at_).1)))), (p4, .inl (g.2.1 0, 25, .inl (uF ((pRN u (tx at_) at_).1)))), (p5, .inl (g.2.1 0, 25, .inl (uE ((pRN u (tx at_) at_).1))))] H := by rw [e9]; exact hP
        exact W.iret (v := (-1)) hx hb hr (fun t ht hW => ⟨⟨(-1), (), rfl, by rw [e9]; first | exact (if_pos b50).symm | exact (if_neg b50).symm, by show va_P g.1 vwCl _ t.heap; rw [ht]; exact hP9⟩, hS.F ht⟩) hS.2.2 dX1_readInNumber_58
    · refine lv_iload_n hx hb dX1_readInNumber_38 rfl (lv_at hl 2 rfl) ?_
      refine lv_aload_n hx hb dX1_readInNumber_39 rfl (lv_at hl 1 rfl) ?_
      refine va_get (D := g.1) (ci := 1) (v := .int (nI ((uDg u)))) (C := RX1) (T := TX1) (N := 13) hx hb hts in_X1_readInNumber_X1 hown hK hP 0 rfl rfl 8 (by decide) (hts _ (List.mem_of_getElem? (i := 3) rfl)) (fun _ h9 => h9) rfl dX1_readInNumber_40 ?_
      refine lv_isub hx hb dX1_readInNumber_43 ?_
      have e9 : pRN u (tx at_) at_ = (u, nI at_ - nI (uDg u)) := (if_neg b11).trans (if_pos (Int32.not_le.mp c35))
      subst hQ
      have hP9 : va_P g.1 vwCl [(p0, .inr (1, [.ref p1, .int (nI len), .ref p2, .ref p3, .ref p4, .ref p5, .int (nI ((uNs ((pRN u (tx at_) at_).1)))), .int (nI ((uPl ((pRN u (tx at_) at_).1)))), .int (nI ((uDg ((pRN u (tx at_) at_).1)))), .int (uTg ((pRN u (tx at_) at_).1)), .int (uSn ((pRN u (tx at_) at_).1)), .int (uFi ((pRN u (tx at_) at_).1)), .int (uSe ((pRN u (tx at_) at_).1))])), (p1, .inl (g.2.1 0, 100, .inl tx)), (p2, .inl (g.2.1 0, 25, .inl (uT ((pRN u (tx at_) at_).1)))), (p3, .inl (g.2.1 0, 25, .inl (uG ((pRN u (tx at_) at_).1)))), (p4, .inl (g.2.1 0, 25, .inl (uF ((pRN u (tx at_) at_).1)))), (p5, .inl (g.2.1 0, 25, .inl (uE ((pRN u (tx at_) at_).1))))] H := by rw [e9]; exact hP
      exact W.iret (v := ((nI at_) - (nI ((uDg u))))) hx hb hr (fun t ht hW => ⟨⟨((nI at_) - (nI ((uDg u)))), (), rfl, by rw [e9], by show va_P g.1 vwCl _ t.heap; rw [ht]; exact hP9⟩, hS.F ht⟩) hS.2.2 dX1_readInNumber_44
  · have b11 : isD (tx at_) := bz_t c11
    refine lv_aload_n hx hb dX1_readInNumber_14 rfl (lv_at hl 1 rfl) ?_
    refine lv_iload_n hx hb dX1_readInNumber_15 rfl (lv_at hl 0 rfl) ?_
    refine kUi (fun _ => [(p0, .inr (1, [.ref p1, .int (nI len), .ref p2, .ref p3, .ref p4, .ref p5, .int (nI ((uNs ((pTD u (tx at_)).1)))), .int (nI ((uPl ((pTD u (tx at_)).1)))), .int (nI ((uDg ((pTD u (tx at_)).1)))), .int (uTg ((pTD u (tx at_)).1)), .int (uSn ((pTD u (tx at_)).1)), .int (uFi ((pTD u (tx at_)).1)), .int (uSe ((pTD u (tx at_)).1))])), (p1, .inl (g.2.1 0, 100, .inl tx)), (p2, .inl (g.2.1 0, 25, .inl (uT ((pTD u (tx at_)).1)))), (p3, .inl (g.2.1 0, 25, .inl (uG ((pTD u (tx at_)).1)))), (p4, .inl (g.2.1 0, 25, .inl (uF ((pTD u (tx at_)).1)))), (p5, .inl (g.2.1 0, 25, .inl (uE ((pTD u (tx at_)).1))))]) (va_runV (As := [.int (tx at_)]) (rest := []) ⟨hx, hb, hml, hown, hts⟩ (c_X1_takeDigit l g p0 p1 p2 p3 p4 p5 len tx u (tx at_) (by first | assumption | omega | exact Nat.le_of_ble_eq_true rfl)) (cwV 1 hts gX1_readInNumber_X1_takeDigit rfl rfl rfl (by decide +kernel) ⟨(Nat.le_of_ble_eq_true rfl), (Nat.le_of_ble_eq_true rfl)⟩) (preVd (RX1, TX1, 13) hE hP hD [0, 1, 2, 3, 4, 5] (by decide) rfl rfl) rfl rfl hl.1 rfl (lv_room (Nat.le_of_ble_eq_true rfl)) dX1_readInNumber_16 ⟨(Nat.le_of_ble_eq_true rfl), (Nat.le_of_ble_eq_true rfl)⟩) hP hD hS [0, 1, 2, 3, 4, 5] [] 6 [p0, p1, p2, p3, p4, p5] [] rfl rfl rfl (fun _ => rfl) (fun _ => rfl) (fun _ => rfl) rfl (by decide) (fun r9 _ H locs hr9 hP hD hS => ?_)
    subst hr9
    refine lv_if_eq (tgt := 26) hx hb dX1_readInNumber_19 (by decide) (fun c19 => ?_) (fun c19 => ?_)
    · have b19 : ¬ ((pTD u (tx at_)).2 = true) := bz_f c19
      refine lv_iload_n hx hb dX1_readInNumber_26 rfl (lv_at hl 2 rfl) ?_
      have e9 : pRN u (tx at_) at_ = ((pTD u (tx at_)).1, if (pTD u (tx at_)).2 = true then -1 else nI at_) := if_pos b11
      subst hQ
      have hP9 : va_P g.1 vwCl [(p0, .inr (1, [.ref p1, .int (nI len), .ref p2, .ref p3, .ref p4, .ref p5, .int (nI ((uNs ((pRN u (tx at_) at_).1)))), .int (nI ((uPl ((pRN u (tx at_) at_).1)))), .int (nI ((uDg ((pRN u (tx at_) at_).1)))), .int (uTg ((pRN u (tx at_) at_).1)), .int (uSn ((pRN u (tx at_) at_).1)), .int (uFi ((pRN u (tx at_) at_).1)), .int (uSe ((pRN u (tx at_) at_).1))])), (p1, .inl (g.2.1 0, 100, .inl tx)), (p2, .inl (g.2.1 0, 25, .inl (uT ((pRN u (tx at_) at_).1)))), (p3, .inl (g.2.1 0, 25, .inl (uG ((pRN u (tx at_) at_).1)))), (p4, .inl (g.2.1 0, 25, .inl (uF ((pRN u (tx at_) at_).1)))), (p5, .inl (g.2.1 0, 25, .inl (uE ((pRN u (tx at_) at_).1))))] H := by rw [e9]; exact hP
      exact W.iret (v := (nI at_)) hx hb hr (fun t ht hW => ⟨⟨(nI at_), (), rfl, by rw [e9]; first | exact (if_pos b19).symm | exact (if_neg b19).symm, by show va_P g.1 vwCl _ t.heap; rw [ht]; exact hP9⟩, hS.F ht⟩) hS.2.2 dX1_readInNumber_27
    · have b19 : (pTD u (tx at_)).2 = true := bz_t c19
      refine lv_iconst (v := -1) hx hb dX1_readInNumber_22 (by decide) ?_
      refine lv_goto (tgt := 27) hx hb dX1_readInNumber_23 (by decide) ?_
      have e9 : pRN u (tx at_) at_ = ((pTD u (tx at_)).1, if (pTD u (tx at_)).2 = true then -1 else nI at_) := if_pos b11
      subst hQ
      have hP9 : va_P g.1 vwCl [(p0, .inr (1, [.ref p1, .int (nI len), .ref p2, .ref p3, .ref p4, .ref p5, .int (nI ((uNs ((pRN u (tx at_) at_).1)))), .int (nI ((uPl ((pRN u (tx at_) at_).1)))), .int (nI ((uDg ((pRN u (tx at_) at_).1)))), .int (uTg ((pRN u (tx at_) at_).1)), .int (uSn ((pRN u (tx at_) at_).1)), .int (uFi ((pRN u (tx at_) at_).1)), .int (uSe ((pRN u (tx at_) at_).1))])), (p1, .inl (g.2.1 0, 100, .inl tx)), (p2, .inl (g.2.1 0, 25, .inl (uT ((pRN u (tx at_) at_).1)))), (p3, .inl (g.2.1 0, 25, .inl (uG ((pRN u (tx at_) at_).1)))), (p4, .inl (g.2.1 0, 25, .inl (uF ((pRN u (tx at_) at_).1)))), (p5, .inl (g.2.1 0, 25, .inl (uE ((pRN u (tx at_) at_).1))))] H := by rw [e9]; exact hP
      exact W.iret (v := (-1)) hx hb hr (fun t ht hW => ⟨⟨(-1), (), rfl, by rw [e9]; first | exact (if_pos b19).symm | exact (if_neg b19).symm, by show va_P g.1 vwCl _ t.heap; rw [ht]; exact hP9⟩, hS.F ht⟩) hS.2.2 dX1_readInNumber_27
theorem in_X1_positionOfEarlyEnd_X1 : ∀ w ∈ wsX10, w ∈ wsX1_positionOfEarlyEnd := by decide +kernel
abbrev rm_X1_positionOfEarlyEnd : Room := { frames := 0, cells := 0, slots := 0, locals := 0 }
set_option maxRecDepth 100000 in
set_option maxHeartbeats 4000000 in
theorem c_X1_positionOfEarlyEnd (l : Launch) (g : GT) (p0 : Nat) (p1 : Nat) (p2 : Nat) (p3 : Nat) (p4 : Nat) (p5 : Nat) (len : Nat) (tx : Nat → Int32) (u : PSt) (hpl : uPl u ≤ 6) : cRi l g yX1_positionOfEarlyEnd wsX1_positionOfEarlyEnd rm_X1_positionOfEarlyEnd [.ref p0] [(p0, .inr (1, [.ref p1, .int (nI len), .ref p2, .ref p3, .ref p4, .ref p5, .int (nI ((uNs u))), .int (nI ((uPl u))), .int (nI ((uDg u))), .int (uTg u), .int (uSn u), .int (uFi u), .int (uSe u)])), (p1, .inl (g.2.1 0, 100, .inl tx)), (p2, .inl (g.2.1 0, 25, .inl (uT u))), (p3, .inl (g.2.1 0, 25, .inl (uG u))), (p4, .inl (g.2.1 0, 25, .inl (uF u))), (p5, .inl (g.2.1 0, 25, .inl (uE u)))] (fun r => r = (pEE u len)) := by
  refine enR (y := yX1_positionOfEarlyEnd) (ws := wsX1_positionOfEarlyEnd) (av := [.ref p0]) (cc := cX1_positionOfEarlyEnd) (maxL := 1) (ret := (some .int)) (by decide) rfl (Nat.le_of_ble_eq_true rfl) rfl ?_
  intro p e s m below meth c ls hx hb hr hml hown hts hlocks hE hP hl
  have hK := hE.1
  have hS : va_S noA s.heap s.heap [] := va_S.rf
  generalize hQ : MQ below _ _ s _ _ _ = Q9
  have hl : lv_has ls 1 [(0, .ref p0)] := hl
  refine lv_aload_n hx hb dX1_positionOfEarlyEnd_0 rfl (lv_at hl 0 rfl) ?_
  refine va_get (D := g.1) (ci := 1) (v := .int (nI ((uPl u)))) (C := RX1) (T := TX1) (N := 13) hx hb hts in_X1_positionOfEarlyEnd_X1 hown hK hP 0 rfl rfl 7 (by decide) (hts _ (List.mem_of_getElem? (i := 1) rfl)) (fun _ h9 => h9) rfl dX1_positionOfEarlyEnd_1 ?_
  refine lv_iconst (v := 3) hx hb dX1_positionOfEarlyEnd_4 (by decide) ?_
  refine lv_icmp_ne (tgt := 30) hx hb dX1_positionOfEarlyEnd_5 (by decide) (fun c5 => ?_) (fun c5 => ?_)
  · have n5 : ¬ (uPl u) = 3 := fun h9 => c5 ((nI_eq (a := (uPl u)) (b := 3) (by omega) (by omega)).mpr h9)
    refine lv_aload_n hx hb dX1_positionOfEarlyEnd_30 rfl (lv_at hl 0 rfl) ?_
    refine va_get (D := g.1) (ci := 1) (v := .int (nI len)) (C := RX1) (T := TX1) (N := 13) hx hb hts in_X1_positionOfEarlyEnd_X1 hown hK hP 0 rfl rfl 1 (by decide) (hts _ (List.mem_of_getElem? (i := 3) rfl)) (fun _ h9 => h9) rfl dX1_positionOfEarlyEnd_31 ?_
    subst hQ
    exact W.iret (v := (nI len)) hx hb hr (fun t ht hW => ⟨⟨(nI len), (), rfl, by first | exact (if_pos ⟨n5, Int32.not_le.mp c15⟩).symm | exact (if_neg (fun h => n5 h.1)).symm | exact (if_neg (fun h => absurd h.2 (Int32.not_lt.mpr c15))).symm, trivial⟩, hS.F ht⟩) hS.2.2 dX1_positionOfEarlyEnd_34
  · have n5 : (uPl u) = 3 := (nI_eq (a := (uPl u)) (b := 3) (by omega) (by omega)).mp c5
    refine lv_aload_n hx hb dX1_positionOfEarlyEnd_8 rfl (lv_at hl 0 rfl) ?_
    refine va_get (D := g.1) (ci := 1) (v := .int (uFi u)) (C := RX1) (T := TX1) (N := 13) hx hb hts in_X1_positionOfEarlyEnd_X1 hown hK hP 0 rfl rfl 11 (by decide) (hts _ (List.mem_of_getElem? (i := 2) rfl)) (fun _ h9 => h9) rfl dX1_positionOfEarlyEnd_9 ?_
    refine lv_sipush (v := 255) hx hb dX1_positionOfEarlyEnd_12 (by decide) ?_
    refine lv_icmp_le (tgt := 30) hx hb dX1_positionOfEarlyEnd_15 (by decide) (fun c15 => ?_) (fun c15 => ?_)
    · refine lv_aload_n hx hb dX1_positionOfEarlyEnd_30 rfl (lv_at hl 0 rfl) ?_
      refine va_get (D := g.1) (ci := 1) (v := .int (nI len)) (C := RX1) (T := TX1) (N := 13) hx hb hts in_X1_positionOfEarlyEnd_X1 hown hK hP 0 rfl rfl 1 (by decide) (hts _ (List.mem_of_getElem? (i := 3) rfl)) (fun _ h9 => h9) rfl dX1_positionOfEarlyEnd_31 ?_
      subst hQ
      exact W.iret (v := (nI len)) hx hb hr (fun t ht hW => ⟨⟨(nI len), (), rfl, by first | exact (if_pos ⟨n5, Int32.not_le.mp c15⟩).symm | exact (if_neg (fun h => n5 h.1)).symm | exact (if_neg (fun h => absurd h.2 (Int32.not_lt.mpr c15))).symm, trivial⟩, hS.F ht⟩) hS.2.2 dX1_positionOfEarlyEnd_34
    · refine lv_aload_n hx hb dX1_positionOfEarlyEnd_18 rfl (lv_at hl 0 rfl) ?_
      refine va_get (D := g.1) (ci := 1) (v := .int (nI len)) (C := RX1) (T := TX1) (N := 13) hx hb hts in_X1_positionOfEarlyEnd_X1 hown hK hP 0 rfl rfl 1 (by decide) (hts _ (List.mem_of_getElem? (i := 3) rfl)) (fun _ h9 => h9) rfl dX1_positionOfEarlyEnd_19 ?_
      refine lv_aload_n hx hb dX1_positionOfEarlyEnd_22 rfl (lv_at hl 0 rfl) ?_
      refine va_get (D := g.1) (ci := 1) (v := .int (nI ((uDg u)))) (C := RX1) (T := TX1) (N := 13) hx hb hts in_X1_positionOfEarlyEnd_X1 hown hK hP 0 rfl rfl 8 (by decide) (hts _ (List.mem_of_getElem? (i := 4) rfl)) (fun _ h9 => h9) rfl dX1_positionOfEarlyEnd_23 ?_
      refine lv_isub hx hb dX1_positionOfEarlyEnd_26 ?_
      refine lv_goto (tgt := 34) hx hb dX1_positionOfEarlyEnd_27 (by decide) ?_
      subst hQ
      exact W.iret (v := ((nI len) - (nI ((uDg u))))) hx hb hr (fun t ht hW => ⟨⟨((nI len) - (nI ((uDg u)))), (), rfl, by first | exact (if_pos ⟨n5, Int32.not_le.mp c15⟩).symm | exact (if_neg (fun h => n5 h.1)).symm | exact (if_neg (fun h => absurd h.2 (Int32.not_lt.mpr c15))).symm, trivial⟩, hS.F ht⟩) hS.2.2 dX1_positionOfEarlyEnd_34
theorem in_X1_parse_X1 : ∀ w ∈ wsX10, w ∈ wsX1_parse := by decide +kernel
abbrev rm_X1_parse : Room := { frames := 4, cells := 0, slots := 0, locals := 84 }
set_option maxRecDepth 100000 in
set_option maxHeartbeats 4000000 in
theorem c_X1_parse (l : Launch) (g : GT) (p0 : Nat) (p1 : Nat) (p2 : Nat) (p3 : Nat) (p4 : Nat) (p5 : Nat) (len : Nat) (tx : Nat → Int32) (u : PSt) (hlen : len ≤ 100) (hdg : uDg u ≤ 3) : cUi l g yX1_parse wsX1_parse rm_X1_parse [.ref p0] [(p0, .inr (1, [.ref p1, .int (nI len), .ref p2, .ref p3, .ref p4, .ref p5, .int (nI ((uNs u))), .int (nI ((uPl u))), .int (nI ((uDg u))), .int (uTg u), .int (uSn u), .int (uFi u), .int (uSe u)])), (p1, .inl (g.2.1 0, 100, .inl tx)), (p2, .inl (g.2.1 0, 25, .inl (uT u))), (p3, .inl (g.2.1 0, 25, .inl (uG u))), (p4, .inl (g.2.1 0, 25, .inl (uF u))), (p5, .inl (g.2.1 0, 25, .inl (uE u)))] (fun r (_ : Unit) => r = ((pP tx len len (0, uDg u, uTg u, uSn u, uFi u, uSe u, 0, uT u, uG u, uF u, uE u)).2)) (fun _ => [(p0, .inr (1, [.ref p1, .int (nI len), .ref p2, .ref p3, .ref p4, .ref p5, .int (nI ((uNs ((pP tx len len (0, uDg u, uTg u, uSn u, uFi u, uSe u, 0, uT u, uG u, uF u, uE u)).1)))), .int (nI ((uPl ((pP tx len len (0, uDg u, uTg u, uSn u, uFi u, uSe u, 0, uT u, uG u, uF u, uE u)).1)))), .int (nI ((uDg ((pP tx len len (0, uDg u, uTg u, uSn u, uFi u, uSe u, 0, uT u, uG u, uF u, uE u)).1)))), .int (uTg ((pP tx len len (0, uDg u, uTg u, uSn u, uFi u, uSe u, 0, uT u, uG u, uF u, uE u)).1)), .int (uSn ((pP tx len len (0, uDg u, uTg u, uSn u, uFi u, uSe u, 0, uT u, uG u, uF u, uE u)).1)), .int (uFi ((pP tx len len (0, uDg u, uTg u, uSn u, uFi u, uSe u, 0, uT u, uG u, uF u, uE u)).1)), .int (uSe ((pP tx len len (0, uDg u, uTg u, uSn u, uFi u, uSe u, 0, uT u, uG u, uF u, uE u)).1))])), (p1, .inl (g.2.1 0, 100, .inl tx)), (p2, .inl (g.2.1 0, 25, .inl (uT ((pP tx len len (0, uDg u, uTg u, uSn u, uFi u, uSe u, 0, uT u, uG u, uF u, uE u)).1)))), (p3, .inl (g.2.1 0, 25, .inl (uG ((pP tx len len (0, uDg u, uTg u, uSn u, uFi u, uSe u, 0, uT u, uG u, uF u, uE u)).1)))), (p4, .inl (g.2.1 0, 25, .inl (uF ((pP tx len len (0, uDg u, uTg u, uSn u, uFi u, uSe u, 0, uT u, uG u, uF u, uE u)).1)))), (p5, .inl (g.2.1 0, 25, .inl (uE ((pP tx len len (0, uDg u, uTg u, uSn u, uFi u, uSe u, 0, uT u, uG u, uF u, uE u)).1))))]) := by
  refine enU (y := yX1_parse) (ws := wsX1_parse) (av := [.ref p0]) (cc := cX1_parse) (maxL := 3) (ret := (some .int)) (by decide) rfl (Nat.le_of_ble_eq_true rfl) rfl ?_
  intro p e s m below meth c ls hx hb hr hml hown hts hlocks hE hP hD hl
  have hK := hE.1
  have hS : va_S (va_Ad [(p0, .inr (1, [.ref p1, .int (nI len), .ref p2, .ref p3, .ref p4, .ref p5, .int (nI ((uNs u))), .int (nI ((uPl u))), .int (nI ((uDg u))), .int (uTg u), .int (uSn u), .int (uFi u), .int (uSe u)])), (p1, .inl (g.2.1 0, 100, .inl tx)), (p2, .inl (g.2.1 0, 25, .inl (uT u))), (p3, .inl (g.2.1 0, 25, .inl (uG u))), (p4, .inl (g.2.1 0, 25, .inl (uF u))), (p5, .inl (g.2.1 0, 25, .inl (uE u)))]) s.heap s.heap [] := va_S.rf
  generalize hQ : MQ below _ _ s _ _ _ = Q9
  have hl : lv_has ls 3 [(0, .ref p0)] := hl
  refine lv_aload_n hx hb dX1_parse_0 rfl (lv_at hl 0 rfl) ?_
  refine lv_iconst (v := 0) hx hb dX1_parse_1 (by decide) ?_
  refine lv_tope (y := (nI 0)) rfl ?_
  refine va_put (D := g.1) (ci := 1) (v := .int (nI 0)) (ty := .int) (C := RX1) (T := TX1) (N := 13) hx hb hts in_X1_parse_X1 tyX1 tyX1_ok nmX1 hown hK hP hD hS 0 rfl rfl 6 (by decide) (hts _ (List.mem_of_getElem? (i := 1) rfl)) (fun _ h9 => h9) rfl (by decide +kernel) rfl rfl (Nat.le_of_ble_eq_true rfl) dX1_parse_2 (fun H locs hP hD hS => ?_)
  have hP : va_P g.1 vwCl [(p0, .inr (1, [.ref p1, .int (nI len), .ref p2, .ref p3, .ref p4, .ref p5, .int (nI 0), .int (nI ((uPl u))), .int (nI ((uDg u))), .int (uTg u), .int (uSn u), .int (uFi u), .int (uSe u)])), (p1, .inl (g.2.1 0, 100, .inl tx)), (p2, .inl (g.2.1 0, 25, .inl (uT u))), (p3, .inl (g.2.1 0, 25, .inl (uG u))), (p4, .inl (g.2.1 0, 25, .inl (uF u))), (p5, .inl (g.2.1 0, 25, .inl (uE u)))] _ := hP
  have hD : va_D (va_Ad [(p0, .inr (1, [.ref p1, .int (nI len), .ref p2, .ref p3, .ref p4, .ref p5, .int (nI ((uNs u))), .int (nI ((uPl u))), .int (nI ((uDg u))), .int (uTg u), .int (uSn u), .int (uFi u), .int (uSe u)])), (p1, .inl (g.2.1 0, 100, .inl tx)), (p2, .inl (g.2.1 0, 25, .inl (uT u))), (p3, .inl (g.2.1 0, 25, .inl (uG u))), (p4, .inl (g.2.1 0, 25, .inl (uF u))), (p5, .inl (g.2.1 0, 25, .inl (uE u)))]) [(p0, .inr (1, [.ref p1, .int (nI len), .ref p2, .ref p3, .ref p4, .ref p5, .int (nI 0), .int (nI ((uPl u))), .int (nI ((uDg u))), .int (uTg u), .int (uSn u), .int (uFi u), .int (uSe u)])), (p1, .inl (g.2.1 0, 100, .inl tx)), (p2, .inl (g.2.1 0, 25, .inl (uT u))), (p3, .inl (g.2.1 0, 25, .inl (uG u))), (p4, .inl (g.2.1 0, 25, .inl (uF u))), (p5, .inl (g.2.1 0, 25, .inl (uE u)))] := hD
  refine lv_aload_n hx hb dX1_parse_5 rfl (lv_at hl 0 rfl) ?_
  refine lv_iconst (v := 0) hx hb dX1_parse_6 (by decide) ?_
  refine lv_tope (y := (nI 0)) rfl ?_
  refine va_put (D := g.1) (ci := 1) (v := .int (nI 0)) (ty := .int) (C := RX1) (T := TX1) (N := 13) hx hb hts in_X1_parse_X1 tyX1 tyX1_ok nmX1 hown hK hP hD hS 0 rfl rfl 7 (by decide) (hts _ (List.mem_of_getElem? (i := 2) rfl)) (fun _ h9 => h9) rfl (by decide +kernel) rfl rfl (Nat.le_of_ble_eq_true rfl) dX1_parse_7 (fun H locs hP hD hS => ?_)
  have hP : va_P g.1 vwCl [(p0, .inr (1, [.ref p1, .int (nI len), .ref p2, .ref p3, .ref p4, .ref p5, .int (nI 0), .int (nI 0), .int (nI ((uDg u))), .int (uTg u), .int (uSn u), .int (uFi u), .int (uSe u)])), (p1, .inl (g.2.1 0, 100, .inl tx)), (p2, .inl (g.2.1 0, 25, .inl (uT u))), (p3, .inl (g.2.1 0, 25, .inl (uG u))), (p4, .inl (g.2.1 0, 25, .inl (uF u))), (p5, .inl (g.2.1 0, 25, .inl (uE u)))] _ := hP
  have hD : va_D (va_Ad [(p0, .inr (1, [.ref p1, .int (nI len), .ref p2, .ref p3, .ref p4, .ref p5, .int (nI ((uNs u))), .int (nI ((uPl u))), .int (nI ((uDg u))), .int (uTg u), .int (uSn u), .int (uFi u), .int (uSe u)])), (p1, .inl (g.2.1 0, 100, .inl tx)), (p2, .inl (g.2.1 0, 25, .inl (uT u))), (p3, .inl (g.2.1 0, 25, .inl (uG u))), (p4, .inl (g.2.1 0, 25, .inl (uF u))), (p5, .inl (g.2.1 0, 25, .inl (uE u)))]) [(p0, .inr (1, [.ref p1, .int (nI len), .ref p2, .ref p3, .ref p4, .ref p5, .int (nI 0), .int (nI 0), .int (nI ((uDg u))), .int (uTg u), .int (uSn u), .int (uFi u), .int (uSe u)])), (p1, .inl (g.2.1 0, 100, .inl tx)), (p2, .inl (g.2.1 0, 25, .inl (uT u))), (p3, .inl (g.2.1 0, 25, .inl (uG u))), (p4, .inl (g.2.1 0, 25, .inl (uF u))), (p5, .inl (g.2.1 0, 25, .inl (uE u)))] := hD
  refine lv_iconst (v := 0) hx hb dX1_parse_10 (by decide) ?_
  refine lv_istore_n (lv' := [(1, .int 0), (0, .ref p0)]) hx hb dX1_parse_11 rfl hl (by decide) rfl (fun ls hl => ?_)
  have lp12 : ∀ (n9 : Nat) (at_ : Nat) (u_ : PSt), len - at_ < n9 → (at_ ≤ len) → (uPl u_ ≤ 6) → (uDg u_ ≤ 3) → (uNs u_ ≤ 25) → (pP tx len (len - at_) u_ = pP tx len len (0, uDg u, uTg u, uSn u, uFi u, uSe u, 0, uT u, uG u, uF u, uE u)) → ∀ (H : Heap) (locs : List Loc), va_P g.1 vwCl [(p0, .inr (1, [.ref p1, .int (nI len), .ref p2, .ref p3, .ref p4, .ref p5, .int (nI ((uNs u_))), .int (nI ((uPl u_))), .int (nI ((uDg u_))), .int (uTg u_), .int (uSn u_), .int (uFi u_), .int (uSe u_)])), (p1, .inl (g.2.1 0, 100, .inl tx)), (p2, .inl (g.2.1 0, 25, .inl (uT u_))), (p3, .inl (g.2.1 0, 25, .inl (uG u_))), (p4, .inl (g.2.1 0, 25, .inl (uF u_))), (p5, .inl (g.2.1 0, 25, .inl (uE u_)))] H → va_D (va_Ad [(p0, .inr (1, [.ref p1, .int (nI len), .ref p2, .ref p3, .ref p4, .ref p5, .int (nI ((uNs u))), .int (nI ((uPl u))), .int (nI ((uDg u))), .int (uTg u), .int (uSn u), .int (uFi u), .int (uSe u)])), (p1, .inl (g.2.1 0, 100, .inl tx)), (p2, .inl (g.2.1 0, 25, .inl (uT u))), (p3, .inl (g.2.1 0, 25, .inl (uG u))), (p4, .inl (g.2.1 0, 25, .inl (uF u))), (p5, .inl (g.2.1 0, 25, .inl (uE u)))]) [(p0, .inr (1, [.ref p1, .int (nI len), .ref p2, .ref p3, .ref p4, .ref p5, .int (nI ((uNs u_))), .int (nI ((uPl u_))), .int (nI ((uDg u_))), .int (uTg u_), .int (uSn u_), .int (uFi u_), .int (uSe u_)])), (p1, .inl (g.2.1 0, 100, .inl tx)), (p2, .inl (g.2.1 0, 25, .inl (uT u_))), (p3, .inl (g.2.1 0, 25, .inl (uG u_))), (p4, .inl (g.2.1 0, 25, .inl (uF u_))), (p5, .inl (g.2.1 0, 25, .inl (uE u_)))] → va_S (va_Ad [(p0, .inr (1, [.ref p1, .int (nI len), .ref p2, .ref p3, .ref p4, .ref p5, .int (nI ((uNs u))), .int (nI ((uPl u))), .int (nI ((uDg u))), .int (uTg u), .int (uSn u), .int (uFi u), .int (uSe u)])), (p1, .inl (g.2.1 0, 100, .inl tx)), (p2, .inl (g.2.1 0, 25, .inl (uT u))), (p3, .inl (g.2.1 0, 25, .inl (uG u))), (p4, .inl (g.2.1 0, 25, .inl (uF u))), (p5, .inl (g.2.1 0, 25, .inl (uE u)))]) s.heap H locs → ∀ (ls : Array Slot), lv_has ls 3 [(1, .int (nI at_)), (0, .ref p0)] → W p l e rm_X1_parse s m [Value.ref p0].toArray below meth c H locs 0 0 Q9 (F0 m 12 ls []) := by
    intro n9
    induction n9 with
    | zero => intro at_ u_ h9; exact absurd h9 (Nat.not_lt_zero _)
    | succ n9 ih12 =>
      intro at_ u_ hm12 ha hpl hdg hns hres
      intro H locs hP hD hS ls hl
      refine lv_iload_n hx hb dX1_parse_12 rfl (lv_at hl 0 rfl) ?_
      refine lv_aload_n hx hb dX1_parse_13 rfl (lv_at hl 1 rfl) ?_
      refine va_get (D := g.1) (ci := 1) (v := .int (nI len)) (C := RX1) (T := TX1) (N := 13) hx hb hts in_X1_parse_X1 hown hK hP 0 rfl rfl 1 (by decide) (hts _ (List.mem_of_getElem? (i := 3) rfl)) (fun _ h9 => h9) rfl dX1_parse_14 ?_
      refine lv_icmp_ge (tgt := 55) hx hb dX1_parse_17 (by decide) (fun c17 => ?_) (fun c17 => ?_)
      · have n17 : len ≤ at_ := (nI_leI (a := len) (b := at_) (by omega) (by omega)).mp c17
        refine lv_aload_n hx hb dX1_parse_55 rfl (lv_at hl 1 rfl) ?_
        refine va_get (D := g.1) (ci := 1) (v := .int (nI ((uPl u_)))) (C := RX1) (T := TX1) (N := 13) hx hb hts in_X1_parse_X1 hown hK hP 0 rfl rfl 7 (by decide) (hts _ (List.mem_of_getElem? (i := 2) rfl)) (fun _ h9 => h9) rfl dX1_parse_56 ?_
        refine lv_if_ne (tgt := 66) hx hb dX1_parse_59 (by decide) (fun c59 => ?_) (fun c59 => ?_)
        · have n59 : ¬ (uPl u_) = 0 := fun h9 => c59 ((nI_eq (a := (uPl u_)) (b := 0) (by omega) (by omega)).mpr h9)
          refine lv_aload_n hx hb dX1_parse_66 rfl (lv_at hl 1 rfl) ?_
          refine kRi (va_runV (As := []) (rest := []) ⟨hx, hb, hml, hown, hts⟩ (c_X1_positionOfEarlyEnd l g p0 p1 p2 p3 p4 p5 len tx u_ (by first | assumption | omega | exact Nat.le_of_ble_eq_true rfl)) (cwV 0 hts gX1_parse_X1_positionOfEarlyEnd rfl rfl rfl (by decide +kernel) ⟨(Nat.le_of_ble_eq_true rfl), (Nat.le_of_ble_eq_true rfl)⟩) (preV (RX1, TX1, 13) hE hP [0, 1, 2, 3, 4, 5] rfl rfl) rfl rfl hl.1 rfl (lv_room (Nat.le_of_ble_eq_true rfl)) dX1_parse_67 ⟨(Nat.le_of_ble_eq_true rfl), (Nat.le_of_ble_eq_true rfl)⟩) hP hS (fun r9 H locs hr9 hP hS => ?_)
          subst hr9
          have e8 : pP tx len (len - at_) u_ = (u_, if uPl u_ = 0 then -1 else pEE u_ len) := by rw [show len - at_ = 0 by omega]; rfl
          rw [hres] at e8
          subst hQ
          have hP9 : va_P g.1 vwCl [(p0, .inr (1, [.ref p1, .int (nI len), .ref p2, .ref p3, .ref p4, .ref p5, .int (nI ((uNs ((pP tx len len (0, uDg u, uTg u, uSn u, uFi u, uSe u, 0, uT u, uG u, uF u, uE u)).1)))), .int (nI ((uPl ((pP tx len len (0, uDg u, uTg u, uSn u, uFi u, uSe u, 0, uT u, uG u, uF u, uE u)).1)))), .int (nI ((uDg ((pP tx len len (0, uDg u, uTg u, uSn u, uFi u, uSe u, 0, uT u, uG u, uF u, uE u)).1)))), .int (uTg ((pP tx len len (0, uDg u, uTg u, uSn u, uFi u, uSe u, 0, uT u, uG u, uF u, uE u)).1)), .int (uSn ((pP tx len len (0, uDg u, uTg u, uSn u, uFi u, uSe u, 0, uT u, uG u, uF u, uE u)).1)), .int (uFi ((pP tx len len (0, uDg u, uTg u, uSn u, uFi u, uSe u, 0, uT u, uG u, uF u, uE u)).1)), .int (uSe ((pP tx len len (0, uDg u, uTg u, uSn u, uFi u, uSe u, 0, uT u, uG u, uF u, uE u)).1))])), (p1, .inl (g.2.1 0, 100, .inl tx)), (p2, .inl (g.2.1 0, 25, .inl (uT ((pP tx len len (0, uDg u, uTg u, uSn u, uFi u, uSe u, 0, uT u, uG u, uF u, uE u)).1)))), (p3, .inl (g.2.1 0, 25, .inl (uG ((pP tx len len (0, uDg u, uTg u, uSn u, uFi u, uSe u, 0, uT u, uG u, uF u, uE u)).1)))), (p4, .inl (g.2.1 0, 25, .inl (uF ((pP tx len len (0, uDg u, uTg u, uSn u, uFi u, uSe u, 0, uT u, uG u, uF u, uE u)).1)))), (p5, .inl (g.2.1 0, 25, .inl (uE ((pP tx len len (0, uDg u, uTg u, uSn u, uFi u, uSe u, 0, uT u, uG u, uF u, uE u)).1))))] H := by rw [e8]; exact hP
          exact W.iret (v := (pEE u_ len)) hx hb hr (fun t ht hW => ⟨⟨(pEE u_ len), (), rfl, by rw [e8]; first | exact (if_pos n59).symm | exact (if_neg n59).symm, by show va_P g.1 vwCl _ t.heap; rw [ht]; exact hP9⟩, hS.F ht⟩) hS.2.2 dX1_parse_70
        · have n59 : (uPl u_) = 0 := (nI_eq (a := (uPl u_)) (b := 0) (by omega) (by omega)).mp c59
          refine lv_iconst (v := -1) hx hb dX1_parse_62 (by decide) ?_
          refine lv_goto (tgt := 70) hx hb dX1_parse_63 (by decide) ?_
          have e8 : pP tx len (len - at_) u_ = (u_, if uPl u_ = 0 then -1 else pEE u_ len) := by rw [show len - at_ = 0 by omega]; rfl
          rw [hres] at e8
          subst hQ
          have hP9 : va_P g.1 vwCl [(p0, .inr (1, [.ref p1, .int (nI len), .ref p2, .ref p3, .ref p4, .ref p5, .int (nI ((uNs ((pP tx len len (0, uDg u, uTg u, uSn u, uFi u, uSe u, 0, uT u, uG u, uF u, uE u)).1)))), .int (nI ((uPl ((pP tx len len (0, uDg u, uTg u, uSn u, uFi u, uSe u, 0, uT u, uG u, uF u, uE u)).1)))), .int (nI ((uDg ((pP tx len len (0, uDg u, uTg u, uSn u, uFi u, uSe u, 0, uT u, uG u, uF u, uE u)).1)))), .int (uTg ((pP tx len len (0, uDg u, uTg u, uSn u, uFi u, uSe u, 0, uT u, uG u, uF u, uE u)).1)), .int (uSn ((pP tx len len (0, uDg u, uTg u, uSn u, uFi u, uSe u, 0, uT u, uG u, uF u, uE u)).1)), .int (uFi ((pP tx len len (0, uDg u, uTg u, uSn u, uFi u, uSe u, 0, uT u, uG u, uF u, uE u)).1)), .int (uSe ((pP tx len len (0, uDg u, uTg u, uSn u, uFi u, uSe u, 0, uT u, uG u, uF u, uE u)).1))])), (p1, .inl (g.2.1 0, 100, .inl tx)), (p2, .inl (g.2.1 0, 25, .inl (uT ((pP tx len len (0, uDg u, uTg u, uSn u, uFi u, uSe u, 0, uT u, uG u, uF u, uE u)).1)))), (p3, .inl (g.2.1 0, 25, .inl (uG ((pP tx len len (0, uDg u, uTg u, uSn u, uFi u, uSe u, 0, uT u, uG u, uF u, uE u)).1)))), (p4, .inl (g.2.1 0, 25, .inl (uF ((pP tx len len (0, uDg u, uTg u, uSn u, uFi u, uSe u, 0, uT u, uG u, uF u, uE u)).1)))), (p5, .inl (g.2.1 0, 25, .inl (uE ((pP tx len len (0, uDg u, uTg u, uSn u, uFi u, uSe u, 0, uT u, uG u, uF u, uE u)).1))))] H := by rw [e8]; exact hP
          exact W.iret (v := (-1)) hx hb hr (fun t ht hW => ⟨⟨(-1), (), rfl, by rw [e8]; first | exact (if_pos n59).symm | exact (if_neg n59).symm, by show va_P g.1 vwCl _ t.heap; rw [ht]; exact hP9⟩, hS.F ht⟩) hS.2.2 dX1_parse_70
      · have n17 : at_ < len := Nat.lt_of_not_le (fun h9 => c17 ((nI_leI (a := len) (b := at_) (by omega) (by omega)).mpr h9))
        have hn17 : at_ < len := n17
        refine lv_aload_n hx hb dX1_parse_20 rfl (lv_at hl 1 rfl) ?_
        refine va_get (D := g.1) (ci := 1) (v := .int (nI ((uPl u_)))) (C := RX1) (T := TX1) (N := 13) hx hb hts in_X1_parse_X1 hown hK hP 0 rfl rfl 7 (by decide) (hts _ (List.mem_of_getElem? (i := 2) rfl)) (fun _ h9 => h9) rfl dX1_parse_21 ?_
        refine lv_iconst (v := 3) hx hb dX1_parse_24 (by decide) ?_
        refine lv_icmp_ne (tgt := 36) hx hb dX1_parse_25 (by decide) (fun c25 => ?_) (fun c25 => ?_)
        · have n25 : ¬ (uPl u_) = 3 := fun h9 => c25 ((nI_eq (a := (uPl u_)) (b := 3) (by omega) (by omega)).mpr h9)
          refine lv_aload_n hx hb dX1_parse_36 rfl (lv_at hl 1 rfl) ?_
          refine lv_iload_n hx hb dX1_parse_37 rfl (lv_at hl 0 rfl) ?_
          refine kUi (fun _ => [(p0, .inr (1, [.ref p1, .int (nI len), .ref p2, .ref p3, .ref p4, .ref p5, .int (nI ((uNs ((pRd u_ (tx at_) at_).1)))), .int (nI ((uPl ((pRd u_ (tx at_) at_).1)))), .int (nI ((uDg ((pRd u_ (tx at_) at_).1)))), .int (uTg ((pRd u_ (tx at_) at_).1)), .int (uSn ((pRd u_ (tx at_) at_).1)), .int (uFi ((pRd u_ (tx at_) at_).1)), .int (uSe ((pRd u_ (tx at_) at_).1))])), (p1, .inl (g.2.1 0, 100, .inl tx)), (p2, .inl (g.2.1 0, 25, .inl (uT ((pRd u_ (tx at_) at_).1)))), (p3, .inl (g.2.1 0, 25, .inl (uG ((pRd u_ (tx at_) at_).1)))), (p4, .inl (g.2.1 0, 25, .inl (uF ((pRd u_ (tx at_) at_).1)))), (p5, .inl (g.2.1 0, 25, .inl (uE ((pRd u_ (tx at_) at_).1))))]) (va_runV (As := [.int (nI at_)]) (rest := []) ⟨hx, hb, hml, hown, hts⟩ (c_X1_read l g p0 p1 p2 p3 p4 p5 len tx u_ at_ (by first | assumption | omega | exact Nat.le_of_ble_eq_true rfl) (by first | assumption | omega | exact Nat.le_of_ble_eq_true rfl) (by first | assumption | omega | exact Nat.le_of_ble_eq_true rfl)) (cwV 1 hts gX1_parse_X1_read rfl rfl rfl (by decide +kernel) ⟨(Nat.le_of_ble_eq_true rfl), (Nat.le_of_ble_eq_true rfl)⟩) (preVd (RX1, TX1, 13) hE hP hD [0, 1, 2, 3, 4, 5] (by decide) rfl rfl) rfl rfl hl.1 rfl (lv_room (Nat.le_of_ble_eq_true rfl)) dX1_parse_38 ⟨(Nat.le_of_ble_eq_true rfl), (Nat.le_of_ble_eq_true rfl)⟩) hP hD hS [0, 1, 2, 3, 4, 5] [] 6 [p0, p1, p2, p3, p4, p5] [] rfl rfl rfl (fun _ => rfl) (fun _ => rfl) (fun _ => rfl) rfl (by decide) (fun r9 _ H locs hr9 hP hD hS => ?_)
          subst hr9
          refine lv_istore_n (lv' := [(2, .int ((pRd u_ (tx at_) at_).2)), (1, .int (nI at_)), (0, .ref p0)]) hx hb dX1_parse_41 rfl hl (by decide) rfl (fun ls hl => ?_)
          refine lv_iload_n hx hb dX1_parse_42 rfl (lv_at hl 0 rfl) ?_
          refine lv_iconst (v := -1) hx hb dX1_parse_43 (by decide) ?_
          refine lv_icmp_eq (tgt := 49) hx hb dX1_parse_44 (by decide) (fun c44 => ?_) (fun c44 => ?_)
          · refine lv_iinc (v := (nI (at_ + 1))) (lv' := [(1, .int (nI (at_ + 1))), (2, .int ((pRd u_ (tx at_) at_).2)), (0, .ref p0)]) hx hb dX1_parse_49 hl (k := 1) rfl (nI_add (at_) 1) (by decide) rfl (fun ls hl => ?_)
            refine lv_goto (tgt := 12) hx hb dX1_parse_52 (by decide) ?_
            have e9 : pSt tx at_ u_ = pRd u_ (tx at_) at_ := if_neg n25
            have hb1 := pSt_b tx at_ u_ hpl hdg hns
            rw [e9] at hb1
            exact ih12 (at_ + 1) ((pRd u_ (tx at_) at_).1) (by omega) (by omega) hb1.1 hb1.2.1 hb1.2.2 ((pP_s hn17 e9 c44).symm.trans hres)  _ _ hP hD hS _ (lv_sub hl [0, 2] rfl)
          · refine lv_iload_n hx hb dX1_parse_47 rfl (lv_at hl 0 rfl) ?_
            have e9 : pSt tx at_ u_ = pRd u_ (tx at_) at_ := if_neg n25
            have e8 : pP tx len len (0, uDg u, uTg u, uSn u, uFi u, uSe u, 0, uT u, uG u, uF u, uE u) = pRd u_ (tx at_) at_ := hres.symm.trans (pP_x hn17 e9 c44)
            subst hQ
            have hP9 : va_P g.1 vwCl [(p0, .inr (1, [.ref p1, .int (nI len), .ref p2, .ref p3, .ref p4, .ref p5, .int (nI ((uNs ((pP tx len len (0, uDg u, uTg u, uSn u, uFi u, uSe u, 0, uT u, uG u, uF u, uE u)).1)))), .int (nI ((uPl ((pP tx len len (0, uDg u, uTg u, uSn u, uFi u, uSe u, 0, uT u, uG u, uF u, uE u)).1)))), .int (nI ((uDg ((pP tx len len (0, uDg u, uTg u, uSn u, uFi u, uSe u, 0, uT u, uG u, uF u, uE u)).1)))), .int (uTg ((pP tx len len (0, uDg u, uTg u, uSn u, uFi u, uSe u, 0, uT u, uG u, uF u, uE u)).1)), .int (uSn ((pP tx len len (0, uDg u, uTg u, uSn u, uFi u, uSe u, 0, uT u, uG u, uF u, uE u)).1)), .int (uFi ((pP tx len len (0, uDg u, uTg u, uSn u, uFi u, uSe u, 0, uT u, uG u, uF u, uE u)).1)), .int (uSe ((pP tx len len (0, uDg u, uTg u, uSn u, uFi u, uSe u, 0, uT u, uG u, uF u, uE u)).1))])), (p1, .inl (g.2.1 0, 100, .inl tx)), (p2, .inl (g.2.1 0, 25, .inl (uT ((pP tx len len (0, uDg u, uTg u, uSn u, uFi u, uSe u, 0, uT u, uG u, uF u, uE u)).1)))), (p3, .inl (g.2.1 0, 25, .inl (uG ((pP tx len len (0, uDg u, uTg u, uSn u, uFi u, uSe u, 0, uT u, uG u, uF u, uE u)).1)))), (p4, .inl (g.2.1 0, 25, .inl (uF ((pP tx len len (0, uDg u, uTg u, uSn u, uFi u, uSe u, 0, uT u, uG u, uF u, uE u)).1)))), (p5, .inl (g.2.1 0, 25, .inl (uE ((pP tx len len (0, uDg u, uTg u, uSn u, uFi u, uSe u, 0, uT u, uG u, uF u, uE u)).1))))] H := by rw [e8]; exact hP
            exact W.iret (v := ((pRd u_ (tx at_) at_).2)) hx hb hr (fun t ht hW => ⟨⟨((pRd u_ (tx at_) at_).2), (), rfl, by rw [e8], by show va_P g.1 vwCl _ t.heap; rw [ht]; exact hP9⟩, hS.F ht⟩) hS.2.2 dX1_parse_48
        · have n25 : (uPl u_) = 3 := (nI_eq (a := (uPl u_)) (b := 3) (by omega) (by omega)).mp c25
          refine lv_aload_n hx hb dX1_parse_28 rfl (lv_at hl 1 rfl) ?_
          refine lv_iload_n hx hb dX1_parse_29 rfl (lv_at hl 0 rfl) ?_
          refine kUi (fun _ => [(p0, .inr (1, [.ref p1, .int (nI len), .ref p2, .ref p3, .ref p4, .ref p5, .int (nI ((uNs ((pRN u_ (tx at_) at_).1)))), .int (nI ((uPl ((pRN u_ (tx at_) at_).1)))), .int (nI ((uDg ((pRN u_ (tx at_) at_).1)))), .int (uTg ((pRN u_ (tx at_) at_).1)), .int (uSn ((pRN u_ (tx at_) at_).1)), .int (uFi ((pRN u_ (tx at_) at_).1)), .int (uSe ((pRN u_ (tx at_) at_).1))])), (p1, .inl (g.2.1 0, 100, .inl tx)), (p2, .inl (g.2.1 0, 25, .inl (uT ((pRN u_ (tx at_) at_).1)))), (p3, .inl (g.2.1 0, 25, .inl (uG ((pRN u_ (tx at_) at_).1)))), (p4, .inl (g.2.1 0, 25, .inl (uF ((pRN u_ (tx at_) at_).1)))), (p5, .inl (g.2.1 0, 25, .inl (uE ((pRN u_ (tx at_) at_).1))))]) (va_runV (As := [.int (nI at_)]) (rest := []) ⟨hx, hb, hml, hown, hts⟩ (c_X1_readInNumber l g p0 p1 p2 p3 p4 p5 len tx u_ at_ (by first | assumption | omega | exact Nat.le_of_ble_eq_true rfl) (by first | assumption | omega | exact Nat.le_of_ble_eq_true rfl) (by first | assumption | omega | exact Nat.le_of_ble_eq_true rfl)) (cwV 1 hts gX1_parse_X1_readInNumber rfl rfl rfl (by decide +kernel) ⟨(Nat.le_of_ble_eq_true rfl), (Nat.le_of_ble_eq_true rfl)⟩) (preVd (RX1, TX1, 13) hE hP hD [0, 1, 2, 3, 4, 5] (by decide) rfl rfl) rfl rfl hl.1 rfl (lv_room (Nat.le_of_ble_eq_true rfl)) dX1_parse_30 ⟨(Nat.le_of_ble_eq_true rfl), (Nat.le_of_ble_eq_true rfl)⟩) hP hD hS [0, 1, 2, 3, 4, 5] [] 6 [p0, p1, p2, p3, p4, p5] [] rfl rfl rfl (fun _ => rfl) (fun _ => rfl) (fun _ => rfl) rfl (by decide) (fun r9 _ H locs hr9 hP hD hS => ?_)
          subst hr9
          refine lv_goto (tgt := 41) hx hb dX1_parse_33 (by decide) ?_
          refine lv_istore_n (lv' := [(2, .int ((pRN u_ (tx at_) at_).2)), (1, .int (nI at_)), (0, .ref p0)]) hx hb dX1_parse_41 rfl hl (by decide) rfl (fun ls hl => ?_)
          refine lv_iload_n hx hb dX1_parse_42 rfl (lv_at hl 0 rfl) ?_
          refine lv_iconst (v := -1) hx hb dX1_parse_43 (by decide) ?_
          refine lv_icmp_eq (tgt := 49) hx hb dX1_parse_44 (by decide) (fun c44 => ?_) (fun c44 => ?_)
          · refine lv_iinc (v := (nI (at_ + 1))) (lv' := [(1, .int (nI (at_ + 1))), (2, .int ((pRN u_ (tx at_) at_).2)), (0, .ref p0)]) hx hb dX1_parse_49 hl (k := 1) rfl (nI_add (at_) 1) (by decide) rfl (fun ls hl => ?_)
            refine lv_goto (tgt := 12) hx hb dX1_parse_52 (by decide) ?_
            have e9 : pSt tx at_ u_ = pRN u_ (tx at_) at_ := if_pos n25
            have hb1 := pSt_b tx at_ u_ hpl hdg hns
            rw [e9] at hb1
            exact ih12 (at_ + 1) ((pRN u_ (tx at_) at_).1) (by omega) (by omega) hb1.1 hb1.2.1 hb1.2.2 ((pP_s hn17 e9 c44).symm.trans hres)  _ _ hP hD hS _ (lv_sub hl [0, 2] rfl)
          · refine lv_iload_n hx hb dX1_parse_47 rfl (lv_at hl 0 rfl) ?_
            have e9 : pSt tx at_ u_ = pRN u_ (tx at_) at_ := if_pos n25
            have e8 : pP tx len len (0, uDg u, uTg u, uSn u, uFi u, uSe u, 0, uT u, uG u, uF u, uE u) = pRN u_ (tx at_) at_ := hres.symm.trans (pP_x hn17 e9 c44)
            subst hQ
            have hP9 : va_P g.1 vwCl [(p0, .inr (1, [.ref p1, .int (nI len), .ref p2, .ref p3, .ref p4, .ref p5, .int (nI ((uNs ((pP tx len len (0, uDg u, uTg u, uSn u, uFi u, uSe u, 0, uT u, uG u, uF u, uE u)).1)))), .int (nI ((uPl ((pP tx len len (0, uDg u, uTg u, uSn u, uFi u, uSe u, 0, uT u, uG u, uF u, uE u)).1)))), .int (nI ((uDg ((pP tx len len (0, uDg u, uTg u, uSn u, uFi u, uSe u, 0, uT u, uG u, uF u, uE u)).1)))), .int (uTg ((pP tx len len (0, uDg u, uTg u, uSn u, uFi u, uSe u, 0, uT u, uG u, uF u, uE u)).1)), .int (uSn ((pP tx len len (0, uDg u, uTg u, uSn u, uFi u, uSe u, 0, uT u, uG u, uF u, uE u)).1)), .int (uFi ((pP tx len len (0, uDg u, uTg u, uSn u, uFi u, uSe u, 0, uT u, uG u, uF u, uE u)).1)), .int (uSe ((pP tx len len (0, uDg u, uTg u, uSn u, uFi u, uSe u, 0, uT u, uG u, uF u, uE u)).1))])), (p1, .inl (g.2.1 0, 100, .inl tx)), (p2, .inl (g.2.1 0, 25, .inl (uT ((pP tx len len (0, uDg u, uTg u, uSn u, uFi u, uSe u, 0, uT u, uG u, uF u, uE u)).1)))), (p3, .inl (g.2.1 0, 25, .inl (uG ((pP tx len len (0, uDg u, uTg u, uSn u, uFi u, uSe u, 0, uT u, uG u, uF u, uE u)).1)))), (p4, .inl (g.2.1 0, 25, .inl (uF ((pP tx len len (0, uDg u, uTg u, uSn u, uFi u, uSe u, 0, uT u, uG u, uF u, uE u)).1)))), (p5, .inl (g.2.1 0, 25, .inl (uE ((pP tx len len (0, uDg u, uTg u, uSn u, uFi u, uSe u, 0, uT u, uG u, uF u, uE u)).1))))] H := by rw [e8]; exact hP
            exact W.iret (v := ((pRN u_ (tx at_) at_).2)) hx hb hr (fun t ht hW => ⟨⟨((pRN u_ (tx at_) at_).2), (), rfl, by rw [e8], by show va_P g.1 vwCl _ t.heap; rw [ht]; exact hP9⟩, hS.F ht⟩) hS.2.2 dX1_parse_48
  exact lp12 ((len - 0) + 1) 0 (0, uDg u, uTg u, uSn u, uFi u, uSe u, 0, uT u, uG u, uF u, uE u) (Nat.lt_succ_self _) (by omega) (Nat.zero_le _) hdg (Nat.zero_le _) rfl  _ _ hP hD hS _ (lv_sub hl [0, 1] rfl)
