/-! MODEL, checks, text, digest: printed by wip/whole/gen/spec_model4.py -/
theorem in_X4_countWrong_X4 : ∀ w ∈ wsX40, w ∈ wsX4_countWrong := by decide +kernel
abbrev rm_X4_countWrong : Room := { frames := 2, cells := 0, slots := 0, locals := 40 }
set_option maxRecDepth 100000 in
set_option maxHeartbeats 4000000 in
theorem c_X4_countWrong (l : Launch) (g : GT) (m0 : Nat) (m1 : Nat) (m2 : Nat) (m3 : Nat) (m4 : Nat) (m5 : Nat) (ma : Int64) (np : Nat) (ln : Nat) (th : Int32) (at_ : Nat) (hs : Int64) (rw : Nat → Int32) (w : Nat) (rd : Nat → Int32) (hw8 : w ≤ 8) (hrw : rw 0 = nI w) : cUi l g yX4_countWrong wsX4_countWrong rm_X4_countWrong [.ref m0] [(m0, .inr (4, [.ref m1, .long ma, .ref m2, .ref m3, .int (nI np), .ref m4, .int (nI ln), .int th, .ref m5, .int (nI at_), .long hs])), (m1, .inl (g.2.1 0, 523, .inl rw)), (m5, .inl (g.2.1 0, 511, .inl rd))] (fun r (_ : Unit) => r = ((mcN rw rd w).1)) (fun _ => [(m0, .inr (4, [.ref m1, .long ma, .ref m2, .ref m3, .int (nI np), .ref m4, .int (nI ln), .int th, .ref m5, .int (nI at_), .long hs])), (m1, .inl (g.2.1 0, 523, .inl rw)), (m5, .inl (g.2.1 0, 511, .inl ((mcN rw rd w).2)))]) := by
  refine enU (y := yX4_countWrong) (ws := wsX4_countWrong) (av := [.ref m0]) (cc := cX4_countWrong) (maxL := 5) (ret := (some .int)) (by decide) rfl (Nat.le_of_ble_eq_true rfl) rfl ?_
  intro p e s m below meth c ls hx hb hr hml hown hts hlocks hE hP hD hl
  have hK := hE.1
  have hS : va_S (va_Ad [(m0, .inr (4, [.ref m1, .long ma, .ref m2, .ref m3, .int (nI np), .ref m4, .int (nI ln), .int th, .ref m5, .int (nI at_), .long hs])), (m1, .inl (g.2.1 0, 523, .inl rw)), (m5, .inl (g.2.1 0, 511, .inl rd))]) s.heap s.heap [] := va_S.rf
  generalize hQ : MQ below _ _ s _ _ _ = Q9
  have hl : lv_has ls 5 [(0, .ref m0)] := hl
  have hgr := gr_le w hw8
  have hen := ents_le w hw8
  refine lv_iconst (v := 0) hx hb dX4_countWrong_0 (by decide) ?_
  refine lv_istore_n (lv' := [(1, .int 0), (0, .ref m0)]) hx hb dX4_countWrong_1 rfl hl (by decide) rfl (fun ls hl => ?_)
  have lp2 : ∀ (n9 : Nat) (i : Nat), ents w - i < n9 → (i ≤ ents w) → ∀ (f1 : Nat → Int32), f1 = zeF rd i → ∀ (H : Heap) (locs : List Loc), va_P g.1 vwCl [(m0, .inr (4, [.ref m1, .long ma, .ref m2, .ref m3, .int (nI np), .ref m4, .int (nI ln), .int th, .ref m5, .int (nI at_), .long hs])), (m1, .inl (g.2.1 0, 523, .inl rw)), (m5, .inl (g.2.1 0, 511, .inl f1))] H → va_D (va_Ad [(m0, .inr (4, [.ref m1, .long ma, .ref m2, .ref m3, .int (nI np), .ref m4, .int (nI ln), .int th, .ref m5, .int (nI at_), .long hs])), (m1, .inl (g.2.1 0, 523, .inl rw)), (m5, .inl (g.2.1 0, 511, .inl rd))]) [(m0, .inr (4, [.ref m1, .long ma, .ref m2, .ref m3, .int (nI np), .ref m4, .int (nI ln), .int th, .ref m5, .int (nI at_), .long hs])), (m1, .inl (g.2.1 0, 523, .inl rw)), (m5, .inl (g.2.1 0, 511, .inl f1))] → va_S (va_Ad [(m0, .inr (4, [.ref m1, .long ma, .ref m2, .ref m3, .int (nI np), .ref m4, .int (nI ln), .int th, .ref m5, .int (nI at_), .long hs])), (m1, .inl (g.2.1 0, 523, .inl rw)), (m5, .inl (g.2.1 0, 511, .inl rd))]) s.heap H locs → ∀ (ls : Array Slot), lv_has ls 5 [(1, .int (nI i)), (0, .ref m0)] → W p l e rm_X4_countWrong s m [Value.ref m0].toArray below meth c H locs 0 0 Q9 (F0 m 2 ls []) := by
    intro n9
    induction n9 with
    | zero => intro i h9; exact absurd h9 (Nat.not_lt_zero _)
    | succ n9 ih2 =>
      intro i hm2 hi
      intro f1 e_f1; subst e_f1
      intro H locs hP hD hS ls hl
      refine lv_iload_n hx hb dX4_countWrong_2 rfl (lv_at hl 0 rfl) ?_
      refine lv_aload_n hx hb dX4_countWrong_3 rfl (lv_at hl 1 rfl) ?_
      refine kRi (va_runV (As := []) (rest := [.int (nI i)]) ⟨hx, hb, hml, hown, hts⟩ (c_X4_entries l g m0 m1 m2 m3 m4 m5 ma np ln th at_ hs rw w (by first | assumption | omega | exact Nat.le_of_ble_eq_true rfl) (by first | assumption | omega | exact Nat.le_of_ble_eq_true rfl)) (cwV 0 hts gX4_countWrong_X4_entries rfl rfl rfl (by decide +kernel) ⟨(Nat.le_of_ble_eq_true rfl), (Nat.le_of_ble_eq_true rfl)⟩) (preV (RX4, TX4, 11) hE hP [0, 1] rfl rfl) rfl rfl hl.1 rfl (lv_room (Nat.le_of_ble_eq_true rfl)) dX4_countWrong_4 ⟨(Nat.le_of_ble_eq_true rfl), (Nat.le_of_ble_eq_true rfl)⟩) hP hS (fun r9 H locs hr9 hP hS => ?_)
      subst hr9
      refine lv_icmp_ge (tgt := 23) hx hb dX4_countWrong_7 (by decide) (fun c7 => ?_) (fun c7 => ?_)
      · have n7 : ents w ≤ i := (nI_leI (a := ents w) (b := i) (by omega) (by omega)).mp c7
        have e2 : i = ents w := by omega
        refine lv_iconst (v := 0) hx hb dX4_countWrong_23 (by decide) ?_
        refine lv_istore_n (lv' := [(1, .int 0), (0, .ref m0)]) hx hb dX4_countWrong_24 rfl hl (by decide) rfl (fun ls hl => ?_)
        refine lv_iconst (v := 0) hx hb dX4_countWrong_25 (by decide) ?_
        refine lv_istore_n (lv' := [(2, .int 0), (1, .int 0), (0, .ref m0)]) hx hb dX4_countWrong_26 rfl hl (by decide) rfl (fun ls hl => ?_)
        have lp27 : ∀ (n9 : Nat) (a : Nat), gr w + 1 - a < n9 → (a ≤ gr w + 1) → ∀ (z1 : Int32), z1 = (mcA rw (gr w) a (0, zeF rd (ents w))).1 → ∀ (f9 : Nat → Int32), f9 = (mcA rw (gr w) a (0, zeF rd (ents w))).2 → ∀ (H : Heap) (locs : List Loc), va_P g.1 vwCl [(m0, .inr (4, [.ref m1, .long ma, .ref m2, .ref m3, .int (nI np), .ref m4, .int (nI ln), .int th, .ref m5, .int (nI at_), .long hs])), (m1, .inl (g.2.1 0, 523, .inl rw)), (m5, .inl (g.2.1 0, 511, .inl f9))] H → va_D (va_Ad [(m0, .inr (4, [.ref m1, .long ma, .ref m2, .ref m3, .int (nI np), .ref m4, .int (nI ln), .int th, .ref m5, .int (nI at_), .long hs])), (m1, .inl (g.2.1 0, 523, .inl rw)), (m5, .inl (g.2.1 0, 511, .inl rd))]) [(m0, .inr (4, [.ref m1, .long ma, .ref m2, .ref m3, .int (nI np), .ref m4, .int (nI ln), .int th, .ref m5, .int (nI at_), .long hs])), (m1, .inl (g.2.1 0, 523, .inl rw)), (m5, .inl (g.2.1 0, 511, .inl f9))] → va_S (va_Ad [(m0, .inr (4, [.ref m1, .long ma, .ref m2, .ref m3, .int (nI np), .ref m4, .int (nI ln), .int th, .ref m5, .int (nI at_), .long hs])), (m1, .inl (g.2.1 0, 523, .inl rw)), (m5, .inl (g.2.1 0, 511, .inl rd))]) s.heap H locs → ∀ (ls : Array Slot), lv_has ls 5 [(2, .int (nI a)), (1, .int z1), (0, .ref m0)] → W p l e rm_X4_countWrong s m [Value.ref m0].toArray below meth c H locs 0 0 Q9 (F0 m 27 ls []) := by
          intro n9
          induction n9 with
          | zero => intro a h9; exact absurd h9 (Nat.not_lt_zero _)
          | succ n9 ih27 =>
            intro a hm27 ha
            intro z1 e_z1; subst e_z1
            intro f9 e_f9; subst e_f9
            intro H locs hP hD hS ls hl
            refine lv_iload_n hx hb dX4_countWrong_27 rfl (lv_at hl 0 rfl) ?_
            refine lv_aload_n hx hb dX4_countWrong_28 rfl (lv_at hl 2 rfl) ?_
            refine kRi (va_runV (As := []) (rest := [.int (nI a)]) ⟨hx, hb, hml, hown, hts⟩ (c_X4_top l g m0 m1 m2 m3 m4 m5 ma np ln th at_ hs rw w (by first | assumption | omega | exact Nat.le_of_ble_eq_true rfl) (by first | assumption | omega | exact Nat.le_of_ble_eq_true rfl)) (cwV 0 hts gX4_countWrong_X4_top rfl rfl rfl (by decide +kernel) ⟨(Nat.le_of_ble_eq_true rfl), (Nat.le_of_ble_eq_true rfl)⟩) (preV (RX4, TX4, 11) hE hP [0, 1] rfl rfl) rfl rfl hl.1 rfl (lv_room (Nat.le_of_ble_eq_true rfl)) dX4_countWrong_29 ⟨(Nat.le_of_ble_eq_true rfl), (Nat.le_of_ble_eq_true rfl)⟩) hP hS (fun r9 H locs hr9 hP hS => ?_)
            subst hr9
            refine lv_icmp_gt (tgt := 123) hx hb dX4_countWrong_32 (by decide) (fun c32 => ?_) (fun c32 => ?_)
            · have n32 : gr w < a := (nI_ltI (a := gr w) (b := a) (by omega) (by omega)).mp c32
              have e27 : a = gr w + 1 := by omega
              refine lv_iload_n hx hb dX4_countWrong_123 rfl (lv_at hl 1 rfl) ?_
              subst hQ
              have hP9 : va_P g.1 vwCl [(m0, .inr (4, [.ref m1, .long ma, .ref m2, .ref m3, .int (nI np), .ref m4, .int (nI ln), .int th, .ref m5, .int (nI at_), .long hs])), (m1, .inl (g.2.1 0, 523, .inl rw)), (m5, .inl (g.2.1 0, 511, .inl ((mcN rw rd w).2)))] H := by rw [e27] at hP; exact hP
              exact W.iret (v := ((mcA rw (gr w) a (0, zeF rd (ents w))).1)) hx hb hr (fun t ht hW => ⟨⟨((mcA rw (gr w) a (0, zeF rd (ents w))).1), (), rfl, by rw [e27]; rfl, by show va_P g.1 vwCl _ t.heap; rw [ht]; exact hP9⟩, hS.F ht⟩) hS.2.2 dX4_countWrong_124
            · have n32 : a ≤ gr w := Nat.le_of_not_lt (fun h9 => c32 ((nI_ltI (a := gr w) (b := a) (by omega) (by omega)).mpr h9))
              refine lv_iconst (v := 0) hx hb dX4_countWrong_35 (by decide) ?_
              refine lv_istore_n (lv' := [(3, .int 0), (2, .int (nI a)), (1, .int ((mcA rw (gr w) a (0, zeF rd (ents w))).1)), (0, .ref m0)]) hx hb dX4_countWrong_36 rfl hl (by decide) rfl (fun ls hl => ?_)
              have lp37 : ∀ (n9 : Nat) (b : Nat), gr w + 1 - b < n9 → (b ≤ gr w + 1) → ∀ (y1 : Int32), y1 = (mcR rw a b (mcA rw (gr w) a (0, zeF rd (ents w)))).1 → ∀ (f7 : Nat → Int32), f7 = (mcR rw a b (mcA rw (gr w) a (0, zeF rd (ents w)))).2 → ∀ (H : Heap) (locs : List Loc), va_P g.1 vwCl [(m0, .inr (4, [.ref m1, .long ma, .ref m2, .ref m3, .int (nI np), .ref m4, .int (nI ln), .int th, .ref m5, .int (nI at_), .long hs])), (m1, .inl (g.2.1 0, 523, .inl rw)), (m5, .inl (g.2.1 0, 511, .inl f7))] H → va_D (va_Ad [(m0, .inr (4, [.ref m1, .long ma, .ref m2, .ref m3, .int (nI np), .ref m4, .int (nI ln), .int th, .ref m5, .int (nI at_), .long hs])), (m1, .inl (g.2.1 0, 523, .inl rw)), (m5, .inl (g.2.1 0, 511, .inl rd))]) [(m0, .inr (4, [.ref m1, .long ma, .ref m2, .ref m3, .int (nI np), .ref m4, .int (nI ln), .int th, .ref m5, .int (nI at_), .long hs])), (m1, .inl (g.2.1 0, 523, .inl rw)), (m5, .inl (g.2.1 0, 511, .inl f7))] → va_S (va_Ad [(m0, .inr (4, [.ref m1, .long ma, .ref m2, .ref m3, .int (nI np), .ref m4, .int (nI ln), .int th, .ref m5, .int (nI at_), .long hs])), (m1, .inl (g.2.1 0, 523, .inl rw)), (m5, .inl (g.2.1 0, 511, .inl rd))]) s.heap H locs → ∀ (ls : Array Slot), lv_has ls 5 [(3, .int (nI b)), (2, .int (nI a)), (1, .int y1), (0, .ref m0)] → W p l e rm_X4_countWrong s m [Value.ref m0].toArray below meth c H locs 0 0 Q9 (F0 m 37 ls []) := by
                intro n9
                induction n9 with
                | zero => intro b h9; exact absurd h9 (Nat.not_lt_zero _)
                | succ n9 ih37 =>
                  intro b hm37 hb9
                  intro y1 e_y1; subst e_y1
                  intro f7 e_f7; subst e_f7
                  intro H locs hP hD hS ls hl
                  refine lv_iload_n hx hb dX4_countWrong_37 rfl (lv_at hl 0 rfl) ?_
                  refine lv_aload_n hx hb dX4_countWrong_38 rfl (lv_at hl 3 rfl) ?_
                  refine kRi (va_runV (As := []) (rest := [.int (nI b)]) ⟨hx, hb, hml, hown, hts⟩ (c_X4_top l g m0 m1 m2 m3 m4 m5 ma np ln th at_ hs rw w (by first | assumption | omega | exact Nat.le_of_ble_eq_true rfl) (by first | assumption | omega | exact Nat.le_of_ble_eq_true rfl)) (cwV 0 hts gX4_countWrong_X4_top rfl rfl rfl (by decide +kernel) ⟨(Nat.le_of_ble_eq_true rfl), (Nat.le_of_ble_eq_true rfl)⟩) (preV (RX4, TX4, 11) hE hP [0, 1] rfl rfl) rfl rfl hl.1 rfl (lv_room (Nat.le_of_ble_eq_true rfl)) dX4_countWrong_39 ⟨(Nat.le_of_ble_eq_true rfl), (Nat.le_of_ble_eq_true rfl)⟩) hP hS (fun r9 H locs hr9 hP hS => ?_)
                  subst hr9
                  refine lv_icmp_gt (tgt := 117) hx hb dX4_countWrong_42 (by decide) (fun c42 => ?_) (fun c42 => ?_)
                  · have n42 : gr w < b := (nI_ltI (a := gr w) (b := b) (by omega) (by omega)).mp c42
                    have e37 : b = gr w + 1 := by omega
                    refine lv_iinc (v := (nI (a + 1))) (lv' := [(2, .int (nI (a + 1))), (3, .int (nI b)), (1, .int ((mcR rw a b (mcA rw (gr w) a (0, zeF rd (ents w)))).1)), (0, .ref m0)]) hx hb dX4_countWrong_117 hl (k := 1) rfl (nI_add (a) 1) (by decide) rfl (fun ls hl => ?_)
                    refine lv_goto (tgt := 27) hx hb dX4_countWrong_120 (by decide) ?_
                    exact ih27 (a + 1) (by omega) (by omega) ((mcR rw a b (mcA rw (gr w) a (0, zeF rd (ents w)))).1) (by rw [e37]; rfl) ((mcR rw a b (mcA rw (gr w) a (0, zeF rd (ents w)))).2) (by rw [e37]; rfl) _ _ hP hD hS _ (lv_sub hl [0, 2, 3] rfl)
                  · have n42 : b ≤ gr w := Nat.le_of_not_lt (fun h9 => c42 ((nI_ltI (a := gr w) (b := b) (by omega) (by omega)).mpr h9))
                    refine lv_aload_n hx hb dX4_countWrong_45 rfl (lv_at hl 3 rfl) ?_
                    refine lv_iload_n hx hb dX4_countWrong_46 rfl (lv_at hl 1 rfl) ?_
                    refine lv_iload_n hx hb dX4_countWrong_47 rfl (lv_at hl 0 rfl) ?_
                    refine kRi (va_runV (As := [.int (nI a), .int (nI b)]) (rest := []) ⟨hx, hb, hml, hown, hts⟩ (c_X4_byTable l g m0 m1 m2 m3 m4 m5 ma np ln th at_ hs rw w a b (by first | assumption | omega | exact Nat.le_of_ble_eq_true rfl) (by first | assumption | omega | exact Nat.le_of_ble_eq_true rfl)) (cwV 2 hts gX4_countWrong_X4_byTable rfl rfl rfl (by decide +kernel) ⟨(Nat.le_of_ble_eq_true rfl), (Nat.le_of_ble_eq_true rfl)⟩) (preV (RX4, TX4, 11) hE hP [0, 1] rfl rfl) rfl rfl hl.1 rfl (lv_room (Nat.le_of_ble_eq_true rfl)) dX4_countWrong_48 ⟨(Nat.le_of_ble_eq_true rfl), (Nat.le_of_ble_eq_true rfl)⟩) hP hS (fun r9 H locs hr9 hP hS => ?_)
                    subst hr9
                    refine lv_iload_n hx hb dX4_countWrong_51 rfl (lv_at hl 1 rfl) ?_
                    refine lv_iload_n hx hb dX4_countWrong_52 rfl (lv_at hl 0 rfl) ?_
                    refine lv_imul hx hb dX4_countWrong_53 ?_
                    refine lv_tope (y := (nI (a * b))) (show ((nI a) * (nI b) : Int32) = nI (a * b) from pk_mul (a) (b)) ?_
                    refine lv_icmp_eq (tgt := 111) hx hb dX4_countWrong_54 (by decide) (fun c54 => ?_) (fun c54 => ?_)
                    · refine lv_iinc (v := (nI (b + 1))) (lv' := [(3, .int (nI (b + 1))), (2, .int (nI a)), (1, .int ((mcR rw a b (mcA rw (gr w) a (0, zeF rd (ents w)))).1)), (0, .ref m0)]) hx hb dX4_countWrong_111 hl (k := 0) rfl (nI_add (b) 1) (by decide) rfl (fun ls hl => ?_)
                      refine lv_goto (tgt := 37) hx hb dX4_countWrong_114 (by decide) ?_
                      exact ih37 (b + 1) (by omega) (by omega) ((mcR rw a b (mcA rw (gr w) a (0, zeF rd (ents w)))).1) (by first | (show _ = (mcT rw a b _).1; rw [mcT, if_pos c54]) | (show _ = (mcT rw a b _).1; rw [mcT, if_neg c54])) ((mcR rw a b (mcA rw (gr w) a (0, zeF rd (ents w)))).2) (by first | (show _ = (mcT rw a b _).2; rw [mcT, if_pos c54]) | (show _ = (mcT rw a b _).2; rw [mcT, if_neg c54, if_pos n98]) | (show _ = (mcT rw a b _).2; rw [mcT, if_neg c54, if_neg n98])) _ _ hP hD hS _ (lv_sub hl [0, 1, 2, 3] rfl)
                    · refine lv_iload_n hx hb dX4_countWrong_57 rfl (lv_at hl 1 rfl) ?_
                      refine lv_iload_n hx hb dX4_countWrong_58 rfl (lv_at hl 0 rfl) ?_
                      refine lv_icmp_le (tgt := 68) hx hb dX4_countWrong_59 (by decide) (fun c59 => ?_) (fun c59 => ?_)
                      · have n59 : a ≤ b := (nI_leI (a := a) (b := b) (by omega) (by omega)).mp c59
                        refine lv_iload_n hx hb dX4_countWrong_68 rfl (lv_at hl 0 rfl) ?_
                        refine lv_iload_n hx hb dX4_countWrong_69 rfl (lv_at hl 1 rfl) ?_
                        refine lv_isub hx hb dX4_countWrong_70 ?_
                        refine lv_tope (y := (nI (ad a b))) (ad_ng n59) ?_
                        refine lv_istore (lv' := [(4, .int (nI (ad a b))), (3, .int (nI b)), (2, .int (nI a)), (1, .int ((mcR rw a b (mcA rw (gr w) a (0, zeF rd (ents w)))).1)), (0, .ref m0)]) hx hb dX4_countWrong_71 hl (by decide) rfl (fun ls hl => ?_)
                        have had9 := ad_le (a := a) (b := b) (by omega) (by omega)
                        refine lv_aload_n hx hb dX4_countWrong_73 rfl (lv_at hl 4 rfl) ?_
                        refine va_get (D := g.1) (ci := 4) (v := .ref m5) (C := RX4) (T := TX4) (N := 11) hx hb hts in_X4_countWrong_X4 hown hK hP 0 rfl rfl 8 (by decide) (hts _ (List.mem_of_getElem? (i := 1) rfl)) (fun _ h9 => h9) rfl dX4_countWrong_74 ?_
                        refine lv_iload_n hx hb dX4_countWrong_77 rfl (lv_at hl 2 rfl) ?_
                        refine lv_iload_n hx hb dX4_countWrong_78 rfl (lv_at hl 1 rfl) ?_
                        refine lv_iadd hx hb dX4_countWrong_79 ?_
                        refine lv_tope (y := (nI (a + b))) (show ((nI a) + (nI b) : Int32) = nI (a + b) from nI_add (a) (b)) ?_
                        refine lv_dup2_11 hx hb dX4_countWrong_80 rfl rfl ?_
                        refine gIald (k := (a + b)) hx hb hE hP 2 rfl (by omega) (by omega) dX4_countWrong_81 ?_
                        refine lv_iconst (v := 1) hx hb dX4_countWrong_82 (by decide) ?_
                        refine lv_iadd hx hb dX4_countWrong_83 ?_
                        refine gIast (k := (a + b)) (x := ((((mcR rw a b (mcA rw (gr w) a (0, zeF rd (ents w)))).2) (a + b)) + 1)) (wsn := [(m0, .inr (4, [.ref m1, .long ma, .ref m2, .ref m3, .int (nI np), .ref m4, .int (nI ln), .int th, .ref m5, .int (nI at_), .long hs])), (m1, .inl (g.2.1 0, 523, .inl rw)), (m5, .inl (g.2.1 0, 511, .inl (upd ((mcR rw a b (mcA rw (gr w) a (0, zeF rd (ents w)))).2) (a + b) ((((mcR rw a b (mcA rw (gr w) a (0, zeF rd (ents w)))).2) (a + b)) + 1))))]) hx hb hE hP hD hS 2 rfl (by omega) (by omega) dX4_countWrong_84 (hw := rfl) (kk := fun H locs hP hD hS => ?_)
                        refine lv_aload_n hx hb dX4_countWrong_85 rfl (lv_at hl 4 rfl) ?_
                        refine va_get (D := g.1) (ci := 4) (v := .ref m5) (C := RX4) (T := TX4) (N := 11) hx hb hts in_X4_countWrong_X4 hown hK hP 0 rfl rfl 8 (by decide) (hts _ (List.mem_of_getElem? (i := 1) rfl)) (fun _ h9 => h9) rfl dX4_countWrong_86 ?_
                        refine lv_iload hx hb dX4_countWrong_89 (lv_at hl 0 rfl) ?_
                        refine lv_dup2_11 hx hb dX4_countWrong_91 rfl rfl ?_
                        refine gIald (k := (ad a b)) hx hb hE hP 2 rfl (ad_le (by omega) (by omega)) (by omega) dX4_countWrong_92 ?_
                        refine lv_iload hx hb dX4_countWrong_93 (lv_at hl 0 rfl) ?_
                        refine lv_iload_n hx hb dX4_countWrong_95 rfl (lv_at hl 2 rfl) ?_
                        refine lv_iload_n hx hb dX4_countWrong_96 rfl (lv_at hl 1 rfl) ?_
                        refine lv_iadd hx hb dX4_countWrong_97 ?_
                        refine lv_tope (y := (nI (a + b))) (show ((nI a) + (nI b) : Int32) = nI (a + b) from nI_add (a) (b)) ?_
                        refine lv_icmp_ne (tgt := 105) hx hb dX4_countWrong_98 (by decide) (fun c98 => ?_) (fun c98 => ?_)
                        · have n98 : ¬ ad a b = a + b := fun h9 => c98 ((nI_eq (a := ad a b) (b := a + b) (by omega) (by omega)).mpr h9)
                          refine lv_iconst (v := 1) hx hb dX4_countWrong_105 (by decide) ?_
                          refine lv_iadd hx hb dX4_countWrong_106 ?_
                          refine gIast (k := (ad a b)) (x := (((upd ((mcR rw a b (mcA rw (gr w) a (0, zeF rd (ents w)))).2) (a + b) ((((mcR rw a b (mcA rw (gr w) a (0, zeF rd (ents w)))).2) (a + b)) + 1)) (ad a b)) + 1)) (wsn := [(m0, .inr (4, [.ref m1, .long ma, .ref m2, .ref m3, .int (nI np), .ref m4, .int (nI ln), .int th, .ref m5, .int (nI at_), .long hs])), (m1, .inl (g.2.1 0, 523, .inl rw)), (m5, .inl (g.2.1 0, 511, .inl (upd (upd ((mcR rw a b (mcA rw (gr w) a (0, zeF rd (ents w)))).2) (a + b) ((((mcR rw a b (mcA rw (gr w) a (0, zeF rd (ents w)))).2) (a + b)) + 1)) (ad a b) (((upd ((mcR rw a b (mcA rw (gr w) a (0, zeF rd (ents w)))).2) (a + b) ((((mcR rw a b (mcA rw (gr w) a (0, zeF rd (ents w)))).2) (a + b)) + 1)) (ad a b)) + 1))))]) hx hb hE hP hD hS 2 rfl (ad_le (by omega) (by omega)) (by omega) dX4_countWrong_107 (hw := rfl) (kk := fun H locs hP hD hS => ?_)
                          refine lv_iinc (v := ((mcR rw a b (mcA rw (gr w) a (0, zeF rd (ents w)))).1) + 1) (lv' := [(1, .int (((mcR rw a b (mcA rw (gr w) a (0, zeF rd (ents w)))).1) + 1)), (4, .int (nI (ad a b))), (3, .int (nI b)), (2, .int (nI a)), (0, .ref m0)]) hx hb dX4_countWrong_108 hl (k := 3) rfl rfl (by decide) rfl (fun ls hl => ?_)
                          refine lv_iinc (v := (nI (b + 1))) (lv' := [(3, .int (nI (b + 1))), (1, .int (((mcR rw a b (mcA rw (gr w) a (0, zeF rd (ents w)))).1) + 1)), (4, .int (nI (ad a b))), (2, .int (nI a)), (0, .ref m0)]) hx hb dX4_countWrong_111 hl (k := 2) rfl (nI_add (b) 1) (by decide) rfl (fun ls hl => ?_)
                          refine lv_goto (tgt := 37) hx hb dX4_countWrong_114 (by decide) ?_
                          exact ih37 (b + 1) (by omega) (by omega) (((mcR rw a b (mcA rw (gr w) a (0, zeF rd (ents w)))).1) + 1) (by first | (show _ = (mcT rw a b _).1; rw [mcT, if_pos c54]) | (show _ = (mcT rw a b _).1; rw [mcT, if_neg c54])) (upd (upd ((mcR rw a b (mcA rw (gr w) a (0, zeF rd (ents w)))).2) (a + b) ((((mcR rw a b (mcA rw (gr w) a (0, zeF rd (ents w)))).2) (a + b)) + 1)) (ad a b) (((upd ((mcR rw a b (mcA rw (gr w) a (0, zeF rd (ents w)))).2) (a + b) ((((mcR rw a b (mcA rw (gr w) a (0, zeF rd (ents w)))).2) (a + b)) + 1)) (ad a b)) + 1)) (by first | (show _ = (mcT rw a b _).2; rw [mcT, if_pos c54]) | (show _ = (mcT rw a b _).2; rw [mcT, if_neg c54, if_pos n98]) | (show _ = (mcT rw a b _).2; rw [mcT, if_neg c54, if_neg n98])) _ _ hP hD hS _ (lv_sub hl [0, 3, 1, 4] rfl)
                        · have n98 : ad a b = a + b := (nI_eq (a := ad a b) (b := a + b) (by omega) (by omega)).mp c98
                          refine lv_iconst (v := 0) hx hb dX4_countWrong_101 (by decide) ?_
                          refine lv_goto (tgt := 106) hx hb dX4_countWrong_102 (by decide) ?_
                          refine lv_iadd hx hb dX4_countWrong_106 ?_
                          refine gIast (k := (ad a b)) (x := (((upd ((mcR rw a b (mcA rw (gr w) a (0, zeF rd (ents w)))).2) (a + b) ((((mcR rw a b (mcA rw (gr w) a (0, zeF rd (ents w)))).2) (a + b)) + 1)) (ad a b)) + 0)) (wsn := [(m0, .inr (4, [.ref m1, .long ma, .ref m2, .ref m3, .int (nI np), .ref m4, .int (nI ln), .int th, .ref m5, .int (nI at_), .long hs])), (m1, .inl (g.2.1 0, 523, .inl rw)), (m5, .inl (g.2.1 0, 511, .inl (upd (upd ((mcR rw a b (mcA rw (gr w) a (0, zeF rd (ents w)))).2) (a + b) ((((mcR rw a b (mcA rw (gr w) a (0, zeF rd (ents w)))).2) (a + b)) + 1)) (ad a b) (((upd ((mcR rw a b (mcA rw (gr w) a (0, zeF rd (ents w)))).2) (a + b) ((((mcR rw a b (mcA rw (gr w) a (0, zeF rd (ents w)))).2) (a + b)) + 1)) (ad a b)) + 0))))]) hx hb hE hP hD hS 2 rfl (ad_le (by omega) (by omega)) (by omega) dX4_countWrong_107 (hw := rfl) (kk := fun H locs hP hD hS => ?_)
                          refine lv_iinc (v := ((mcR rw a b (mcA rw (gr w) a (0, zeF rd (ents w)))).1) + 1) (lv' := [(1, .int (((mcR rw a b (mcA rw (gr w) a (0, zeF rd (ents w)))).1) + 1)), (4, .int (nI (ad a b))), (3, .int (nI b)), (2, .int (nI a)), (0, .ref m0)]) hx hb dX4_countWrong_108 hl (k := 3) rfl rfl (by decide) rfl (fun ls hl => ?_)
                          refine lv_iinc (v := (nI (b + 1))) (lv' := [(3, .int (nI (b + 1))), (1, .int (((mcR rw a b (mcA rw (gr w) a (0, zeF rd (ents w)))).1) + 1)), (4, .int (nI (ad a b))), (2, .int (nI a)), (0, .ref m0)]) hx hb dX4_countWrong_111 hl (k := 2) rfl (nI_add (b) 1) (by decide) rfl (fun ls hl => ?_)
                          refine lv_goto (tgt := 37) hx hb dX4_countWrong_114 (by decide) ?_
                          exact ih37 (b + 1) (by omega) (by omega) (((mcR rw a b (mcA rw (gr w) a (0, zeF rd (ents w)))).1) + 1) (by first | (show _ = (mcT rw a b _).1; rw [mcT, if_pos c54]) | (show _ = (mcT rw a b _).1; rw [mcT, if_neg c54])) (upd (upd ((mcR rw a b (mcA rw (gr w) a (0, zeF rd (ents w)))).2) (a + b) ((((mcR rw a b (mcA rw (gr w) a (0, zeF rd (ents w)))).2) (a + b)) + 1)) (ad a b) (((upd ((mcR rw a b (mcA rw (gr w) a (0, zeF rd (ents w)))).2) (a + b) ((((mcR rw a b (mcA rw (gr w) a (0, zeF rd (ents w)))).2) (a + b)) + 1)) (ad a b)) + 0)) (by first | (show _ = (mcT rw a b _).2; rw [mcT, if_pos c54]) | (show _ = (mcT rw a b _).2; rw [mcT, if_neg c54, if_pos n98]) | (show _ = (mcT rw a b _).2; rw [mcT, if_neg c54, if_neg n98])) _ _ hP hD hS _ (lv_sub hl [0, 3, 1, 4] rfl)
                      · have n59 : b < a := Nat.lt_of_not_le (fun h9 => c59 ((nI_leI (a := a) (b := b) (by omega) (by omega)).mpr h9))
                        refine lv_iload_n hx hb dX4_countWrong_62 rfl (lv_at hl 1 rfl) ?_
                        refine lv_iload_n hx hb dX4_countWrong_63 rfl (lv_at hl 0 rfl) ?_
                        refine lv_isub hx hb dX4_countWrong_64 ?_
                        refine lv_tope (y := (nI (ad a b))) (ad_gt n59) ?_
                        refine lv_goto (tgt := 71) hx hb dX4_countWrong_65 (by decide) ?_
                        refine lv_istore (lv' := [(4, .int (nI (ad a b))), (3, .int (nI b)), (2, .int (nI a)), (1, .int ((mcR rw a b (mcA rw (gr w) a (0, zeF rd (ents w)))).1)), (0, .ref m0)]) hx hb dX4_countWrong_71 hl (by decide) rfl (fun ls hl => ?_)
                        have had9 := ad_le (a := a) (b := b) (by omega) (by omega)
                        refine lv_aload_n hx hb dX4_countWrong_73 rfl (lv_at hl 4 rfl) ?_
                        refine va_get (D := g.1) (ci := 4) (v := .ref m5) (C := RX4) (T := TX4) (N := 11) hx hb hts in_X4_countWrong_X4 hown hK hP 0 rfl rfl 8 (by decide) (hts _ (List.mem_of_getElem? (i := 1) rfl)) (fun _ h9 => h9) rfl dX4_countWrong_74 ?_
                        refine lv_iload_n hx hb dX4_countWrong_77 rfl (lv_at hl 2 rfl) ?_
                        refine lv_iload_n hx hb dX4_countWrong_78 rfl (lv_at hl 1 rfl) ?_
                        refine lv_iadd hx hb dX4_countWrong_79 ?_
                        refine lv_tope (y := (nI (a + b))) (show ((nI a) + (nI b) : Int32) = nI (a + b) from nI_add (a) (b)) ?_
                        refine lv_dup2_11 hx hb dX4_countWrong_80 rfl rfl ?_
                        refine gIald (k := (a + b)) hx hb hE hP 2 rfl (by omega) (by omega) dX4_countWrong_81 ?_
                        refine lv_iconst (v := 1) hx hb dX4_countWrong_82 (by decide) ?_
                        refine lv_iadd hx hb dX4_countWrong_83 ?_
                        refine gIast (k := (a + b)) (x := ((((mcR rw a b (mcA rw (gr w) a (0, zeF rd (ents w)))).2) (a + b)) + 1)) (wsn := [(m0, .inr (4, [.ref m1, .long ma, .ref m2, .ref m3, .int (nI np), .ref m4, .int (nI ln), .int th, .ref m5, .int (nI at_), .long hs])), (m1, .inl (g.2.1 0, 523, .inl rw)), (m5, .inl (g.2.1 0, 511, .inl (upd ((mcR rw a b (mcA rw (gr w) a (0, zeF rd (ents w)))).2) (a + b) ((((mcR rw a b (mcA rw (gr w) a (0, zeF rd (ents w)))).2) (a + b)) + 1))))]) hx hb hE hP hD hS 2 rfl (by omega) (by omega) dX4_countWrong_84 (hw := rfl) (kk := fun H locs hP hD hS => ?_)
                        refine lv_aload_n hx hb dX4_countWrong_85 rfl (lv_at hl 4 rfl) ?_
                        refine va_get (D := g.1) (ci := 4) (v := .ref m5) (C := RX4) (T := TX4) (N := 11) hx hb hts in_X4_countWrong_X4 hown hK hP 0 rfl rfl 8 (by decide) (hts _ (List.mem_of_getElem? (i := 1) rfl)) (fun _ h9 => h9) rfl dX4_countWrong_86 ?_
                        refine lv_iload hx hb dX4_countWrong_89 (lv_at hl 0 rfl) ?_
                        refine lv_dup2_11 hx hb dX4_countWrong_91 rfl rfl ?_
                        refine gIald (k := (ad a b)) hx hb hE hP 2 rfl (ad_le (by omega) (by omega)) (by omega) dX4_countWrong_92 ?_
                        refine lv_iload hx hb dX4_countWrong_93 (lv_at hl 0 rfl) ?_
                        refine lv_iload_n hx hb dX4_countWrong_95 rfl (lv_at hl 2 rfl) ?_
                        refine lv_iload_n hx hb dX4_countWrong_96 rfl (lv_at hl 1 rfl) ?_
                        refine lv_iadd hx hb dX4_countWrong_97 ?_
                        refine lv_tope (y := (nI (a + b))) (show ((nI a) + (nI b) : Int32) = nI (a + b) from nI_add (a) (b)) ?_
                        refine lv_icmp_ne (tgt := 105) hx hb dX4_countWrong_98 (by decide) (fun c98 => ?_) (fun c98 => ?_)
                        · have n98 : ¬ ad a b = a + b := fun h9 => c98 ((nI_eq (a := ad a b) (b := a + b) (by omega) (by omega)).mpr h9)
                          refine lv_iconst (v := 1) hx hb dX4_countWrong_105 (by decide) ?_
                          refine lv_iadd hx hb dX4_countWrong_106 ?_
                          refine gIast (k := (ad a b)) (x := (((upd ((mcR rw a b (mcA rw (gr w) a (0, zeF rd (ents w)))).2) (a + b) ((((mcR rw a b (mcA rw (gr w) a (0, zeF rd (ents w)))).2) (a + b)) + 1)) (ad a b)) + 1)) (wsn := [(m0, .inr (4, [.ref m1, .long ma, .ref m2, .ref m3, .int (nI np), .ref m4, .int (nI ln), .int th, .ref m5, .int (nI at_), .long hs])), (m1, .inl (g.2.1 0, 523, .inl rw)), (m5, .inl (g.2.1 0, 511, .inl (upd (upd ((mcR rw a b (mcA rw (gr w) a (0, zeF rd (ents w)))).2) (a + b) ((((mcR rw a b (mcA rw (gr w) a (0, zeF rd (ents w)))).2) (a + b)) + 1)) (ad a b) (((upd ((mcR rw a b (mcA rw (gr w) a (0, zeF rd (ents w)))).2) (a + b) ((((mcR rw a b (mcA rw (gr w) a (0, zeF rd (ents w)))).2) (a + b)) + 1)) (ad a b)) + 1))))]) hx hb hE hP hD hS 2 rfl (ad_le (by omega) (by omega)) (by omega) dX4_countWrong_107 (hw := rfl) (kk := fun H locs hP hD hS => ?_)
                          refine lv_iinc (v := ((mcR rw a b (mcA rw (gr w) a (0, zeF rd (ents w)))).1) + 1) (lv' := [(1, .int (((mcR rw a b (mcA rw (gr w) a (0, zeF rd (ents w)))).1) + 1)), (4, .int (nI (ad a b))), (3, .int (nI b)), (2, .int (nI a)), (0, .ref m0)]) hx hb dX4_countWrong_108 hl (k := 3) rfl rfl (by decide) rfl (fun ls hl => ?_)
                          refine lv_iinc (v := (nI (b + 1))) (lv' := [(3, .int (nI (b + 1))), (1, .int (((mcR rw a b (mcA rw (gr w) a (0, zeF rd (ents w)))).1) + 1)), (4, .int (nI (ad a b))), (2, .int (nI a)), (0, .ref m0)]) hx hb dX4_countWrong_111 hl (k := 2) rfl (nI_add (b) 1) (by decide) rfl (fun ls hl => ?_)
                          refine lv_goto (tgt := 37) hx hb dX4_countWrong_114 (by decide) ?_
                          exact ih37 (b + 1) (by omega) (by omega) (((mcR rw a b (mcA rw (gr w) a (0, zeF rd (ents w)))).1) + 1) (by first | (show _ = (mcT rw a b _).1; rw [mcT, if_pos c54]) | (show _ = (mcT rw a b _).1; rw [mcT, if_neg c54])) (upd (upd ((mcR rw a b (mcA rw (gr w) a (0, zeF rd (ents w)))).2) (a + b) ((((mcR rw a b (mcA rw (gr w) a (0, zeF rd (ents w)))).2) (a + b)) + 1)) (ad a b) (((upd ((mcR rw a b (mcA rw (gr w) a (0, zeF rd (ents w)))).2) (a + b) ((((mcR rw a b (mcA rw (gr w) a (0, zeF rd (ents w)))).2) (a + b)) + 1)) (ad a b)) + 1)) (by first | (show _ = (mcT rw a b _).2; rw [mcT, if_pos c54]) | (show _ = (mcT rw a b _).2; rw [mcT, if_neg c54, if_pos n98]) | (show _ = (mcT rw a b _).2; rw [mcT, if_neg c54, if_neg n98])) _ _ hP hD hS _ (lv_sub hl [0, 3, 1, 4] rfl)
                        · have n98 : ad a b = a + b := (nI_eq (a := ad a b) (b := a + b) (by omega) (by omega)).mp c98
                          refine lv_iconst (v := 0) hx hb dX4_countWrong_101 (by decide) ?_
                          refine lv_goto (tgt := 106) hx hb dX4_countWrong_102 (by decide) ?_
                          refine lv_iadd hx hb dX4_countWrong_106 ?_
                          refine gIast (k := (ad a b)) (x := (((upd ((mcR rw a b (mcA rw (gr w) a (0, zeF rd (ents w)))).2) (a + b) ((((mcR rw a b (mcA rw (gr w) a (0, zeF rd (ents w)))).2) (a + b)) + 1)) (ad a b)) + 0)) (wsn := [(m0, .inr (4, [.ref m1, .long ma, .ref m2, .ref m3, .int (nI np), .ref m4, .int (nI ln), .int th, .ref m5, .int (nI at_), .long hs])), (m1, .inl (g.2.1 0, 523, .inl rw)), (m5, .inl (g.2.1 0, 511, .inl (upd (upd ((mcR rw a b (mcA rw (gr w) a (0, zeF rd (ents w)))).2) (a + b) ((((mcR rw a b (mcA rw (gr w) a (0, zeF rd (ents w)))).2) (a + b)) + 1)) (ad a b) (((upd ((mcR rw a b (mcA rw (gr w) a (0, zeF rd (ents w)))).2) (a + b) ((((mcR rw a b (mcA rw (gr w) a (0, zeF rd (ents w)))).2) (a + b)) + 1)) (ad a b)) + 0))))]) hx hb hE hP hD hS 2 rfl (ad_le (by omega) (by omega)) (by omega) dX4_countWrong_107 (hw := rfl) (kk := fun H locs hP hD hS => ?_)
                          refine lv_iinc (v := ((mcR rw a b (mcA rw (gr w) a (0, zeF rd (ents w)))).1) + 1) (lv' := [(1, .int (((mcR rw a b (mcA rw (gr w) a (0, zeF rd (ents w)))).1) + 1)), (4, .int (nI (ad a b))), (3, .int (nI b)), (2, .int (nI a)), (0, .ref m0)]) hx hb dX4_countWrong_108 hl (k := 3) rfl rfl (by decide) rfl (fun ls hl => ?_)
                          refine lv_iinc (v := (nI (b + 1))) (lv' := [(3, .int (nI (b + 1))), (1, .int (((mcR rw a b (mcA rw (gr w) a (0, zeF rd (ents w)))).1) + 1)), (4, .int (nI (ad a b))), (2, .int (nI a)), (0, .ref m0)]) hx hb dX4_countWrong_111 hl (k := 2) rfl (nI_add (b) 1) (by decide) rfl (fun ls hl => ?_)
                          refine lv_goto (tgt := 37) hx hb dX4_countWrong_114 (by decide) ?_
                          exact ih37 (b + 1) (by omega) (by omega) (((mcR rw a b (mcA rw (gr w) a (0, zeF rd (ents w)))).1) + 1) (by first | (show _ = (mcT rw a b _).1; rw [mcT, if_pos c54]) | (show _ = (mcT rw a b _).1; rw [mcT, if_neg c54])) (upd (upd ((mcR rw a b (mcA rw (gr w) a (0, zeF rd (ents w)))).2) (a + b) ((((mcR rw a b (mcA rw (gr w) a (0, zeF rd (ents w)))).2) (a + b)) + 1)) (ad a b) (((upd ((mcR rw a b (mcA rw (gr w) a (0, zeF rd (ents w)))).2) (a + b) ((((mcR rw a b (mcA rw (gr w) a (0, zeF rd (ents w)))).2) (a + b)) + 1)) (ad a b)) + 0)) (by first | (show _ = (mcT rw a b _).2; rw [mcT, if_pos c54]) | (show _ = (mcT rw a b _).2; rw [mcT, if_neg c54, if_pos n98]) | (show _ = (mcT rw a b _).2; rw [mcT, if_neg c54, if_neg n98])) _ _ hP hD hS _ (lv_sub hl [0, 3, 1, 4] rfl)
              exact lp37 ((gr w + 1 - 0) + 1) 0 (Nat.lt_succ_self _) (by omega) ((mcA rw (gr w) a (0, zeF rd (ents w))).1) rfl ((mcA rw (gr w) a (0, zeF rd (ents w))).2) rfl _ _ hP hD hS _ (lv_sub hl [0, 1, 2, 3] rfl)
        exact lp27 ((gr w + 1 - 0) + 1) 0 (Nat.lt_succ_self _) (by omega) 0 rfl (zeF rd i) (by rw [e2]; rfl) _ _ hP hD hS _ (lv_sub hl [0, 1, 2] rfl)
      · have n7 : i < ents w := Nat.lt_of_not_le (fun h9 => c7 ((nI_leI (a := ents w) (b := i) (by omega) (by omega)).mpr h9))
        refine lv_aload_n hx hb dX4_countWrong_10 rfl (lv_at hl 1 rfl) ?_
        refine va_get (D := g.1) (ci := 4) (v := .ref m5) (C := RX4) (T := TX4) (N := 11) hx hb hts in_X4_countWrong_X4 hown hK hP 0 rfl rfl 8 (by decide) (hts _ (List.mem_of_getElem? (i := 1) rfl)) (fun _ h9 => h9) rfl dX4_countWrong_11 ?_
        refine lv_iload_n hx hb dX4_countWrong_14 rfl (lv_at hl 0 rfl) ?_
        refine lv_iconst (v := 0) hx hb dX4_countWrong_15 (by decide) ?_
        refine gIast (k := i) (x := 0) (wsn := [(m0, .inr (4, [.ref m1, .long ma, .ref m2, .ref m3, .int (nI np), .ref m4, .int (nI ln), .int th, .ref m5, .int (nI at_), .long hs])), (m1, .inl (g.2.1 0, 523, .inl rw)), (m5, .inl (g.2.1 0, 511, .inl (upd (zeF rd i) i 0)))]) hx hb hE hP hD hS 2 rfl (by omega) (by omega) dX4_countWrong_16 (hw := rfl) (kk := fun H locs hP hD hS => ?_)
        refine lv_iinc (v := (nI (i + 1))) (lv' := [(1, .int (nI (i + 1))), (0, .ref m0)]) hx hb dX4_countWrong_17 hl (k := 0) rfl (nI_add (i) 1) (by decide) rfl (fun ls hl => ?_)
        refine lv_goto (tgt := 2) hx hb dX4_countWrong_20 (by decide) ?_
        exact ih2 (i + 1) (by omega) (by omega) (upd (zeF rd i) i 0) zeF_s _ _ hP hD hS _ (lv_sub hl [0, 1] rfl)
  exact lp2 ((ents w - 0) + 1) 0 (Nat.lt_succ_self _) (by omega) rd zeF_0 _ _ hP hD hS _ (lv_sub hl [0, 1] rfl)
abbrev rm_X4_wrongPairs : Room := { frames := 3, cells := 0, slots := 0, locals := 64 }
set_option maxRecDepth 100000 in
set_option maxHeartbeats 4000000 in
theorem c_X4_wrongPairs (l : Launch) (g : GT) (m0 : Nat) (m1 : Nat) (m2 : Nat) (m3 : Nat) (m4 : Nat) (m5 : Nat) (ma : Int64) (np : Nat) (ln : Nat) (th : Int32) (at_ : Nat) (hs : Int64) (rw : Nat → Int32) (w : Nat) (rd : Nat → Int32) (hw8 : w ≤ 8) (hrw : rw 0 = nI w) : cUi l g yX4_wrongPairs wsX4_wrongPairs rm_X4_wrongPairs [.ref m0] [(m0, .inr (4, [.ref m1, .long ma, .ref m2, .ref m3, .int (nI np), .ref m4, .int (nI ln), .int th, .ref m5, .int (nI at_), .long hs])), (m1, .inl (g.2.1 0, 523, .inl rw)), (m5, .inl (g.2.1 0, 511, .inl rd))] (fun r (_ : Unit) => r = ((mcN rw rd w).1)) (fun _ => [(m0, .inr (4, [.ref m1, .long ma, .ref m2, .ref m3, .int (nI np), .ref m4, .int (nI ln), .int 0, .ref m5, .int (nI at_), .long hs])), (m1, .inl (g.2.1 0, 523, .inl rw)), (m5, .inl (g.2.1 0, 511, .inl ((mcN rw rd w).2)))]) := by
  refine enU (y := yX4_wrongPairs) (ws := wsX4_wrongPairs) (av := [.ref m0]) (cc := cX4_wrongPairs) (maxL := 1) (ret := (some .int)) (by decide) rfl (Nat.le_of_ble_eq_true rfl) rfl ?_
  intro p e s m below meth c ls hx hb hr hml hown hts hlocks hE hP hD hl
  have hK := hE.1
  have hS : va_S (va_Ad [(m0, .inr (4, [.ref m1, .long ma, .ref m2, .ref m3, .int (nI np), .ref m4, .int (nI ln), .int th, .ref m5, .int (nI at_), .long hs])), (m1, .inl (g.2.1 0, 523, .inl rw)), (m5, .inl (g.2.1 0, 511, .inl rd))]) s.heap s.heap [] := va_S.rf
  generalize hQ : MQ below _ _ s _ _ _ = Q9
  have hl : lv_has ls 1 [(0, .ref m0)] := hl
  refine lv_aload_n hx hb dX4_wrongPairs_0 rfl (lv_at hl 0 rfl) ?_
  refine lv_aload_n hx hb dX4_wrongPairs_1 rfl (lv_at hl 0 rfl) ?_
  refine kUi (fun _ => [(m0, .inr (4, [.ref m1, .long ma, .ref m2, .ref m3, .int (nI np), .ref m4, .int (nI ln), .int th, .ref m5, .int (nI at_), .long hs])), (m1, .inl (g.2.1 0, 523, .inl rw)), (m5, .inl (g.2.1 0, 511, .inl ((mcN rw rd w).2)))]) (va_runV (As := []) (rest := [.ref m0]) ⟨hx, hb, hml, hown, hts⟩ (c_X4_countWrong l g m0 m1 m2 m3 m4 m5 ma np ln th at_ hs rw w rd (by first | assumption | omega | exact Nat.le_of_ble_eq_true rfl) (by first | assumption | omega | exact Nat.le_of_ble_eq_true rfl)) (cwV 0 hts gX4_wrongPairs_X4_countWrong rfl rfl rfl (by decide +kernel) ⟨(Nat.le_of_ble_eq_true rfl), (Nat.le_of_ble_eq_true rfl)⟩) (preVd (RX4, TX4, 11) hE hP hD [0, 1, 2] (by decide) rfl rfl) rfl rfl hl.1 rfl (lv_room (Nat.le_of_ble_eq_true rfl)) dX4_wrongPairs_2 ⟨(Nat.le_of_ble_eq_true rfl), (Nat.le_of_ble_eq_true rfl)⟩) hP hD hS [0, 1, 2] [] 3 [m0, m1, m5] [] rfl rfl rfl (fun _ => rfl) (fun _ => rfl) (fun _ => rfl) rfl (by decide) (fun r9 _ H locs hr9 hP hD hS => ?_)
  subst hr9
  refine kUi (fun _ => [(m0, .inr (4, [.ref m1, .long ma, .ref m2, .ref m3, .int (nI np), .ref m4, .int (nI ln), .int 0, .ref m5, .int (nI at_), .long hs])), (m1, .inl (g.2.1 0, 523, .inl rw)), (m5, .inl (g.2.1 0, 511, .inl ((mcN rw rd w).2)))]) (va_runV (As := [.int ((mcN rw rd w).1)]) (rest := []) ⟨hx, hb, hml, hown, hts⟩ (c_X4_tells l g m0 m1 m2 m3 m4 m5 ma np ln th at_ hs ((mcN rw rd w).1)) (cwV 1 hts gX4_wrongPairs_X4_tells rfl rfl rfl (by decide +kernel) ⟨(Nat.le_of_ble_eq_true rfl), (Nat.le_of_ble_eq_true rfl)⟩) (preVd (RX4, TX4, 11) hE hP hD [0] (by decide) rfl rfl) rfl rfl hl.1 rfl (lv_room (Nat.le_of_ble_eq_true rfl)) dX4_wrongPairs_5 ⟨(Nat.le_of_ble_eq_true rfl), (Nat.le_of_ble_eq_true rfl)⟩) hP hD hS [0] [1, 2] 3 [m0, m1, m5] [(m1, .inl (g.2.1 0, 523, .inl rw)), (m5, .inl (g.2.1 0, 511, .inl ((mcN rw rd w).2)))] rfl rfl rfl (fun _ => rfl) (fun _ => rfl) (fun _ => rfl) rfl (by decide) (fun r9 _ H locs hr9 hP hD hS => ?_)
  subst hr9
  subst hQ
  have hP9 : va_P g.1 vwCl [(m0, .inr (4, [.ref m1, .long ma, .ref m2, .ref m3, .int (nI np), .ref m4, .int (nI ln), .int 0, .ref m5, .int (nI at_), .long hs])), (m1, .inl (g.2.1 0, 523, .inl rw)), (m5, .inl (g.2.1 0, 511, .inl ((mcN rw rd w).2)))] H := hP
  exact W.iret (v := ((mcN rw rd w).1)) hx hb hr (fun t ht hW => ⟨⟨((mcN rw rd w).1), (), rfl, rfl, by show va_P g.1 vwCl _ t.heap; rw [ht]; exact hP9⟩, hS.F ht⟩) hS.2.2 dX4_wrongPairs_8
theorem in_X4_wrongPairsWith_X4 : ∀ w ∈ wsX40, w ∈ wsX4_wrongPairsWith := by decide +kernel
abbrev rm_X4_wrongPairsWith : Room := { frames := 3, cells := 0, slots := 0, locals := 64 }
set_option maxRecDepth 100000 in
set_option maxHeartbeats 4000000 in
theorem c_X4_wrongPairsWith (l : Launch) (g : GT) (m0 : Nat) (m1 : Nat) (m2 : Nat) (m3 : Nat) (m4 : Nat) (m5 : Nat) (ma : Int64) (np : Nat) (ln : Nat) (th : Int32) (at_ : Nat) (hs : Int64) (rw : Nat → Int32) (w : Nat) (rd : Nat → Int32) (ev : Int32) (hw8 : w ≤ 8) (hrw : rw 0 = nI w) : cUi l g yX4_wrongPairsWith wsX4_wrongPairsWith rm_X4_wrongPairsWith [.ref m0, .int ev] [(m0, .inr (4, [.ref m1, .long ma, .ref m2, .ref m3, .int (nI np), .ref m4, .int (nI ln), .int th, .ref m5, .int (nI at_), .long hs])), (m1, .inl (g.2.1 0, 523, .inl rw)), (m5, .inl (g.2.1 0, 511, .inl rd))] (fun r (ub : Option Int32) => (ub = none ∧ (okE w ev) ∧ r = (if (mcN rw rd w).1 = 0 then 0 else (mcN rw rd w).2 (tn ev))) ∨ (ub = some 1 ∧ ¬ okE w ev)) (fun ub => Option.elim ub [(m0, .inr (4, [.ref m1, .long ma, .ref m2, .ref m3, .int (nI np), .ref m4, .int (nI ln), .int 0, .ref m5, .int (nI at_), .long hs])), (m1, .inl (g.2.1 0, 523, .inl rw)), (m5, .inl (g.2.1 0, 511, .inl ((mcN rw rd w).2)))] (fun tq => [(m0, .inr (4, [.ref m1, .long ma, .ref m2, .ref m3, .int (nI np), .ref m4, .int (nI ln), .int tq, .ref m5, .int (nI at_), .long hs])), (m1, .inl (g.2.1 0, 523, .inl rw)), (m5, .inl (g.2.1 0, 511, .inl rd))])) := by
  refine enU (y := yX4_wrongPairsWith) (ws := wsX4_wrongPairsWith) (av := [.ref m0, .int ev]) (cc := cX4_wrongPairsWith) (maxL := 3) (ret := (some .int)) (by decide) rfl (Nat.le_of_ble_eq_true rfl) rfl ?_
  intro p e s m below meth c ls hx hb hr hml hown hts hlocks hE hP hD hl
  have hK := hE.1
  have hS : va_S (va_Ad [(m0, .inr (4, [.ref m1, .long ma, .ref m2, .ref m3, .int (nI np), .ref m4, .int (nI ln), .int th, .ref m5, .int (nI at_), .long hs])), (m1, .inl (g.2.1 0, 523, .inl rw)), (m5, .inl (g.2.1 0, 511, .inl rd))]) s.heap s.heap [] := va_S.rf
  generalize hQ : MQ below _ _ s _ _ _ = Q9
  have hl : lv_has ls 3 [(0, .ref m0), (1, .int ev)] := hl
  have hgr := gr_le w hw8
  have hen := ents_le w hw8
  refine lv_aload_n hx hb dX4_wrongPairsWith_0 rfl (lv_at hl 0 rfl) ?_
  refine lv_iload_n hx hb dX4_wrongPairsWith_1 rfl (lv_at hl 1 rfl) ?_
  refine kRi (va_runV (As := [.int ev]) (rest := []) ⟨hx, hb, hml, hown, hts⟩ (c_X4_isEntry l g m0 m1 m2 m3 m4 m5 ma np ln th at_ hs rw w ev (by first | assumption | omega | exact Nat.le_of_ble_eq_true rfl) (by first | assumption | omega | exact Nat.le_of_ble_eq_true rfl)) (cwV 1 hts gX4_wrongPairsWith_X4_isEntry rfl rfl rfl (by decide +kernel) ⟨(Nat.le_of_ble_eq_true rfl), (Nat.le_of_ble_eq_true rfl)⟩) (preV (RX4, TX4, 11) hE hP [0, 1] rfl rfl) rfl rfl hl.1 rfl (lv_room (Nat.le_of_ble_eq_true rfl)) dX4_wrongPairsWith_2 ⟨(Nat.le_of_ble_eq_true rfl), (Nat.le_of_ble_eq_true rfl)⟩) hP hS (fun r9 H locs hr9 hP hS => ?_)
  subst hr9
  refine lv_if_ne (tgt := 14) hx hb dX4_wrongPairsWith_5 (by decide) (fun c5 => ?_) (fun c5 => ?_)
  · have b5 : okE w ev := bz_t c5
    obtain ⟨ke, hke, rfl⟩ := en_of hw8 b5
    refine lv_aload_n hx hb dX4_wrongPairsWith_14 rfl (lv_at hl 0 rfl) ?_
    refine kUi (fun _ => [(m0, .inr (4, [.ref m1, .long ma, .ref m2, .ref m3, .int (nI np), .ref m4, .int (nI ln), .int th, .ref m5, .int (nI at_), .long hs])), (m1, .inl (g.2.1 0, 523, .inl rw)), (m5, .inl (g.2.1 0, 511, .inl ((mcN rw rd w).2)))]) (va_runV (As := []) (rest := []) ⟨hx, hb, hml, hown, hts⟩ (c_X4_countWrong l g m0 m1 m2 m3 m4 m5 ma np ln th at_ hs rw w rd (by first | assumption | omega | exact Nat.le_of_ble_eq_true rfl) (by first | assumption | omega | exact Nat.le_of_ble_eq_true rfl)) (cwV 0 hts gX4_wrongPairsWith_X4_countWrong rfl rfl rfl (by decide +kernel) ⟨(Nat.le_of_ble_eq_true rfl), (Nat.le_of_ble_eq_true rfl)⟩) (preVd (RX4, TX4, 11) hE hP hD [0, 1, 2] (by decide) rfl rfl) rfl rfl hl.1 rfl (lv_room (Nat.le_of_ble_eq_true rfl)) dX4_wrongPairsWith_15 ⟨(Nat.le_of_ble_eq_true rfl), (Nat.le_of_ble_eq_true rfl)⟩) hP hD hS [0, 1, 2] [] 3 [m0, m1, m5] [] rfl rfl rfl (fun _ => rfl) (fun _ => rfl) (fun _ => rfl) rfl (by decide) (fun r9 _ H locs hr9 hP hD hS => ?_)
    subst hr9
    refine lv_istore_n (lv' := [(2, .int ((mcN rw rd w).1)), (0, .ref m0), (1, .int (nI ke))]) hx hb dX4_wrongPairsWith_18 rfl hl (by decide) rfl (fun ls hl => ?_)
    refine lv_aload_n hx hb dX4_wrongPairsWith_19 rfl (lv_at hl 1 rfl) ?_
    refine lv_iload_n hx hb dX4_wrongPairsWith_20 rfl (lv_at hl 0 rfl) ?_
    refine lv_if_ne (tgt := 28) hx hb dX4_wrongPairsWith_21 (by decide) (fun c21 => ?_) (fun c21 => ?_)
    · refine lv_aload_n hx hb dX4_wrongPairsWith_28 rfl (lv_at hl 1 rfl) ?_
      refine va_get (D := g.1) (ci := 4) (v := .ref m5) (C := RX4) (T := TX4) (N := 11) hx hb hts in_X4_wrongPairsWith_X4 hown hK hP 0 rfl rfl 8 (by decide) (hts _ (List.mem_of_getElem? (i := 1) rfl)) (fun _ h9 => h9) rfl dX4_wrongPairsWith_29 ?_
      refine lv_iload_n hx hb dX4_wrongPairsWith_32 rfl (lv_at hl 2 rfl) ?_
      refine gIald (k := ke) hx hb hE hP 2 rfl (by omega) (by omega) dX4_wrongPairsWith_33 ?_
      refine kUi (fun _ => [(m0, .inr (4, [.ref m1, .long ma, .ref m2, .ref m3, .int (nI np), .ref m4, .int (nI ln), .int 0, .ref m5, .int (nI at_), .long hs])), (m1, .inl (g.2.1 0, 523, .inl rw)), (m5, .inl (g.2.1 0, 511, .inl ((mcN rw rd w).2)))]) (va_runV (As := [.int (((mcN rw rd w).2) ke)]) (rest := []) ⟨hx, hb, hml, hown, hts⟩ (c_X4_tells l g m0 m1 m2 m3 m4 m5 ma np ln th at_ hs (((mcN rw rd w).2) ke)) (cwV 1 hts gX4_wrongPairsWith_X4_tells rfl rfl rfl (by decide +kernel) ⟨(Nat.le_of_ble_eq_true rfl), (Nat.le_of_ble_eq_true rfl)⟩) (preVd (RX4, TX4, 11) hE hP hD [0] (by decide) rfl rfl) rfl rfl hl.1 rfl (lv_room (Nat.le_of_ble_eq_true rfl)) dX4_wrongPairsWith_34 ⟨(Nat.le_of_ble_eq_true rfl), (Nat.le_of_ble_eq_true rfl)⟩) hP hD hS [0] [1, 2] 3 [m0, m1, m5] [(m1, .inl (g.2.1 0, 523, .inl rw)), (m5, .inl (g.2.1 0, 511, .inl ((mcN rw rd w).2)))] rfl rfl rfl (fun _ => rfl) (fun _ => rfl) (fun _ => rfl) rfl (by decide) (fun r9 _ H locs hr9 hP hD hS => ?_)
      subst hr9
      subst hQ
      have hP9 : va_P g.1 vwCl [(m0, .inr (4, [.ref m1, .long ma, .ref m2, .ref m3, .int (nI np), .ref m4, .int (nI ln), .int 0, .ref m5, .int (nI at_), .long hs])), (m1, .inl (g.2.1 0, 523, .inl rw)), (m5, .inl (g.2.1 0, 511, .inl ((mcN rw rd w).2)))] H := hP
      exact W.iret (v := (((mcN rw rd w).2) ke)) hx hb hr (fun t ht hW => ⟨⟨(((mcN rw rd w).2) ke), none, rfl, by first | exact Or.inl ⟨rfl, b5, by rw [tn_nI (n := ke) (by omega), if_neg c21]⟩ | exact Or.inl ⟨rfl, b5, by rw [tn_nI (n := ke) (by omega), if_pos c21]⟩, by show va_P g.1 vwCl _ t.heap; rw [ht]; exact hP9⟩, hS.F ht⟩) hS.2.2 dX4_wrongPairsWith_37
    · refine lv_iconst (v := 0) hx hb dX4_wrongPairsWith_24 (by decide) ?_
      refine lv_goto (tgt := 34) hx hb dX4_wrongPairsWith_25 (by decide) ?_
      refine kUi (fun _ => [(m0, .inr (4, [.ref m1, .long ma, .ref m2, .ref m3, .int (nI np), .ref m4, .int (nI ln), .int 0, .ref m5, .int (nI at_), .long hs])), (m1, .inl (g.2.1 0, 523, .inl rw)), (m5, .inl (g.2.1 0, 511, .inl ((mcN rw rd w).2)))]) (va_runV (As := [.int 0]) (rest := []) ⟨hx, hb, hml, hown, hts⟩ (c_X4_tells l g m0 m1 m2 m3 m4 m5 ma np ln th at_ hs 0) (cwV 1 hts gX4_wrongPairsWith_X4_tells rfl rfl rfl (by decide +kernel) ⟨(Nat.le_of_ble_eq_true rfl), (Nat.le_of_ble_eq_true rfl)⟩) (preVd (RX4, TX4, 11) hE hP hD [0] (by decide) rfl rfl) rfl rfl hl.1 rfl (lv_room (Nat.le_of_ble_eq_true rfl)) dX4_wrongPairsWith_34 ⟨(Nat.le_of_ble_eq_true rfl), (Nat.le_of_ble_eq_true rfl)⟩) hP hD hS [0] [1, 2] 3 [m0, m1, m5] [(m1, .inl (g.2.1 0, 523, .inl rw)), (m5, .inl (g.2.1 0, 511, .inl ((mcN rw rd w).2)))] rfl rfl rfl (fun _ => rfl) (fun _ => rfl) (fun _ => rfl) rfl (by decide) (fun r9 _ H locs hr9 hP hD hS => ?_)
      subst hr9
      subst hQ
      have hP9 : va_P g.1 vwCl [(m0, .inr (4, [.ref m1, .long ma, .ref m2, .ref m3, .int (nI np), .ref m4, .int (nI ln), .int 0, .ref m5, .int (nI at_), .long hs])), (m1, .inl (g.2.1 0, 523, .inl rw)), (m5, .inl (g.2.1 0, 511, .inl ((mcN rw rd w).2)))] H := hP
      exact W.iret (v := 0) hx hb hr (fun t ht hW => ⟨⟨0, none, rfl, by first | exact Or.inl ⟨rfl, b5, by rw [tn_nI (n := ke) (by omega), if_neg c21]⟩ | exact Or.inl ⟨rfl, b5, by rw [tn_nI (n := ke) (by omega), if_pos c21]⟩, by show va_P g.1 vwCl _ t.heap; rw [ht]; exact hP9⟩, hS.F ht⟩) hS.2.2 dX4_wrongPairsWith_37
  · have b5 : ¬ (okE w ev) := bz_f c5
    refine lv_aload_n hx hb dX4_wrongPairsWith_8 rfl (lv_at hl 0 rfl) ?_
    refine lv_iconst (v := 1) hx hb dX4_wrongPairsWith_9 (by decide) ?_
    refine kUi (fun _ => [(m0, .inr (4, [.ref m1, .long ma, .ref m2, .ref m3, .int (nI np), .ref m4, .int (nI ln), .int 1, .ref m5, .int (nI at_), .long hs])), (m1, .inl (g.2.1 0, 523, .inl rw)), (m5, .inl (g.2.1 0, 511, .inl rd))]) (va_runV (As := [.int 1]) (rest := []) ⟨hx, hb, hml, hown, hts⟩ (c_X4_fails l g m0 m1 m2 m3 m4 m5 ma np ln th at_ hs 1) (cwV 1 hts gX4_wrongPairsWith_X4_fails rfl rfl rfl (by decide +kernel) ⟨(Nat.le_of_ble_eq_true rfl), (Nat.le_of_ble_eq_true rfl)⟩) (preVd (RX4, TX4, 11) hE hP hD [0] (by decide) rfl rfl) rfl rfl hl.1 rfl (lv_room (Nat.le_of_ble_eq_true rfl)) dX4_wrongPairsWith_10 ⟨(Nat.le_of_ble_eq_true rfl), (Nat.le_of_ble_eq_true rfl)⟩) hP hD hS [0] [1, 2] 3 [m0, m1, m5] [(m1, .inl (g.2.1 0, 523, .inl rw)), (m5, .inl (g.2.1 0, 511, .inl rd))] rfl rfl rfl (fun _ => rfl) (fun _ => rfl) (fun _ => rfl) rfl (by decide) (fun r9 _ H locs hr9 hP hD hS => ?_)
    subst hr9
    subst hQ
    have hP9 : va_P g.1 vwCl [(m0, .inr (4, [.ref m1, .long ma, .ref m2, .ref m3, .int (nI np), .ref m4, .int (nI ln), .int 1, .ref m5, .int (nI at_), .long hs])), (m1, .inl (g.2.1 0, 523, .inl rw)), (m5, .inl (g.2.1 0, 511, .inl rd))] H := hP
    exact W.iret (v := 0) hx hb hr (fun t ht hW => ⟨⟨0, (some 1), rfl, Or.inr ⟨rfl, b5⟩, by show va_P g.1 vwCl _ t.heap; rw [ht]; exact hP9⟩, hS.F ht⟩) hS.2.2 dX4_wrongPairsWith_13
theorem in_X4_suspect_X4 : ∀ w ∈ wsX40, w ∈ wsX4_suspect := by decide +kernel
abbrev rm_X4_suspect : Room := { frames := 3, cells := 0, slots := 0, locals := 64 }
set_option maxRecDepth 100000 in
set_option maxHeartbeats 4000000 in
theorem c_X4_suspect (l : Launch) (g : GT) (m0 : Nat) (m1 : Nat) (m2 : Nat) (m3 : Nat) (m4 : Nat) (m5 : Nat) (ma : Int64) (np : Nat) (ln : Nat) (th : Int32) (at_ : Nat) (hs : Int64) (rw : Nat → Int32) (w : Nat) (rd : Nat → Int32) (hw8 : w ≤ 8) (hrw : rw 0 = nI w) : cUi l g yX4_suspect wsX4_suspect rm_X4_suspect [.ref m0] [(m0, .inr (4, [.ref m1, .long ma, .ref m2, .ref m3, .int (nI np), .ref m4, .int (nI ln), .int th, .ref m5, .int (nI at_), .long hs])), (m1, .inl (g.2.1 0, 523, .inl rw)), (m5, .inl (g.2.1 0, 511, .inl rd))] (fun r (_ : Unit) => r = (msF (mcN rw rd w) w)) (fun _ => [(m0, .inr (4, [.ref m1, .long ma, .ref m2, .ref m3, .int (nI np), .ref m4, .int (nI ln), .int 0, .ref m5, .int (nI at_), .long hs])), (m1, .inl (g.2.1 0, 523, .inl rw)), (m5, .inl (g.2.1 0, 511, .inl ((mcN rw rd w).2)))]) := by
  refine enU (y := yX4_suspect) (ws := wsX4_suspect) (av := [.ref m0]) (cc := cX4_suspect) (maxL := 3) (ret := (some .int)) (by decide) rfl (Nat.le_of_ble_eq_true rfl) rfl ?_
  intro p e s m below meth c ls hx hb hr hml hown hts hlocks hE hP hD hl
  have hK := hE.1
  have hS : va_S (va_Ad [(m0, .inr (4, [.ref m1, .long ma, .ref m2, .ref m3, .int (nI np), .ref m4, .int (nI ln), .int th, .ref m5, .int (nI at_), .long hs])), (m1, .inl (g.2.1 0, 523, .inl rw)), (m5, .inl (g.2.1 0, 511, .inl rd))]) s.heap s.heap [] := va_S.rf
  generalize hQ : MQ below _ _ s _ _ _ = Q9
  have hl : lv_has ls 3 [(0, .ref m0)] := hl
  have hgr := gr_le w hw8
  have hen := ents_le w hw8
  refine lv_aload_n hx hb dX4_suspect_0 rfl (lv_at hl 0 rfl) ?_
  refine kUi (fun _ => [(m0, .inr (4, [.ref m1, .long ma, .ref m2, .ref m3, .int (nI np), .ref m4, .int (nI ln), .int th, .ref m5, .int (nI at_), .long hs])), (m1, .inl (g.2.1 0, 523, .inl rw)), (m5, .inl (g.2.1 0, 511, .inl ((mcN rw rd w).2)))]) (va_runV (As := []) (rest := []) ⟨hx, hb, hml, hown, hts⟩ (c_X4_countWrong l g m0 m1 m2 m3 m4 m5 ma np ln th at_ hs rw w rd (by first | assumption | omega | exact Nat.le_of_ble_eq_true rfl) (by first | assumption | omega | exact Nat.le_of_ble_eq_true rfl)) (cwV 0 hts gX4_suspect_X4_countWrong rfl rfl rfl (by decide +kernel) ⟨(Nat.le_of_ble_eq_true rfl), (Nat.le_of_ble_eq_true rfl)⟩) (preVd (RX4, TX4, 11) hE hP hD [0, 1, 2] (by decide) rfl rfl) rfl rfl hl.1 rfl (lv_room (Nat.le_of_ble_eq_true rfl)) dX4_suspect_1 ⟨(Nat.le_of_ble_eq_true rfl), (Nat.le_of_ble_eq_true rfl)⟩) hP hD hS [0, 1, 2] [] 3 [m0, m1, m5] [] rfl rfl rfl (fun _ => rfl) (fun _ => rfl) (fun _ => rfl) rfl (by decide) (fun r9 _ H locs hr9 hP hD hS => ?_)
  subst hr9
  refine lv_if_ne (tgt := 13) hx hb dX4_suspect_4 (by decide) (fun c4 => ?_) (fun c4 => ?_)
  · refine lv_iconst (v := 0) hx hb dX4_suspect_13 (by decide) ?_
    refine lv_istore_n (lv' := [(1, .int 0), (0, .ref m0)]) hx hb dX4_suspect_14 rfl hl (by decide) rfl (fun ls hl => ?_)
    refine lv_iconst (v := 1) hx hb dX4_suspect_15 (by decide) ?_
    refine lv_istore_n (lv' := [(2, .int 1), (1, .int 0), (0, .ref m0)]) hx hb dX4_suspect_16 rfl hl (by decide) rfl (fun ls hl => ?_)
    have lp17 : ∀ (n9 : Nat) (i : Nat) (bs : Nat), ents w - i < n9 → (1 ≤ i ∧ i ≤ ents w) → (bs < i) → (msS (mcN rw rd w).2 i = bs) → ∀ (H : Heap) (locs : List Loc), va_P g.1 vwCl [(m0, .inr (4, [.ref m1, .long ma, .ref m2, .ref m3, .int (nI np), .ref m4, .int (nI ln), .int th, .ref m5, .int (nI at_), .long hs])), (m1, .inl (g.2.1 0, 523, .inl rw)), (m5, .inl (g.2.1 0, 511, .inl ((mcN rw rd w).2)))] H → va_D (va_Ad [(m0, .inr (4, [.ref m1, .long ma, .ref m2, .ref m3, .int (nI np), .ref m4, .int (nI ln), .int th, .ref m5, .int (nI at_), .long hs])), (m1, .inl (g.2.1 0, 523, .inl rw)), (m5, .inl (g.2.1 0, 511, .inl rd))]) [(m0, .inr (4, [.ref m1, .long ma, .ref m2, .ref m3, .int (nI np), .ref m4, .int (nI ln), .int th, .ref m5, .int (nI at_), .long hs])), (m1, .inl (g.2.1 0, 523, .inl rw)), (m5, .inl (g.2.1 0, 511, .inl ((mcN rw rd w).2)))] → va_S (va_Ad [(m0, .inr (4, [.ref m1, .long ma, .ref m2, .ref m3, .int (nI np), .ref m4, .int (nI ln), .int th, .ref m5, .int (nI at_), .long hs])), (m1, .inl (g.2.1 0, 523, .inl rw)), (m5, .inl (g.2.1 0, 511, .inl rd))]) s.heap H locs → ∀ (ls : Array Slot), lv_has ls 3 [(2, .int (nI i)), (1, .int (nI bs)), (0, .ref m0)] → W p l e rm_X4_suspect s m [Value.ref m0].toArray below meth c H locs 0 0 Q9 (F0 m 17 ls []) := by
      intro n9
      induction n9 with
      | zero => intro i bs h9; exact absurd h9 (Nat.not_lt_zero _)
      | succ n9 ih17 =>
        intro i bs hm17 hi hbs hms
        intro H locs hP hD hS ls hl
        refine lv_iload_n hx hb dX4_suspect_17 rfl (lv_at hl 0 rfl) ?_
        refine lv_aload_n hx hb dX4_suspect_18 rfl (lv_at hl 2 rfl) ?_
        refine kRi (va_runV (As := []) (rest := [.int (nI i)]) ⟨hx, hb, hml, hown, hts⟩ (c_X4_entries l g m0 m1 m2 m3 m4 m5 ma np ln th at_ hs rw w (by first | assumption | omega | exact Nat.le_of_ble_eq_true rfl) (by first | assumption | omega | exact Nat.le_of_ble_eq_true rfl)) (cwV 0 hts gX4_suspect_X4_entries rfl rfl rfl (by decide +kernel) ⟨(Nat.le_of_ble_eq_true rfl), (Nat.le_of_ble_eq_true rfl)⟩) (preV (RX4, TX4, 11) hE hP [0, 1] rfl rfl) rfl rfl hl.1 rfl (lv_room (Nat.le_of_ble_eq_true rfl)) dX4_suspect_19 ⟨(Nat.le_of_ble_eq_true rfl), (Nat.le_of_ble_eq_true rfl)⟩) hP hS (fun r9 H locs hr9 hP hS => ?_)
        subst hr9
        refine lv_icmp_ge (tgt := 52) hx hb dX4_suspect_22 (by decide) (fun c22 => ?_) (fun c22 => ?_)
        · have n22 : ents w ≤ i := (nI_leI (a := ents w) (b := i) (by omega) (by omega)).mp c22
          refine lv_aload_n hx hb dX4_suspect_52 rfl (lv_at hl 2 rfl) ?_
          refine lv_iload_n hx hb dX4_suspect_53 rfl (lv_at hl 1 rfl) ?_
          refine kUi (fun _ => [(m0, .inr (4, [.ref m1, .long ma, .ref m2, .ref m3, .int (nI np), .ref m4, .int (nI ln), .int 0, .ref m5, .int (nI at_), .long hs])), (m1, .inl (g.2.1 0, 523, .inl rw)), (m5, .inl (g.2.1 0, 511, .inl ((mcN rw rd w).2)))]) (va_runV (As := [.int (nI bs)]) (rest := []) ⟨hx, hb, hml, hown, hts⟩ (c_X4_tells l g m0 m1 m2 m3 m4 m5 ma np ln th at_ hs (nI bs)) (cwV 1 hts gX4_suspect_X4_tells rfl rfl rfl (by decide +kernel) ⟨(Nat.le_of_ble_eq_true rfl), (Nat.le_of_ble_eq_true rfl)⟩) (preVd (RX4, TX4, 11) hE hP hD [0] (by decide) rfl rfl) rfl rfl hl.1 rfl (lv_room (Nat.le_of_ble_eq_true rfl)) dX4_suspect_54 ⟨(Nat.le_of_ble_eq_true rfl), (Nat.le_of_ble_eq_true rfl)⟩) hP hD hS [0] [1, 2] 3 [m0, m1, m5] [(m1, .inl (g.2.1 0, 523, .inl rw)), (m5, .inl (g.2.1 0, 511, .inl ((mcN rw rd w).2)))] rfl rfl rfl (fun _ => rfl) (fun _ => rfl) (fun _ => rfl) rfl (by decide) (fun r9 _ H locs hr9 hP hD hS => ?_)
          subst hr9
          subst hQ
          have hP9 : va_P g.1 vwCl [(m0, .inr (4, [.ref m1, .long ma, .ref m2, .ref m3, .int (nI np), .ref m4, .int (nI ln), .int 0, .ref m5, .int (nI at_), .long hs])), (m1, .inl (g.2.1 0, 523, .inl rw)), (m5, .inl (g.2.1 0, 511, .inl ((mcN rw rd w).2)))] H := hP
          exact W.iret (v := (nI bs)) hx hb hr (fun t ht hW => ⟨⟨(nI bs), (), rfl, by rw [msF, if_neg c4, show ents w = i by omega, hms], by show va_P g.1 vwCl _ t.heap; rw [ht]; exact hP9⟩, hS.F ht⟩) hS.2.2 dX4_suspect_57
        · have n22 : i < ents w := Nat.lt_of_not_le (fun h9 => c22 ((nI_leI (a := ents w) (b := i) (by omega) (by omega)).mpr h9))
          refine lv_aload_n hx hb dX4_suspect_25 rfl (lv_at hl 2 rfl) ?_
          refine va_get (D := g.1) (ci := 4) (v := .ref m5) (C := RX4) (T := TX4) (N := 11) hx hb hts in_X4_suspect_X4 hown hK hP 0 rfl rfl 8 (by decide) (hts _ (List.mem_of_getElem? (i := 1) rfl)) (fun _ h9 => h9) rfl dX4_suspect_26 ?_
          refine lv_iload_n hx hb dX4_suspect_29 rfl (lv_at hl 0 rfl) ?_
          refine gIald (k := i) hx hb hE hP 2 rfl (by omega) (by omega) dX4_suspect_30 ?_
          refine lv_aload_n hx hb dX4_suspect_31 rfl (lv_at hl 2 rfl) ?_
          refine va_get (D := g.1) (ci := 4) (v := .ref m5) (C := RX4) (T := TX4) (N := 11) hx hb hts in_X4_suspect_X4 hown hK hP 0 rfl rfl 8 (by decide) (hts _ (List.mem_of_getElem? (i := 1) rfl)) (fun _ h9 => h9) rfl dX4_suspect_32 ?_
          refine lv_iload_n hx hb dX4_suspect_35 rfl (lv_at hl 1 rfl) ?_
          refine gIald (k := bs) hx hb hE hP 2 rfl (by omega) (by omega) dX4_suspect_36 ?_
          refine lv_icmp_le (tgt := 44) hx hb dX4_suspect_37 (by decide) (fun c37 => ?_) (fun c37 => ?_)
          · refine lv_iload_n hx hb dX4_suspect_44 rfl (lv_at hl 1 rfl) ?_
            refine lv_istore_n (lv' := [(1, .int (nI bs)), (2, .int (nI i)), (0, .ref m0)]) hx hb dX4_suspect_45 rfl hl (by decide) rfl (fun ls hl => ?_)
            refine lv_iinc (v := (nI (i + 1))) (lv' := [(2, .int (nI (i + 1))), (1, .int (nI bs)), (0, .ref m0)]) hx hb dX4_suspect_46 hl (k := 1) rfl (nI_add (i) 1) (by decide) rfl (fun ls hl => ?_)
            refine lv_goto (tgt := 17) hx hb dX4_suspect_49 (by decide) ?_
            exact ih17 (i + 1) bs (by omega) (by omega) (by omega) (ms_s hi.1 hms c37)  _ _ hP hD hS _ (lv_sub hl [0, 1, 2] rfl)
          · refine lv_iload_n hx hb dX4_suspect_40 rfl (lv_at hl 0 rfl) ?_
            refine lv_goto (tgt := 45) hx hb dX4_suspect_41 (by decide) ?_
            refine lv_istore_n (lv' := [(1, .int (nI i)), (2, .int (nI i)), (0, .ref m0)]) hx hb dX4_suspect_45 rfl hl (by decide) rfl (fun ls hl => ?_)
            refine lv_iinc (v := (nI (i + 1))) (lv' := [(2, .int (nI (i + 1))), (1, .int (nI i)), (0, .ref m0)]) hx hb dX4_suspect_46 hl (k := 1) rfl (nI_add (i) 1) (by decide) rfl (fun ls hl => ?_)
            refine lv_goto (tgt := 17) hx hb dX4_suspect_49 (by decide) ?_
            exact ih17 (i + 1) i (by omega) (by omega) (by omega) (ms_n hi.1 hms c37)  _ _ hP hD hS _ (lv_sub hl [0, 1, 2] rfl)
    exact lp17 ((ents w - 1) + 1) 1 0 (Nat.lt_succ_self _) (⟨Nat.le_refl 1, by unfold ents; omega⟩) (by omega) rfl  _ _ hP hD hS _ (lv_sub hl [0, 1, 2] rfl)
  · refine lv_aload_n hx hb dX4_suspect_7 rfl (lv_at hl 0 rfl) ?_
    refine lv_iconst (v := -1) hx hb dX4_suspect_8 (by decide) ?_
    refine kUi (fun _ => [(m0, .inr (4, [.ref m1, .long ma, .ref m2, .ref m3, .int (nI np), .ref m4, .int (nI ln), .int 0, .ref m5, .int (nI at_), .long hs])), (m1, .inl (g.2.1 0, 523, .inl rw)), (m5, .inl (g.2.1 0, 511, .inl ((mcN rw rd w).2)))]) (va_runV (As := [.int (-1)]) (rest := []) ⟨hx, hb, hml, hown, hts⟩ (c_X4_tells l g m0 m1 m2 m3 m4 m5 ma np ln th at_ hs (-1)) (cwV 1 hts gX4_suspect_X4_tells rfl rfl rfl (by decide +kernel) ⟨(Nat.le_of_ble_eq_true rfl), (Nat.le_of_ble_eq_true rfl)⟩) (preVd (RX4, TX4, 11) hE hP hD [0] (by decide) rfl rfl) rfl rfl hl.1 rfl (lv_room (Nat.le_of_ble_eq_true rfl)) dX4_suspect_9 ⟨(Nat.le_of_ble_eq_true rfl), (Nat.le_of_ble_eq_true rfl)⟩) hP hD hS [0] [1, 2] 3 [m0, m1, m5] [(m1, .inl (g.2.1 0, 523, .inl rw)), (m5, .inl (g.2.1 0, 511, .inl ((mcN rw rd w).2)))] rfl rfl rfl (fun _ => rfl) (fun _ => rfl) (fun _ => rfl) rfl (by decide) (fun r9 _ H locs hr9 hP hD hS => ?_)
    subst hr9
    subst hQ
    have hP9 : va_P g.1 vwCl [(m0, .inr (4, [.ref m1, .long ma, .ref m2, .ref m3, .int (nI np), .ref m4, .int (nI ln), .int 0, .ref m5, .int (nI at_), .long hs])), (m1, .inl (g.2.1 0, 523, .inl rw)), (m5, .inl (g.2.1 0, 511, .inl ((mcN rw rd w).2)))] H := hP
    exact W.iret (v := (-1)) hx hb hr (fun t ht hW => ⟨⟨(-1), (), rfl, (if_pos c4).symm, by show va_P g.1 vwCl _ t.heap; rw [ht]; exact hP9⟩, hS.F ht⟩) hS.2.2 dX4_suspect_12
theorem in_X4_append_X4 : ∀ w ∈ wsX40, w ∈ wsX4_append := by decide +kernel
abbrev rm_X4_append : Room := { frames := 1, cells := 0, slots := 0, locals := 22 }
set_option maxRecDepth 100000 in
set_option maxHeartbeats 4000000 in
theorem c_X4_append (l : Launch) (g : GT) (m0 : Nat) (m1 : Nat) (m2 : Nat) (m3 : Nat) (m4 : Nat) (m5 : Nat) (ma : Int64) (np : Nat) (ln : Nat) (th : Int32) (at_ : Nat) (hs : Int64) (tx : Nat → Int32) (vl : Int32) (hln : ln ≤ 100) : cUi l g yX4_append wsX4_append rm_X4_append [.ref m0, .int vl] [(m0, .inr (4, [.ref m1, .long ma, .ref m2, .ref m3, .int (nI np), .ref m4, .int (nI ln), .int th, .ref m5, .int (nI at_), .long hs])), (m4, .inl (g.2.1 0, 100, .inl tx))] (fun r (ub : Option Int32) => (ub = none ∧ (okR 0 127 vl ∧ ln < 100) ∧ r = nI (ln + 1)) ∨ (ub = some 1 ∧ ¬ okR 0 127 vl) ∨ (ub = some 2 ∧ okR 0 127 vl ∧ ¬ ln < 100)) (fun ub => Option.elim ub [(m0, .inr (4, [.ref m1, .long ma, .ref m2, .ref m3, .int (nI np), .ref m4, .int (nI (ln + 1)), .int 0, .ref m5, .int (nI at_), .long hs])), (m4, .inl (g.2.1 0, 100, .inl (upd tx ln vl)))] (fun tq => [(m0, .inr (4, [.ref m1, .long ma, .ref m2, .ref m3, .int (nI np), .ref m4, .int (nI ln), .int tq, .ref m5, .int (nI at_), .long hs])), (m4, .inl (g.2.1 0, 100, .inl tx))])) := by
  refine enU (y := yX4_append) (ws := wsX4_append) (av := [.ref m0, .int vl]) (cc := cX4_append) (maxL := 2) (ret := (some .int)) (by decide) rfl (Nat.le_of_ble_eq_true rfl) rfl ?_
  intro p e s m below meth c ls hx hb hr hml hown hts hlocks hE hP hD hl
  have hK := hE.1
  have hS : va_S (va_Ad [(m0, .inr (4, [.ref m1, .long ma, .ref m2, .ref m3, .int (nI np), .ref m4, .int (nI ln), .int th, .ref m5, .int (nI at_), .long hs])), (m4, .inl (g.2.1 0, 100, .inl tx))]) s.heap s.heap [] := va_S.rf
  generalize hQ : MQ below _ _ s _ _ _ = Q9
  have hl : lv_has ls 2 [(0, .ref m0), (1, .int vl)] := hl
  refine lv_iload_n hx hb dX4_append_0 rfl (lv_at hl 1 rfl) ?_
  refine lv_iconst (v := 0) hx hb dX4_append_1 (by decide) ?_
  refine lv_bipush (v := 127) hx hb dX4_append_2 (by decide) ?_
  refine kRi (va_runS (As := [.int vl, .int 0, .int 127]) (rest := []) ⟨hx, hb, hml, hown, hts⟩ (c_X4_in l g vl 0 127) (va_cwS 3 hts gX4_append_X4_in rfl rfl rfl (by decide +kernel) ⟨(Nat.le_of_ble_eq_true rfl), (Nat.le_of_ble_eq_true rfl)⟩) (preS hE hP [] rfl) rfl rfl hl.1 rfl (lv_room (Nat.le_of_ble_eq_true rfl)) dX4_append_4 ⟨(Nat.le_of_ble_eq_true rfl), (Nat.le_of_ble_eq_true rfl)⟩) hP hS (fun r9 H locs hr9 hP hS => ?_)
  subst hr9
  refine lv_if_ne (tgt := 16) hx hb dX4_append_7 (by decide) (fun c7 => ?_) (fun c7 => ?_)
  · have b7 : okR 0 127 vl := bz_t c7
    refine lv_aload_n hx hb dX4_append_16 rfl (lv_at hl 0 rfl) ?_
    refine va_get (D := g.1) (ci := 4) (v := .int (nI ln)) (C := RX4) (T := TX4) (N := 11) hx hb hts in_X4_append_X4 hown hK hP 0 rfl rfl 6 (by decide) (hts _ (List.mem_of_getElem? (i := 1) rfl)) (fun _ h9 => h9) rfl dX4_append_17 ?_
    refine lv_bipush (v := 100) hx hb dX4_append_20 (by decide) ?_
    refine lv_icmp_ne (tgt := 31) hx hb dX4_append_22 (by decide) (fun c22 => ?_) (fun c22 => ?_)
    · have n22 : ¬ ln = 100 := fun h9 => c22 ((nI_eq (a := ln) (b := 100) (by omega) (by omega)).mpr h9)
      have hl9 : ln < 100 := by omega
      refine lv_aload_n hx hb dX4_append_31 rfl (lv_at hl 0 rfl) ?_
      refine va_get (D := g.1) (ci := 4) (v := .ref m4) (C := RX4) (T := TX4) (N := 11) hx hb hts in_X4_append_X4 hown hK hP 0 rfl rfl 5 (by decide) (hts _ (List.mem_of_getElem? (i := 2) rfl)) (fun _ h9 => h9) rfl dX4_append_32 ?_
      refine lv_aload_n hx hb dX4_append_35 rfl (lv_at hl 0 rfl) ?_
      refine va_get (D := g.1) (ci := 4) (v := .int (nI ln)) (C := RX4) (T := TX4) (N := 11) hx hb hts in_X4_append_X4 hown hK hP 0 rfl rfl 6 (by decide) (hts _ (List.mem_of_getElem? (i := 1) rfl)) (fun _ h9 => h9) rfl dX4_append_36 ?_
      refine lv_iload_n hx hb dX4_append_39 rfl (lv_at hl 1 rfl) ?_
      refine gIast (k := ln) (x := vl) (wsn := [(m0, .inr (4, [.ref m1, .long ma, .ref m2, .ref m3, .int (nI np), .ref m4, .int (nI ln), .int th, .ref m5, .int (nI at_), .long hs])), (m4, .inl (g.2.1 0, 100, .inl (upd tx ln vl)))]) hx hb hE hP hD hS 1 rfl (by omega) (by omega) dX4_append_40 (hw := rfl) (kk := fun H locs hP hD hS => ?_)
      refine lv_aload_n hx hb dX4_append_41 rfl (lv_at hl 0 rfl) ?_
      refine lv_dup hx hb dX4_append_42 rfl ?_
      refine va_get (D := g.1) (ci := 4) (v := .int (nI ln)) (C := RX4) (T := TX4) (N := 11) hx hb hts in_X4_append_X4 hown hK hP 0 rfl rfl 6 (by decide) (hts _ (List.mem_of_getElem? (i := 1) rfl)) (fun _ h9 => h9) rfl dX4_append_43 ?_
      refine lv_iconst (v := 1) hx hb dX4_append_46 (by decide) ?_
      refine lv_iadd hx hb dX4_append_47 ?_
      refine lv_tope (y := (nI (ln + 1))) (show ((nI ln) + 1 : Int32) = nI (ln + 1) from nI_add (ln) (1)) ?_
      refine va_put (D := g.1) (ci := 4) (v := .int (nI (ln + 1))) (ty := .int) (C := RX4) (T := TX4) (N := 11) hx hb hts in_X4_append_X4 tyX4 tyX4_ok nmX4 hown hK hP hD hS 0 rfl rfl 6 (by decide) (hts _ (List.mem_of_getElem? (i := 1) rfl)) (fun _ h9 => h9) rfl (by decide +kernel) rfl rfl (Nat.le_of_ble_eq_true rfl) dX4_append_48 (fun H locs hP hD hS => ?_)
      have hP : va_P g.1 vwCl [(m0, .inr (4, [.ref m1, .long ma, .ref m2, .ref m3, .int (nI np), .ref m4, .int (nI (ln + 1)), .int th, .ref m5, .int (nI at_), .long hs])), (m4, .inl (g.2.1 0, 100, .inl (upd tx ln vl)))] _ := hP
      have hD : va_D (va_Ad [(m0, .inr (4, [.ref m1, .long ma, .ref m2, .ref m3, .int (nI np), .ref m4, .int (nI ln), .int th, .ref m5, .int (nI at_), .long hs])), (m4, .inl (g.2.1 0, 100, .inl tx))]) [(m0, .inr (4, [.ref m1, .long ma, .ref m2, .ref m3, .int (nI np), .ref m4, .int (nI (ln + 1)), .int th, .ref m5, .int (nI at_), .long hs])), (m4, .inl (g.2.1 0, 100, .inl (upd tx ln vl)))] := hD
      refine lv_aload_n hx hb dX4_append_51 rfl (lv_at hl 0 rfl) ?_
      refine lv_aload_n hx hb dX4_append_52 rfl (lv_at hl 0 rfl) ?_
      refine va_get (D := g.1) (ci := 4) (v := .int (nI (ln + 1))) (C := RX4) (T := TX4) (N := 11) hx hb hts in_X4_append_X4 hown hK hP 0 rfl rfl 6 (by decide) (hts _ (List.mem_of_getElem? (i := 1) rfl)) (fun _ h9 => h9) rfl dX4_append_53 ?_
      refine kUi (fun _ => [(m0, .inr (4, [.ref m1, .long ma, .ref m2, .ref m3, .int (nI np), .ref m4, .int (nI ((ln + 1))), .int 0, .ref m5, .int (nI at_), .long hs])), (m4, .inl (g.2.1 0, 100, .inl (upd tx ln vl)))]) (va_runV (As := [.int (nI (ln + 1))]) (rest := []) ⟨hx, hb, hml, hown, hts⟩ (c_X4_tells l g m0 m1 m2 m3 m4 m5 ma np (ln + 1) th at_ hs (nI (ln + 1))) (cwV 1 hts gX4_append_X4_tells rfl rfl rfl (by decide +kernel) ⟨(Nat.le_of_ble_eq_true rfl), (Nat.le_of_ble_eq_true rfl)⟩) (preVd (RX4, TX4, 11) hE hP hD [0] (by decide) rfl rfl) rfl rfl hl.1 rfl (lv_room (Nat.le_of_ble_eq_true rfl)) dX4_append_56 ⟨(Nat.le_of_ble_eq_true rfl), (Nat.le_of_ble_eq_true rfl)⟩) hP hD hS [0] [1] 2 [m0, m4] [(m4, .inl (g.2.1 0, 100, .inl (upd tx ln vl)))] rfl rfl rfl (fun _ => rfl) (fun _ => rfl) (fun _ => rfl) rfl (by decide) (fun r9 _ H locs hr9 hP hD hS => ?_)
      subst hr9
      subst hQ
      have hP9 : va_P g.1 vwCl [(m0, .inr (4, [.ref m1, .long ma, .ref m2, .ref m3, .int (nI np), .ref m4, .int (nI (ln + 1)), .int 0, .ref m5, .int (nI at_), .long hs])), (m4, .inl (g.2.1 0, 100, .inl (upd tx ln vl)))] H := hP
      exact W.iret (v := (nI (ln + 1))) hx hb hr (fun t ht hW => ⟨⟨(nI (ln + 1)), none, rfl, Or.inl ⟨rfl, ⟨b7, hl9⟩, rfl⟩, by show va_P g.1 vwCl _ t.heap; rw [ht]; exact hP9⟩, hS.F ht⟩) hS.2.2 dX4_append_59
    · have n22 : ln = 100 := (nI_eq (a := ln) (b := 100) (by omega) (by omega)).mp c22
      refine lv_aload_n hx hb dX4_append_25 rfl (lv_at hl 0 rfl) ?_
      refine lv_iconst (v := 2) hx hb dX4_append_26 (by decide) ?_
      refine kUi (fun _ => [(m0, .inr (4, [.ref m1, .long ma, .ref m2, .ref m3, .int (nI np), .ref m4, .int (nI ln), .int 2, .ref m5, .int (nI at_), .long hs])), (m4, .inl (g.2.1 0, 100, .inl tx))]) (va_runV (As := [.int 2]) (rest := []) ⟨hx, hb, hml, hown, hts⟩ (c_X4_fails l g m0 m1 m2 m3 m4 m5 ma np ln th at_ hs 2) (cwV 1 hts gX4_append_X4_fails rfl rfl rfl (by decide +kernel) ⟨(Nat.le_of_ble_eq_true rfl), (Nat.le_of_ble_eq_true rfl)⟩) (preVd (RX4, TX4, 11) hE hP hD [0] (by decide) rfl rfl) rfl rfl hl.1 rfl (lv_room (Nat.le_of_ble_eq_true rfl)) dX4_append_27 ⟨(Nat.le_of_ble_eq_true rfl), (Nat.le_of_ble_eq_true rfl)⟩) hP hD hS [0] [1] 2 [m0, m4] [(m4, .inl (g.2.1 0, 100, .inl tx))] rfl rfl rfl (fun _ => rfl) (fun _ => rfl) (fun _ => rfl) rfl (by decide) (fun r9 _ H locs hr9 hP hD hS => ?_)
      subst hr9
      subst hQ
      have hP9 : va_P g.1 vwCl [(m0, .inr (4, [.ref m1, .long ma, .ref m2, .ref m3, .int (nI np), .ref m4, .int (nI ln), .int 2, .ref m5, .int (nI at_), .long hs])), (m4, .inl (g.2.1 0, 100, .inl tx))] H := hP
      exact W.iret (v := 0) hx hb hr (fun t ht hW => ⟨⟨0, (some 2), rfl, Or.inr (Or.inr ⟨rfl, b7, by omega⟩), by show va_P g.1 vwCl _ t.heap; rw [ht]; exact hP9⟩, hS.F ht⟩) hS.2.2 dX4_append_30
  · have b7 : ¬ (okR 0 127 vl) := bz_f c7
    refine lv_aload_n hx hb dX4_append_10 rfl (lv_at hl 0 rfl) ?_
    refine lv_iconst (v := 1) hx hb dX4_append_11 (by decide) ?_
    refine kUi (fun _ => [(m0, .inr (4, [.ref m1, .long ma, .ref m2, .ref m3, .int (nI np), .ref m4, .int (nI ln), .int 1, .ref m5, .int (nI at_), .long hs])), (m4, .inl (g.2.1 0, 100, .inl tx))]) (va_runV (As := [.int 1]) (rest := []) ⟨hx, hb, hml, hown, hts⟩ (c_X4_fails l g m0 m1 m2 m3 m4 m5 ma np ln th at_ hs 1) (cwV 1 hts gX4_append_X4_fails rfl rfl rfl (by decide +kernel) ⟨(Nat.le_of_ble_eq_true rfl), (Nat.le_of_ble_eq_true rfl)⟩) (preVd (RX4, TX4, 11) hE hP hD [0] (by decide) rfl rfl) rfl rfl hl.1 rfl (lv_room (Nat.le_of_ble_eq_true rfl)) dX4_append_12 ⟨(Nat.le_of_ble_eq_true rfl), (Nat.le_of_ble_eq_true rfl)⟩) hP hD hS [0] [1] 2 [m0, m4] [(m4, .inl (g.2.1 0, 100, .inl tx))] rfl rfl rfl (fun _ => rfl) (fun _ => rfl) (fun _ => rfl) rfl (by decide) (fun r9 _ H locs hr9 hP hD hS => ?_)
    subst hr9
    subst hQ
    have hP9 : va_P g.1 vwCl [(m0, .inr (4, [.ref m1, .long ma, .ref m2, .ref m3, .int (nI np), .ref m4, .int (nI ln), .int 1, .ref m5, .int (nI at_), .long hs])), (m4, .inl (g.2.1 0, 100, .inl tx))] H := hP
    exact W.iret (v := 0) hx hb hr (fun t ht hW => ⟨⟨0, (some 1), rfl, Or.inr (Or.inl ⟨rfl, b7⟩), by show va_P g.1 vwCl _ t.heap; rw [ht]; exact hP9⟩, hS.F ht⟩) hS.2.2 dX4_append_15
theorem in_X4_clearText_X4 : ∀ w ∈ wsX40, w ∈ wsX4_clearText := by decide +kernel
abbrev rm_X4_clearText : Room := { frames := 1, cells := 0, slots := 0, locals := 21 }
set_option maxRecDepth 100000 in
set_option maxHeartbeats 4000000 in
theorem c_X4_clearText (l : Launch) (g : GT) (m0 : Nat) (m1 : Nat) (m2 : Nat) (m3 : Nat) (m4 : Nat) (m5 : Nat) (ma : Int64) (np : Nat) (ln : Nat) (th : Int32) (at_ : Nat) (hs : Int64) : cUi l g yX4_clearText wsX4_clearText rm_X4_clearText [.ref m0] [(m0, .inr (4, [.ref m1, .long ma, .ref m2, .ref m3, .int (nI np), .ref m4, .int (nI ln), .int th, .ref m5, .int (nI at_), .long hs]))] (fun r (_ : Unit) => r = (nI ln)) (fun _ => [(m0, .inr (4, [.ref m1, .long ma, .ref m2, .ref m3, .int (nI np), .ref m4, .int (nI 0), .int 0, .ref m5, .int (nI at_), .long hs]))]) := by
  refine enU (y := yX4_clearText) (ws := wsX4_clearText) (av := [.ref m0]) (cc := cX4_clearText) (maxL := 2) (ret := (some .int)) (by decide) rfl (Nat.le_of_ble_eq_true rfl) rfl ?_
  intro p e s m below meth c ls hx hb hr hml hown hts hlocks hE hP hD hl
  have hK := hE.1
  have hS : va_S (va_Ad [(m0, .inr (4, [.ref m1, .long ma, .ref m2, .ref m3, .int (nI np), .ref m4, .int (nI ln), .int th, .ref m5, .int (nI at_), .long hs]))]) s.heap s.heap [] := va_S.rf
  generalize hQ : MQ below _ _ s _ _ _ = Q9
  have hl : lv_has ls 2 [(0, .ref m0)] := hl
  refine lv_aload_n hx hb dX4_clearText_0 rfl (lv_at hl 0 rfl) ?_
  refine va_get (D := g.1) (ci := 4) (v := .int (nI ln)) (C := RX4) (T := TX4) (N := 11) hx hb hts in_X4_clearText_X4 hown hK hP 0 rfl rfl 6 (by decide) (hts _ (List.mem_of_getElem? (i := 1) rfl)) (fun _ h9 => h9) rfl dX4_clearText_1 ?_
  refine lv_istore_n (lv' := [(1, .int (nI ln)), (0, .ref m0)]) hx hb dX4_clearText_4 rfl hl (by decide) rfl (fun ls hl => ?_)
  refine lv_aload_n hx hb dX4_clearText_5 rfl (lv_at hl 1 rfl) ?_
  refine lv_iconst (v := 0) hx hb dX4_clearText_6 (by decide) ?_
  refine lv_tope (y := (nI 0)) rfl ?_
  refine va_put (D := g.1) (ci := 4) (v := .int (nI 0)) (ty := .int) (C := RX4) (T := TX4) (N := 11) hx hb hts in_X4_clearText_X4 tyX4 tyX4_ok nmX4 hown hK hP hD hS 0 rfl rfl 6 (by decide) (hts _ (List.mem_of_getElem? (i := 1) rfl)) (fun _ h9 => h9) rfl (by decide +kernel) rfl rfl (Nat.le_of_ble_eq_true rfl) dX4_clearText_7 (fun H locs hP hD hS => ?_)
  have hP : va_P g.1 vwCl [(m0, .inr (4, [.ref m1, .long ma, .ref m2, .ref m3, .int (nI np), .ref m4, .int (nI 0), .int th, .ref m5, .int (nI at_), .long hs]))] _ := hP
  have hD : va_D (va_Ad [(m0, .inr (4, [.ref m1, .long ma, .ref m2, .ref m3, .int (nI np), .ref m4, .int (nI ln), .int th, .ref m5, .int (nI at_), .long hs]))]) [(m0, .inr (4, [.ref m1, .long ma, .ref m2, .ref m3, .int (nI np), .ref m4, .int (nI 0), .int th, .ref m5, .int (nI at_), .long hs]))] := hD
  refine lv_aload_n hx hb dX4_clearText_10 rfl (lv_at hl 1 rfl) ?_
  refine lv_iload_n hx hb dX4_clearText_11 rfl (lv_at hl 0 rfl) ?_
  refine kUi (fun _ => [(m0, .inr (4, [.ref m1, .long ma, .ref m2, .ref m3, .int (nI np), .ref m4, .int (nI 0), .int 0, .ref m5, .int (nI at_), .long hs]))]) (va_runV (As := [.int (nI ln)]) (rest := []) ⟨hx, hb, hml, hown, hts⟩ (c_X4_tells l g m0 m1 m2 m3 m4 m5 ma np 0 th at_ hs (nI ln)) (cwV 1 hts gX4_clearText_X4_tells rfl rfl rfl (by decide +kernel) ⟨(Nat.le_of_ble_eq_true rfl), (Nat.le_of_ble_eq_true rfl)⟩) (preVd (RX4, TX4, 11) hE hP hD [0] (by decide) rfl rfl) rfl rfl hl.1 rfl (lv_room (Nat.le_of_ble_eq_true rfl)) dX4_clearText_12 ⟨(Nat.le_of_ble_eq_true rfl), (Nat.le_of_ble_eq_true rfl)⟩) hP hD hS [0] [] 1 [m0] [] rfl rfl rfl (fun _ => rfl) (fun _ => rfl) (fun _ => rfl) rfl (by decide) (fun r9 _ H locs hr9 hP hD hS => ?_)
  subst hr9
  subst hQ
  have hP9 : va_P g.1 vwCl [(m0, .inr (4, [.ref m1, .long ma, .ref m2, .ref m3, .int (nI np), .ref m4, .int (nI 0), .int 0, .ref m5, .int (nI at_), .long hs]))] H := hP
  exact W.iret (v := (nI ln)) hx hb hr (fun t ht hW => ⟨⟨(nI ln), (), rfl, rfl, by show va_P g.1 vwCl _ t.heap; rw [ht]; exact hP9⟩, hS.F ht⟩) hS.2.2 dX4_clearText_15
theorem in_X4_digest_X4 : ∀ w ∈ wsX40, w ∈ wsX4_digest := by decide +kernel
abbrev rm_X4_digest : Room := { frames := 5, cells := 0, slots := 0, locals := 107 }
set_option maxRecDepth 100000 in
set_option maxHeartbeats 4000000 in
theorem c_X4_digest (l : Launch) (g : GT) (m0 : Nat) (m1 : Nat) (m2 : Nat) (m3 : Nat) (m4 : Nat) (m5 : Nat) (ma : Int64) (np : Nat) (ln : Nat) (th : Int32) (at_ : Nat) (hs : Int64) (rw : Nat → Int32) (w : Nat) (hw8 : w ≤ 8) (hrw : rw 0 = nI w) : cUl l g yX4_digest wsX4_digest rm_X4_digest [.ref m0] [(m0, .inr (4, [.ref m1, .long ma, .ref m2, .ref m3, .int (nI np), .ref m4, .int (nI ln), .int th, .ref m5, .int (nI at_), .long hs])), (m1, .inl (g.2.1 0, 523, .inl rw))] (fun r (_ : Unit) => r = (dgM rw w ma ln np)) (fun _ => [(m0, .inr (4, [.ref m1, .long ma, .ref m2, .ref m3, .int (nI np), .ref m4, .int (nI ln), .int 0, .ref m5, .int (nI at_), .long (dgM rw w ma ln np)])), (m1, .inl (g.2.1 0, 523, .inl rw))]) := by
  refine enU (y := yX4_digest) (ws := wsX4_digest) (av := [.ref m0]) (cc := cX4_digest) (maxL := 2) (ret := (some .long)) (by decide) rfl (Nat.le_of_ble_eq_true rfl) rfl ?_
  intro p e s m below meth c ls hx hb hr hml hown hts hlocks hE hP hD hl
  have hK := hE.1
  have hS : va_S (va_Ad [(m0, .inr (4, [.ref m1, .long ma, .ref m2, .ref m3, .int (nI np), .ref m4, .int (nI ln), .int th, .ref m5, .int (nI at_), .long hs])), (m1, .inl (g.2.1 0, 523, .inl rw))]) s.heap s.heap [] := va_S.rf
  generalize hQ : MQ below _ _ s _ _ _ = Q9
  have hl : lv_has ls 2 [(0, .ref m0)] := hl
  have hgr := gr_le w hw8
  have hen := ents_le w hw8
  refine lv_aload_n hx hb dX4_digest_0 rfl (lv_at hl 0 rfl) ?_
  refine lv_iconst (v := 0) hx hb dX4_digest_1 (by decide) ?_
  refine va_put (D := g.1) (ci := 4) (v := .int 0) (ty := .int) (C := RX4) (T := TX4) (N := 11) hx hb hts in_X4_digest_X4 tyX4 tyX4_ok nmX4 hown hK hP hD hS 0 rfl rfl 7 (by decide) (hts _ (List.mem_of_getElem? (i := 1) rfl)) (fun _ h9 => h9) rfl (by decide +kernel) rfl rfl (Nat.le_of_ble_eq_true rfl) dX4_digest_2 (fun H locs hP hD hS => ?_)
  have hP : va_P g.1 vwCl [(m0, .inr (4, [.ref m1, .long ma, .ref m2, .ref m3, .int (nI np), .ref m4, .int (nI ln), .int 0, .ref m5, .int (nI at_), .long hs])), (m1, .inl (g.2.1 0, 523, .inl rw))] _ := hP
  have hD : va_D (va_Ad [(m0, .inr (4, [.ref m1, .long ma, .ref m2, .ref m3, .int (nI np), .ref m4, .int (nI ln), .int th, .ref m5, .int (nI at_), .long hs])), (m1, .inl (g.2.1 0, 523, .inl rw))]) [(m0, .inr (4, [.ref m1, .long ma, .ref m2, .ref m3, .int (nI np), .ref m4, .int (nI ln), .int 0, .ref m5, .int (nI at_), .long hs])), (m1, .inl (g.2.1 0, 523, .inl rw))] := hD
  refine lv_aload_n hx hb dX4_digest_5 rfl (lv_at hl 0 rfl) ?_
  refine lv_ldc2 (v := 3833) hx hb hown (hts _ (List.mem_of_getElem? (i := 2) rfl)) dX4_digest_6 ?_
  refine va_put (D := g.1) (ci := 4) (v := .long 3833) (ty := .long) (C := RX4) (T := TX4) (N := 11) hx hb hts in_X4_digest_X4 tyX4 tyX4_ok nmX4 hown hK hP hD hS 0 rfl rfl 10 (by decide) (hts _ (List.mem_of_getElem? (i := 3) rfl)) (fun _ h9 => h9) rfl (by decide +kernel) rfl rfl (Nat.le_of_ble_eq_true rfl) dX4_digest_9 (fun H locs hP hD hS => ?_)
  have hP : va_P g.1 vwCl [(m0, .inr (4, [.ref m1, .long ma, .ref m2, .ref m3, .int (nI np), .ref m4, .int (nI ln), .int 0, .ref m5, .int (nI at_), .long 3833])), (m1, .inl (g.2.1 0, 523, .inl rw))] _ := hP
  have hD : va_D (va_Ad [(m0, .inr (4, [.ref m1, .long ma, .ref m2, .ref m3, .int (nI np), .ref m4, .int (nI ln), .int th, .ref m5, .int (nI at_), .long hs])), (m1, .inl (g.2.1 0, 523, .inl rw))]) [(m0, .inr (4, [.ref m1, .long ma, .ref m2, .ref m3, .int (nI np), .ref m4, .int (nI ln), .int 0, .ref m5, .int (nI at_), .long 3833])), (m1, .inl (g.2.1 0, 523, .inl rw))] := hD
  refine lv_aload_n hx hb dX4_digest_12 rfl (lv_at hl 0 rfl) ?_
  refine lv_aload_n hx hb dX4_digest_13 rfl (lv_at hl 0 rfl) ?_
  refine va_get (D := g.1) (ci := 4) (v := .int (nI ln)) (C := RX4) (T := TX4) (N := 11) hx hb hts in_X4_digest_X4 hown hK hP 0 rfl rfl 6 (by decide) (hts _ (List.mem_of_getElem? (i := 4) rfl)) (fun _ h9 => h9) rfl dX4_digest_14 ?_
  refine lv_i2l (v := Int32.toInt64 (nI ln)) hx hb dX4_digest_17 rfl ?_
  refine kUv (fun _ => [(m0, .inr (4, [.ref m1, .long ma, .ref m2, .ref m3, .int (nI np), .ref m4, .int (nI ln), .int 0, .ref m5, .int (nI at_), .long (31 * 3833 + (Int32.toInt64 (nI ln)))])), (m1, .inl (g.2.1 0, 523, .inl rw))]) (va_runV (As := [.long (Int32.toInt64 (nI ln))]) (rest := []) ⟨hx, hb, hml, hown, hts⟩ (c_X4_mix l g m0 m1 m2 m3 m4 m5 ma np ln 0 at_ 3833 (Int32.toInt64 (nI ln))) (cwV 1 hts gX4_digest_X4_mix rfl rfl rfl (by decide +kernel) ⟨(Nat.le_of_ble_eq_true rfl), (Nat.le_of_ble_eq_true rfl)⟩) (preVd (RX4, TX4, 11) hE hP hD [0] (by decide) rfl rfl) rfl rfl hl.1 rfl (lv_room (Nat.le_of_ble_eq_true rfl)) dX4_digest_18 ⟨(Nat.le_of_ble_eq_true rfl), (Nat.le_of_ble_eq_true rfl)⟩) hP hD hS [0] [1] 2 [m0, m1] [(m1, .inl (g.2.1 0, 523, .inl rw))] rfl rfl rfl (fun _ => rfl) (fun _ => rfl) (fun _ => rfl) rfl (by decide) (fun _ H locs hr9 hP hD hS => ?_)
  refine lv_iconst (v := 0) hx hb dX4_digest_21 (by decide) ?_
  refine lv_istore_n (lv' := [(1, .int 0), (0, .ref m0)]) hx hb dX4_digest_22 rfl hl (by decide) rfl (fun ls hl => ?_)
  have lp23 : ∀ (n9 : Nat) (i23 : Nat), 8 - i23 < n9 → (i23 ≤ 8) → ∀ (z23 : Int64), z23 = dI (mkF rw w) (31 * 3833 + Int32.toInt64 (nI ln)) i23 → ∀ (H : Heap) (locs : List Loc), va_P g.1 vwCl [(m0, .inr (4, [.ref m1, .long ma, .ref m2, .ref m3, .int (nI np), .ref m4, .int (nI ln), .int 0, .ref m5, .int (nI at_), .long z23])), (m1, .inl (g.2.1 0, 523, .inl rw))] H → va_D (va_Ad [(m0, .inr (4, [.ref m1, .long ma, .ref m2, .ref m3, .int (nI np), .ref m4, .int (nI ln), .int th, .ref m5, .int (nI at_), .long hs])), (m1, .inl (g.2.1 0, 523, .inl rw))]) [(m0, .inr (4, [.ref m1, .long ma, .ref m2, .ref m3, .int (nI np), .ref m4, .int (nI ln), .int 0, .ref m5, .int (nI at_), .long z23])), (m1, .inl (g.2.1 0, 523, .inl rw))] → va_S (va_Ad [(m0, .inr (4, [.ref m1, .long ma, .ref m2, .ref m3, .int (nI np), .ref m4, .int (nI ln), .int th, .ref m5, .int (nI at_), .long hs])), (m1, .inl (g.2.1 0, 523, .inl rw))]) s.heap H locs → ∀ (ls : Array Slot), lv_has ls 2 [(1, .int (nI i23)), (0, .ref m0)] → W p l e rm_X4_digest s m [Value.ref m0].toArray below meth c H locs 0 0 Q9 (F0 m 23 ls []) := by
    intro n9
    induction n9 with
    | zero => intro i23 h9; exact absurd h9 (Nat.not_lt_zero _)
    | succ n9 ih23 =>
      intro i23 hm23 hi23
      intro z23 e_z23; subst e_z23
      intro H locs hP hD hS ls hl
      refine lv_iload_n hx hb dX4_digest_23 rfl (lv_at hl 0 rfl) ?_
      refine lv_bipush (v := 8) hx hb dX4_digest_24 (by decide) ?_
      refine lv_icmp_ge (tgt := 45) hx hb dX4_digest_26 (by decide) (fun c26 => ?_) (fun c26 => ?_)
      · have n26 : 8 ≤ i23 := (nI_leI (a := 8) (b := i23) (by omega) (by omega)).mp c26
        have e23 : i23 = 8 := by omega
        rw [e23] at hP hD
        refine lv_aload_n hx hb dX4_digest_45 rfl (lv_at hl 1 rfl) ?_
        refine lv_aload_n hx hb dX4_digest_46 rfl (lv_at hl 1 rfl) ?_
        refine va_get (D := g.1) (ci := 4) (v := .long ma) (C := RX4) (T := TX4) (N := 11) hx hb hts in_X4_digest_X4 hown hK hP 0 rfl rfl 1 (by decide) (hts _ (List.mem_of_getElem? (i := 5) rfl)) (fun _ h9 => h9) rfl dX4_digest_47 ?_
        refine kUv (fun _ => [(m0, .inr (4, [.ref m1, .long ma, .ref m2, .ref m3, .int (nI np), .ref m4, .int (nI ln), .int 0, .ref m5, .int (nI at_), .long (31 * (dI (mkF rw w) (31 * 3833 + Int32.toInt64 (nI ln)) 8) + ma)])), (m1, .inl (g.2.1 0, 523, .inl rw))]) (va_runV (As := [.long ma]) (rest := []) ⟨hx, hb, hml, hown, hts⟩ (c_X4_mix l g m0 m1 m2 m3 m4 m5 ma np ln 0 at_ (dI (mkF rw w) (31 * 3833 + Int32.toInt64 (nI ln)) 8) ma) (cwV 1 hts gX4_digest_X4_mix rfl rfl rfl (by decide +kernel) ⟨(Nat.le_of_ble_eq_true rfl), (Nat.le_of_ble_eq_true rfl)⟩) (preVd (RX4, TX4, 11) hE hP hD [0] (by decide) rfl rfl) rfl rfl hl.1 rfl (lv_room (Nat.le_of_ble_eq_true rfl)) dX4_digest_50 ⟨(Nat.le_of_ble_eq_true rfl), (Nat.le_of_ble_eq_true rfl)⟩) hP hD hS [0] [1] 2 [m0, m1] [(m1, .inl (g.2.1 0, 523, .inl rw))] rfl rfl rfl (fun _ => rfl) (fun _ => rfl) (fun _ => rfl) rfl (by decide) (fun _ H locs hr9 hP hD hS => ?_)
        refine lv_iconst (v := 0) hx hb dX4_digest_53 (by decide) ?_
        refine lv_istore_n (lv' := [(1, .int 0), (0, .ref m0)]) hx hb dX4_digest_54 rfl hl (by decide) rfl (fun ls hl => ?_)
        have lp55 : ∀ (n9 : Nat) (i55 : Nat), 8 - i55 < n9 → (i55 ≤ 8) → ∀ (z55 : Int64), z55 = dI (mG rw) (31 * dI (mkF rw w) (31 * 3833 + Int32.toInt64 (nI ln)) 8 + ma) i55 → ∀ (H : Heap) (locs : List Loc), va_P g.1 vwCl [(m0, .inr (4, [.ref m1, .long ma, .ref m2, .ref m3, .int (nI np), .ref m4, .int (nI ln), .int 0, .ref m5, .int (nI at_), .long z55])), (m1, .inl (g.2.1 0, 523, .inl rw))] H → va_D (va_Ad [(m0, .inr (4, [.ref m1, .long ma, .ref m2, .ref m3, .int (nI np), .ref m4, .int (nI ln), .int th, .ref m5, .int (nI at_), .long hs])), (m1, .inl (g.2.1 0, 523, .inl rw))]) [(m0, .inr (4, [.ref m1, .long ma, .ref m2, .ref m3, .int (nI np), .ref m4, .int (nI ln), .int 0, .ref m5, .int (nI at_), .long z55])), (m1, .inl (g.2.1 0, 523, .inl rw))] → va_S (va_Ad [(m0, .inr (4, [.ref m1, .long ma, .ref m2, .ref m3, .int (nI np), .ref m4, .int (nI ln), .int th, .ref m5, .int (nI at_), .long hs])), (m1, .inl (g.2.1 0, 523, .inl rw))]) s.heap H locs → ∀ (ls : Array Slot), lv_has ls 2 [(1, .int (nI i55)), (0, .ref m0)] → W p l e rm_X4_digest s m [Value.ref m0].toArray below meth c H locs 0 0 Q9 (F0 m 55 ls []) := by
          intro n9
          induction n9 with
          | zero => intro i55 h9; exact absurd h9 (Nat.not_lt_zero _)
          | succ n9 ih55 =>
            intro i55 hm55 hi55
            intro z55 e_z55; subst e_z55
            intro H locs hP hD hS ls hl
            refine lv_iload_n hx hb dX4_digest_55 rfl (lv_at hl 0 rfl) ?_
            refine lv_bipush (v := 8) hx hb dX4_digest_56 (by decide) ?_
            refine lv_icmp_ge (tgt := 80) hx hb dX4_digest_58 (by decide) (fun c58 => ?_) (fun c58 => ?_)
            · have n58 : 8 ≤ i55 := (nI_leI (a := 8) (b := i55) (by omega) (by omega)).mp c58
              have e55 : i55 = 8 := by omega
              rw [e55] at hP hD
              refine lv_iconst (v := 0) hx hb dX4_digest_80 (by decide) ?_
              refine lv_istore_n (lv' := [(1, .int 0), (0, .ref m0)]) hx hb dX4_digest_81 rfl hl (by decide) rfl (fun ls hl => ?_)
              have lp82 : ∀ (n9 : Nat) (i82 : Nat), (ents w) - i82 < n9 → (i82 ≤ (ents w)) → ∀ (z82 : Int64), z82 = dI (mS rw) (dI (mG rw) (31 * dI (mkF rw w) (31 * 3833 + Int32.toInt64 (nI ln)) 8 + ma) 8) i82 → ∀ (H : Heap) (locs : List Loc), va_P g.1 vwCl [(m0, .inr (4, [.ref m1, .long ma, .ref m2, .ref m3, .int (nI np), .ref m4, .int (nI ln), .int 0, .ref m5, .int (nI at_), .long z82])), (m1, .inl (g.2.1 0, 523, .inl rw))] H → va_D (va_Ad [(m0, .inr (4, [.ref m1, .long ma, .ref m2, .ref m3, .int (nI np), .ref m4, .int (nI ln), .int th, .ref m5, .int (nI at_), .long hs])), (m1, .inl (g.2.1 0, 523, .inl rw))]) [(m0, .inr (4, [.ref m1, .long ma, .ref m2, .ref m3, .int (nI np), .ref m4, .int (nI ln), .int 0, .ref m5, .int (nI at_), .long z82])), (m1, .inl (g.2.1 0, 523, .inl rw))] → va_S (va_Ad [(m0, .inr (4, [.ref m1, .long ma, .ref m2, .ref m3, .int (nI np), .ref m4, .int (nI ln), .int th, .ref m5, .int (nI at_), .long hs])), (m1, .inl (g.2.1 0, 523, .inl rw))]) s.heap H locs → ∀ (ls : Array Slot), lv_has ls 2 [(1, .int (nI i82)), (0, .ref m0)] → W p l e rm_X4_digest s m [Value.ref m0].toArray below meth c H locs 0 0 Q9 (F0 m 82 ls []) := by
                intro n9
                induction n9 with
                | zero => intro i82 h9; exact absurd h9 (Nat.not_lt_zero _)
                | succ n9 ih82 =>
                  intro i82 hm82 hi82
                  intro z82 e_z82; subst e_z82
                  intro H locs hP hD hS ls hl
                  refine lv_iload_n hx hb dX4_digest_82 rfl (lv_at hl 0 rfl) ?_
                  refine lv_aload_n hx hb dX4_digest_83 rfl (lv_at hl 1 rfl) ?_
                  refine kRi (va_runV (As := []) (rest := [.int (nI i82)]) ⟨hx, hb, hml, hown, hts⟩ (c_X4_entries l g m0 m1 m2 m3 m4 m5 ma np ln 0 at_ (dI (mS rw) (dI (mG rw) (31 * dI (mkF rw w) (31 * 3833 + Int32.toInt64 (nI ln)) 8 + ma) 8) i82) rw w (by first | assumption | omega | exact Nat.le_of_ble_eq_true rfl) (by first | assumption | omega | exact Nat.le_of_ble_eq_true rfl)) (cwV 0 hts gX4_digest_X4_entries rfl rfl rfl (by decide +kernel) ⟨(Nat.le_of_ble_eq_true rfl), (Nat.le_of_ble_eq_true rfl)⟩) (preV (RX4, TX4, 11) hE hP [0, 1] rfl rfl) rfl rfl hl.1 rfl (lv_room (Nat.le_of_ble_eq_true rfl)) dX4_digest_84 ⟨(Nat.le_of_ble_eq_true rfl), (Nat.le_of_ble_eq_true rfl)⟩) hP hS (fun r9 H locs hr9 hP hS => ?_)
                  subst hr9
                  refine lv_icmp_ge (tgt := 110) hx hb dX4_digest_87 (by decide) (fun c87 => ?_) (fun c87 => ?_)
                  · have n87 : ents w ≤ i82 := (nI_leI (a := ents w) (b := i82) (by omega) (by omega)).mp c87
                    have e82 : i82 = ents w := by omega
                    rw [e82] at hP hD
                    refine lv_aload_n hx hb dX4_digest_110 rfl (lv_at hl 1 rfl) ?_
                    refine lv_aload_n hx hb dX4_digest_111 rfl (lv_at hl 1 rfl) ?_
                    refine kRi (va_runV (As := []) (rest := [.ref m0]) ⟨hx, hb, hml, hown, hts⟩ (c_X4_firstOf l g m0 m1 m2 m3 m4 m5 ma np ln 0 at_ (dI (mS rw) (dI (mG rw) (31 * dI (mkF rw w) (31 * 3833 + Int32.toInt64 (nI ln)) 8 + ma) 8) (ents w)) rw w (by first | assumption | omega | exact Nat.le_of_ble_eq_true rfl) (by first | assumption | omega | exact Nat.le_of_ble_eq_true rfl)) (cwV 0 hts gX4_digest_X4_firstOf rfl rfl rfl (by decide +kernel) ⟨(Nat.le_of_ble_eq_true rfl), (Nat.le_of_ble_eq_true rfl)⟩) (preV (RX4, TX4, 11) hE hP [0, 1] rfl rfl) rfl rfl hl.1 rfl (lv_room (Nat.le_of_ble_eq_true rfl)) dX4_digest_112 ⟨(Nat.le_of_ble_eq_true rfl), (Nat.le_of_ble_eq_true rfl)⟩) hP hS (fun r9 H locs hr9 hP hS => ?_)
                    subst hr9
                    refine lv_i2l (v := Int32.toInt64 (fwF (mS rw) (gr w))) hx hb dX4_digest_115 rfl ?_
                    refine kUv (fun _ => [(m0, .inr (4, [.ref m1, .long ma, .ref m2, .ref m3, .int (nI np), .ref m4, .int (nI ln), .int 0, .ref m5, .int (nI at_), .long (31 * (dI (mS rw) (dI (mG rw) (31 * dI (mkF rw w) (31 * 3833 + Int32.toInt64 (nI ln)) 8 + ma) 8) (ents w)) + (Int32.toInt64 (fwF (mS rw) (gr w))))])), (m1, .inl (g.2.1 0, 523, .inl rw))]) (va_runV (As := [.long (Int32.toInt64 (fwF (mS rw) (gr w)))]) (rest := []) ⟨hx, hb, hml, hown, hts⟩ (c_X4_mix l g m0 m1 m2 m3 m4 m5 ma np ln 0 at_ (dI (mS rw) (dI (mG rw) (31 * dI (mkF rw w) (31 * 3833 + Int32.toInt64 (nI ln)) 8 + ma) 8) (ents w)) (Int32.toInt64 (fwF (mS rw) (gr w)))) (cwV 1 hts gX4_digest_X4_mix rfl rfl rfl (by decide +kernel) ⟨(Nat.le_of_ble_eq_true rfl), (Nat.le_of_ble_eq_true rfl)⟩) (preVd (RX4, TX4, 11) hE hP hD [0] (by decide) rfl rfl) rfl rfl hl.1 rfl (lv_room (Nat.le_of_ble_eq_true rfl)) dX4_digest_116 ⟨(Nat.le_of_ble_eq_true rfl), (Nat.le_of_ble_eq_true rfl)⟩) hP hD hS [0] [1] 2 [m0, m1] [(m1, .inl (g.2.1 0, 523, .inl rw))] rfl rfl rfl (fun _ => rfl) (fun _ => rfl) (fun _ => rfl) rfl (by decide) (fun _ H locs hr9 hP hD hS => ?_)
                    refine lv_aload_n hx hb dX4_digest_119 rfl (lv_at hl 1 rfl) ?_
                    refine lv_aload_n hx hb dX4_digest_120 rfl (lv_at hl 1 rfl) ?_
                    refine va_get (D := g.1) (ci := 4) (v := .int (nI np)) (C := RX4) (T := TX4) (N := 11) hx hb hts in_X4_digest_X4 hown hK hP 0 rfl rfl 4 (by decide) (hts _ (List.mem_of_getElem? (i := 7) rfl)) (fun _ h9 => h9) rfl dX4_digest_121 ?_
                    refine lv_i2l (v := Int32.toInt64 (nI np)) hx hb dX4_digest_124 rfl ?_
                    refine kUv (fun _ => [(m0, .inr (4, [.ref m1, .long ma, .ref m2, .ref m3, .int (nI np), .ref m4, .int (nI ln), .int 0, .ref m5, .int (nI at_), .long (31 * (31 * (dI (mS rw) (dI (mG rw) (31 * dI (mkF rw w) (31 * 3833 + Int32.toInt64 (nI ln)) 8 + ma) 8) (ents w)) + (Int32.toInt64 (fwF (mS rw) (gr w)))) + (Int32.toInt64 (nI np)))])), (m1, .inl (g.2.1 0, 523, .inl rw))]) (va_runV (As := [.long (Int32.toInt64 (nI np))]) (rest := []) ⟨hx, hb, hml, hown, hts⟩ (c_X4_mix l g m0 m1 m2 m3 m4 m5 ma np ln 0 at_ (31 * (dI (mS rw) (dI (mG rw) (31 * dI (mkF rw w) (31 * 3833 + Int32.toInt64 (nI ln)) 8 + ma) 8) (ents w)) + (Int32.toInt64 (fwF (mS rw) (gr w)))) (Int32.toInt64 (nI np))) (cwV 1 hts gX4_digest_X4_mix rfl rfl rfl (by decide +kernel) ⟨(Nat.le_of_ble_eq_true rfl), (Nat.le_of_ble_eq_true rfl)⟩) (preVd (RX4, TX4, 11) hE hP hD [0] (by decide) rfl rfl) rfl rfl hl.1 rfl (lv_room (Nat.le_of_ble_eq_true rfl)) dX4_digest_125 ⟨(Nat.le_of_ble_eq_true rfl), (Nat.le_of_ble_eq_true rfl)⟩) hP hD hS [0] [1] 2 [m0, m1] [(m1, .inl (g.2.1 0, 523, .inl rw))] rfl rfl rfl (fun _ => rfl) (fun _ => rfl) (fun _ => rfl) rfl (by decide) (fun _ H locs hr9 hP hD hS => ?_)
                    refine lv_aload_n hx hb dX4_digest_128 rfl (lv_at hl 1 rfl) ?_
                    refine va_get (D := g.1) (ci := 4) (v := .long (31 * (31 * (dI (mS rw) (dI (mG rw) (31 * dI (mkF rw w) (31 * 3833 + Int32.toInt64 (nI ln)) 8 + ma) 8) (ents w)) + (Int32.toInt64 (fwF (mS rw) (gr w)))) + (Int32.toInt64 (nI np)))) (C := RX4) (T := TX4) (N := 11) hx hb hts in_X4_digest_X4 hown hK hP 0 rfl rfl 10 (by decide) (hts _ (List.mem_of_getElem? (i := 3) rfl)) (fun _ h9 => h9) rfl dX4_digest_129 ?_
                    subst hQ
                    have hP9 : va_P g.1 vwCl [(m0, .inr (4, [.ref m1, .long ma, .ref m2, .ref m3, .int (nI np), .ref m4, .int (nI ln), .int 0, .ref m5, .int (nI at_), .long (dgM rw w ma ln np)])), (m1, .inl (g.2.1 0, 523, .inl rw))] H := hP
                    exact W.lret (v := (31 * (31 * (dI (mS rw) (dI (mG rw) (31 * dI (mkF rw w) (31 * 3833 + Int32.toInt64 (nI ln)) 8 + ma) 8) (ents w)) + (Int32.toInt64 (fwF (mS rw) (gr w)))) + (Int32.toInt64 (nI np)))) hx hb hr (fun t ht hW => ⟨⟨(31 * (31 * (dI (mS rw) (dI (mG rw) (31 * dI (mkF rw w) (31 * 3833 + Int32.toInt64 (nI ln)) 8 + ma) 8) (ents w)) + (Int32.toInt64 (fwF (mS rw) (gr w)))) + (Int32.toInt64 (nI np))), (), rfl, rfl, by show va_P g.1 vwCl _ t.heap; rw [ht]; exact hP9⟩, hS.F ht⟩) hS.2.2 dX4_digest_132
                  · have n87 : i82 < ents w := Nat.lt_of_not_le (fun h9 => c87 ((nI_leI (a := ents w) (b := i82) (by omega) (by omega)).mpr h9))
                    refine lv_aload_n hx hb dX4_digest_90 rfl (lv_at hl 1 rfl) ?_
                    refine lv_aload_n hx hb dX4_digest_91 rfl (lv_at hl 1 rfl) ?_
                    refine va_get (D := g.1) (ci := 4) (v := .ref m1) (C := RX4) (T := TX4) (N := 11) hx hb hts in_X4_digest_X4 hown hK hP 0 rfl rfl 0 (by decide) (hts _ (List.mem_of_getElem? (i := 6) rfl)) (fun _ h9 => h9) rfl dX4_digest_92 ?_
                    refine lv_bipush (v := 12) hx hb dX4_digest_95 (by decide) ?_
                    refine lv_iload_n hx hb dX4_digest_97 rfl (lv_at hl 0 rfl) ?_
                    refine lv_iadd hx hb dX4_digest_98 ?_
                    refine lv_tope (y := (nI (12 + i82))) (show (12 + (nI i82) : Int32) = nI (12 + i82) from nI_add (12) (i82)) ?_
                    refine gIald (k := (12 + i82)) hx hb hE hP 1 rfl (by omega) (by omega) dX4_digest_99 ?_
                    refine lv_i2l (v := Int32.toInt64 (rw (12 + i82))) hx hb dX4_digest_100 rfl ?_
                    refine kUv (fun _ => [(m0, .inr (4, [.ref m1, .long ma, .ref m2, .ref m3, .int (nI np), .ref m4, .int (nI ln), .int 0, .ref m5, .int (nI at_), .long (31 * (dI (mS rw) (dI (mG rw) (31 * dI (mkF rw w) (31 * 3833 + Int32.toInt64 (nI ln)) 8 + ma) 8) i82) + (Int32.toInt64 (rw (12 + i82))))])), (m1, .inl (g.2.1 0, 523, .inl rw))]) (va_runV (As := [.long (Int32.toInt64 (rw (12 + i82)))]) (rest := []) ⟨hx, hb, hml, hown, hts⟩ (c_X4_mix l g m0 m1 m2 m3 m4 m5 ma np ln 0 at_ (dI (mS rw) (dI (mG rw) (31 * dI (mkF rw w) (31 * 3833 + Int32.toInt64 (nI ln)) 8 + ma) 8) i82) (Int32.toInt64 (rw (12 + i82)))) (cwV 1 hts gX4_digest_X4_mix rfl rfl rfl (by decide +kernel) ⟨(Nat.le_of_ble_eq_true rfl), (Nat.le_of_ble_eq_true rfl)⟩) (preVd (RX4, TX4, 11) hE hP hD [0] (by decide) rfl rfl) rfl rfl hl.1 rfl (lv_room (Nat.le_of_ble_eq_true rfl)) dX4_digest_101 ⟨(Nat.le_of_ble_eq_true rfl), (Nat.le_of_ble_eq_true rfl)⟩) hP hD hS [0] [1] 2 [m0, m1] [(m1, .inl (g.2.1 0, 523, .inl rw))] rfl rfl rfl (fun _ => rfl) (fun _ => rfl) (fun _ => rfl) rfl (by decide) (fun _ H locs hr9 hP hD hS => ?_)
                    refine lv_iinc (v := (nI (i82 + 1))) (lv' := [(1, .int (nI (i82 + 1))), (0, .ref m0)]) hx hb dX4_digest_104 hl (k := 0) rfl (nI_add (i82) 1) (by decide) rfl (fun ls hl => ?_)
                    refine lv_goto (tgt := 82) hx hb dX4_digest_107 (by decide) ?_
                    exact ih82 (i82 + 1) (by omega) (by omega) (31 * (dI (mS rw) (dI (mG rw) (31 * dI (mkF rw w) (31 * 3833 + Int32.toInt64 (nI ln)) 8 + ma) 8) i82) + (Int32.toInt64 (rw (12 + i82)))) rfl _ _ hP hD hS _ (lv_sub hl [0, 1] rfl)
              exact lp82 (((ents w) - 0) + 1) 0 (Nat.lt_succ_self _) (by omega) (dI (mG rw) (31 * dI (mkF rw w) (31 * 3833 + Int32.toInt64 (nI ln)) 8 + ma) 8) rfl _ _ hP hD hS _ (lv_sub hl [0, 1] rfl)
            · have n58 : i55 < 8 := Nat.lt_of_not_le (fun h9 => c58 ((nI_leI (a := 8) (b := i55) (by omega) (by omega)).mpr h9))
              refine lv_aload_n hx hb dX4_digest_61 rfl (lv_at hl 1 rfl) ?_
              refine lv_aload_n hx hb dX4_digest_62 rfl (lv_at hl 1 rfl) ?_
              refine va_get (D := g.1) (ci := 4) (v := .ref m1) (C := RX4) (T := TX4) (N := 11) hx hb hts in_X4_digest_X4 hown hK hP 0 rfl rfl 0 (by decide) (hts _ (List.mem_of_getElem? (i := 6) rfl)) (fun _ h9 => h9) rfl dX4_digest_63 ?_
              refine lv_iconst (v := 4) hx hb dX4_digest_66 (by decide) ?_
              refine lv_iload_n hx hb dX4_digest_67 rfl (lv_at hl 0 rfl) ?_
              refine lv_iadd hx hb dX4_digest_68 ?_
              refine lv_tope (y := (nI (4 + i55))) (show (4 + (nI i55) : Int32) = nI (4 + i55) from nI_add (4) (i55)) ?_
              refine gIald (k := (4 + i55)) hx hb hE hP 1 rfl (by omega) (by omega) dX4_digest_69 ?_
              refine lv_i2l (v := Int32.toInt64 (rw (4 + i55))) hx hb dX4_digest_70 rfl ?_
              refine kUv (fun _ => [(m0, .inr (4, [.ref m1, .long ma, .ref m2, .ref m3, .int (nI np), .ref m4, .int (nI ln), .int 0, .ref m5, .int (nI at_), .long (31 * (dI (mG rw) (31 * dI (mkF rw w) (31 * 3833 + Int32.toInt64 (nI ln)) 8 + ma) i55) + (Int32.toInt64 (rw (4 + i55))))])), (m1, .inl (g.2.1 0, 523, .inl rw))]) (va_runV (As := [.long (Int32.toInt64 (rw (4 + i55)))]) (rest := []) ⟨hx, hb, hml, hown, hts⟩ (c_X4_mix l g m0 m1 m2 m3 m4 m5 ma np ln 0 at_ (dI (mG rw) (31 * dI (mkF rw w) (31 * 3833 + Int32.toInt64 (nI ln)) 8 + ma) i55) (Int32.toInt64 (rw (4 + i55)))) (cwV 1 hts gX4_digest_X4_mix rfl rfl rfl (by decide +kernel) ⟨(Nat.le_of_ble_eq_true rfl), (Nat.le_of_ble_eq_true rfl)⟩) (preVd (RX4, TX4, 11) hE hP hD [0] (by decide) rfl rfl) rfl rfl hl.1 rfl (lv_room (Nat.le_of_ble_eq_true rfl)) dX4_digest_71 ⟨(Nat.le_of_ble_eq_true rfl), (Nat.le_of_ble_eq_true rfl)⟩) hP hD hS [0] [1] 2 [m0, m1] [(m1, .inl (g.2.1 0, 523, .inl rw))] rfl rfl rfl (fun _ => rfl) (fun _ => rfl) (fun _ => rfl) rfl (by decide) (fun _ H locs hr9 hP hD hS => ?_)
              refine lv_iinc (v := (nI (i55 + 1))) (lv' := [(1, .int (nI (i55 + 1))), (0, .ref m0)]) hx hb dX4_digest_74 hl (k := 0) rfl (nI_add (i55) 1) (by decide) rfl (fun ls hl => ?_)
              refine lv_goto (tgt := 55) hx hb dX4_digest_77 (by decide) ?_
              exact ih55 (i55 + 1) (by omega) (by omega) (31 * (dI (mG rw) (31 * dI (mkF rw w) (31 * 3833 + Int32.toInt64 (nI ln)) 8 + ma) i55) + (Int32.toInt64 (rw (4 + i55)))) rfl _ _ hP hD hS _ (lv_sub hl [0, 1] rfl)
        exact lp55 ((8 - 0) + 1) 0 (Nat.lt_succ_self _) (by omega) (31 * (dI (mkF rw w) (31 * 3833 + Int32.toInt64 (nI ln)) 8) + ma) rfl _ _ hP hD hS _ (lv_sub hl [0, 1] rfl)
      · have n26 : i23 < 8 := Nat.lt_of_not_le (fun h9 => c26 ((nI_leI (a := 8) (b := i23) (by omega) (by omega)).mpr h9))
        refine lv_aload_n hx hb dX4_digest_29 rfl (lv_at hl 1 rfl) ?_
        refine lv_aload_n hx hb dX4_digest_30 rfl (lv_at hl 1 rfl) ?_
        refine lv_iload_n hx hb dX4_digest_31 rfl (lv_at hl 0 rfl) ?_
        refine kRi (va_runV (As := [.int (nI i23)]) (rest := [.ref m0]) ⟨hx, hb, hml, hown, hts⟩ (c_X4_counted l g m0 m1 m2 m3 m4 m5 ma np ln 0 at_ (dI (mkF rw w) (31 * 3833 + Int32.toInt64 (nI ln)) i23) rw w i23 (by first | assumption | omega | exact Nat.le_of_ble_eq_true rfl) (by first | assumption | omega | exact Nat.le_of_ble_eq_true rfl) (by first | assumption | omega | exact Nat.le_of_ble_eq_true rfl)) (cwV 1 hts gX4_digest_X4_counted rfl rfl rfl (by decide +kernel) ⟨(Nat.le_of_ble_eq_true rfl), (Nat.le_of_ble_eq_true rfl)⟩) (preV (RX4, TX4, 11) hE hP [0, 1] rfl rfl) rfl rfl hl.1 rfl (lv_room (Nat.le_of_ble_eq_true rfl)) dX4_digest_32 ⟨(Nat.le_of_ble_eq_true rfl), (Nat.le_of_ble_eq_true rfl)⟩) hP hS (fun r9 H locs hr9 hP hS => ?_)
        subst hr9
        refine lv_i2l (v := Int32.toInt64 (mkF rw w i23)) hx hb dX4_digest_35 rfl ?_
        refine kUv (fun _ => [(m0, .inr (4, [.ref m1, .long ma, .ref m2, .ref m3, .int (nI np), .ref m4, .int (nI ln), .int 0, .ref m5, .int (nI at_), .long (31 * (dI (mkF rw w) (31 * 3833 + Int32.toInt64 (nI ln)) i23) + (Int32.toInt64 (mkF rw w i23)))])), (m1, .inl (g.2.1 0, 523, .inl rw))]) (va_runV (As := [.long (Int32.toInt64 (mkF rw w i23))]) (rest := []) ⟨hx, hb, hml, hown, hts⟩ (c_X4_mix l g m0 m1 m2 m3 m4 m5 ma np ln 0 at_ (dI (mkF rw w) (31 * 3833 + Int32.toInt64 (nI ln)) i23) (Int32.toInt64 (mkF rw w i23))) (cwV 1 hts gX4_digest_X4_mix rfl rfl rfl (by decide +kernel) ⟨(Nat.le_of_ble_eq_true rfl), (Nat.le_of_ble_eq_true rfl)⟩) (preVd (RX4, TX4, 11) hE hP hD [0] (by decide) rfl rfl) rfl rfl hl.1 rfl (lv_room (Nat.le_of_ble_eq_true rfl)) dX4_digest_36 ⟨(Nat.le_of_ble_eq_true rfl), (Nat.le_of_ble_eq_true rfl)⟩) hP hD hS [0] [1] 2 [m0, m1] [(m1, .inl (g.2.1 0, 523, .inl rw))] rfl rfl rfl (fun _ => rfl) (fun _ => rfl) (fun _ => rfl) rfl (by decide) (fun _ H locs hr9 hP hD hS => ?_)
        refine lv_iinc (v := (nI (i23 + 1))) (lv' := [(1, .int (nI (i23 + 1))), (0, .ref m0)]) hx hb dX4_digest_39 hl (k := 0) rfl (nI_add (i23) 1) (by decide) rfl (fun ls hl => ?_)
        refine lv_goto (tgt := 23) hx hb dX4_digest_42 (by decide) ?_
        exact ih23 (i23 + 1) (by omega) (by omega) (31 * (dI (mkF rw w) (31 * 3833 + Int32.toInt64 (nI ln)) i23) + (Int32.toInt64 (mkF rw w i23))) rfl _ _ hP hD hS _ (lv_sub hl [0, 1] rfl)
  exact lp23 ((8 - 0) + 1) 0 (Nat.lt_succ_self _) (by omega) (31 * 3833 + (Int32.toInt64 (nI ln))) rfl _ _ hP hD hS _ (lv_sub hl [0, 1] rfl)
