/-! MODEL, its keeping methods: printed by wip/whole/gen/spec_model2.py -/
theorem in_X4_begin_X4 : ∀ w ∈ wsX40, w ∈ wsX4_begin := by decide +kernel
abbrev rm_X4_begin : Room := { frames := 2, cells := 0, slots := 0, locals := 40 }
set_option maxRecDepth 100000 in
set_option maxHeartbeats 4000000 in
theorem c_X4_begin (l : Launch) (g : GT) (m0 : Nat) (m1 : Nat) (m2 : Nat) (m3 : Nat) (m4 : Nat) (m5 : Nat) (ma : Int64) (np : Nat) (ln : Nat) (th : Int32) (at_ : Nat) (hs : Int64) (rw : Nat → Int32) (w : Nat) (w2 : Nat) (hw2 : w2 ≤ 8) : cUv l g yX4_begin wsX4_begin rm_X4_begin [.ref m0, .int (nI w2)] [(m0, .inr (4, [.ref m1, .long ma, .ref m2, .ref m3, .int (nI np), .ref m4, .int (nI ln), .int th, .ref m5, .int (nI at_), .long hs])), (m1, .inl (g.2.1 0, 523, .inl rw))] (fun (_ : Unit) => True) (fun _ => [(m0, .inr (4, [.ref m1, .long 0, .ref m2, .ref m3, .int (nI np), .ref m4, .int (nI ln), .int th, .ref m5, .int (nI at_), .long hs])), (m1, .inl (g.2.1 0, 523, .inl (bgF rw w2)))]) := by
  refine enU (y := yX4_begin) (ws := wsX4_begin) (av := [.ref m0, .int (nI w2)]) (cc := cX4_begin) (maxL := 3) (ret := none) (by decide) rfl (Nat.le_of_ble_eq_true rfl) rfl ?_
  intro p e s m below meth c ls hx hb hr hml hown hts hlocks hE hP hD hl
  have hK := hE.1
  have hS : va_S (va_Ad [(m0, .inr (4, [.ref m1, .long ma, .ref m2, .ref m3, .int (nI np), .ref m4, .int (nI ln), .int th, .ref m5, .int (nI at_), .long hs])), (m1, .inl (g.2.1 0, 523, .inl rw))]) s.heap s.heap [] := va_S.rf
  generalize hQ : MQ below _ _ s _ _ _ = Q9
  have hl : lv_has ls 3 [(0, .ref m0), (1, .int (nI w2))] := hl
  have hen := ents_le w2 hw2
  refine lv_aload_n hx hb dX4_begin_0 rfl (lv_at hl 0 rfl) ?_
  refine va_get (D := g.1) (ci := 4) (v := .ref m1) (C := RX4) (T := TX4) (N := 11) hx hb hts in_X4_begin_X4 hown hK hP 0 rfl rfl 0 (by decide) (hts _ (List.mem_of_getElem? (i := 1) rfl)) (fun _ h9 => h9) rfl dX4_begin_1 ?_
  refine lv_iconst (v := 0) hx hb dX4_begin_4 (by decide) ?_
  refine lv_iload_n hx hb dX4_begin_5 rfl (lv_at hl 1 rfl) ?_
  rw [show (0 : Int32) = nI 0 from rfl]
  refine gIast (k := 0) (x := (nI w2)) (wsn := [(m0, .inr (4, [.ref m1, .long ma, .ref m2, .ref m3, .int (nI np), .ref m4, .int (nI ln), .int th, .ref m5, .int (nI at_), .long hs])), (m1, .inl (g.2.1 0, 523, .inl (upd rw 0 (nI w2))))]) hx hb hE hP hD hS 1 rfl (by omega) (by omega) dX4_begin_6 (hw := rfl) (kk := fun H locs hP hD hS => ?_)
  refine lv_iconst (v := 0) hx hb dX4_begin_7 (by decide) ?_
  refine lv_istore_n (lv' := [(2, .int 0), (0, .ref m0), (1, .int (nI w2))]) hx hb dX4_begin_8 rfl hl (by decide) rfl (fun ls hl => ?_)
  have lp9 : ∀ (n9 : Nat) (i : Nat), 8 - i < n9 → (i ≤ 8) → ∀ (f1 : Nat → Int32), f1 = bg1 rw w2 i → ∀ (H : Heap) (locs : List Loc), va_P g.1 vwCl [(m0, .inr (4, [.ref m1, .long ma, .ref m2, .ref m3, .int (nI np), .ref m4, .int (nI ln), .int th, .ref m5, .int (nI at_), .long hs])), (m1, .inl (g.2.1 0, 523, .inl f1))] H → va_D (va_Ad [(m0, .inr (4, [.ref m1, .long ma, .ref m2, .ref m3, .int (nI np), .ref m4, .int (nI ln), .int th, .ref m5, .int (nI at_), .long hs])), (m1, .inl (g.2.1 0, 523, .inl rw))]) [(m0, .inr (4, [.ref m1, .long ma, .ref m2, .ref m3, .int (nI np), .ref m4, .int (nI ln), .int th, .ref m5, .int (nI at_), .long hs])), (m1, .inl (g.2.1 0, 523, .inl f1))] → va_S (va_Ad [(m0, .inr (4, [.ref m1, .long ma, .ref m2, .ref m3, .int (nI np), .ref m4, .int (nI ln), .int th, .ref m5, .int (nI at_), .long hs])), (m1, .inl (g.2.1 0, 523, .inl rw))]) s.heap H locs → ∀ (ls : Array Slot), lv_has ls 3 [(2, .int (nI i)), (0, .ref m0), (1, .int (nI w2))] → W p l e rm_X4_begin s m [Value.ref m0, .int (nI w2)].toArray below meth c H locs 0 0 Q9 (F0 m 9 ls []) := by
    intro n9
    induction n9 with
    | zero => intro i h9; exact absurd h9 (Nat.not_lt_zero _)
    | succ n9 ih9 =>
      intro i hm9 hi
      intro f1 e_f1; subst e_f1
      intro H locs hP hD hS ls hl
      refine lv_iload_n hx hb dX4_begin_9 rfl (lv_at hl 0 rfl) ?_
      refine lv_bipush (v := 8) hx hb dX4_begin_10 (by decide) ?_
      refine lv_icmp_ge (tgt := 30) hx hb dX4_begin_12 (by decide) (fun c12 => ?_) (fun c12 => ?_)
      · have n12 : 8 ≤ i := (nI_leI (a := 8) (b := i) (by omega) (by omega)).mp c12
        have e9 : i = 8 := by omega
        refine lv_aload_n hx hb dX4_begin_30 rfl (lv_at hl 1 rfl) ?_
        refine lv_lconst (v := 0) hx hb dX4_begin_31 (by decide) ?_
        refine va_put (D := g.1) (ci := 4) (v := .long 0) (ty := .long) (C := RX4) (T := TX4) (N := 11) hx hb hts in_X4_begin_X4 tyX4 tyX4_ok nmX4 hown hK hP hD hS 0 rfl rfl 1 (by decide) (hts _ (List.mem_of_getElem? (i := 2) rfl)) (fun _ h9 => h9) rfl (by decide +kernel) rfl rfl (Nat.le_of_ble_eq_true rfl) dX4_begin_32 (fun H locs hP hD hS => ?_)
        have hP : va_P g.1 vwCl [(m0, .inr (4, [.ref m1, .long 0, .ref m2, .ref m3, .int (nI np), .ref m4, .int (nI ln), .int th, .ref m5, .int (nI at_), .long hs])), (m1, .inl (g.2.1 0, 523, .inl (bg1 rw w2 i)))] _ := hP
        have hD : va_D (va_Ad [(m0, .inr (4, [.ref m1, .long ma, .ref m2, .ref m3, .int (nI np), .ref m4, .int (nI ln), .int th, .ref m5, .int (nI at_), .long hs])), (m1, .inl (g.2.1 0, 523, .inl rw))]) [(m0, .inr (4, [.ref m1, .long 0, .ref m2, .ref m3, .int (nI np), .ref m4, .int (nI ln), .int th, .ref m5, .int (nI at_), .long hs])), (m1, .inl (g.2.1 0, 523, .inl (bg1 rw w2 i)))] := hD
        refine lv_iconst (v := 0) hx hb dX4_begin_35 (by decide) ?_
        refine lv_istore_n (lv' := [(2, .int 0), (0, .ref m0), (1, .int (nI w2))]) hx hb dX4_begin_36 rfl hl (by decide) rfl (fun ls hl => ?_)
        have lp37 : ∀ (n9 : Nat) (k : Nat), 511 - k < n9 → (k ≤ 511) → ∀ (f2 : Nat → Int32), f2 = bg2 rw w2 k → ∀ (H : Heap) (locs : List Loc), va_P g.1 vwCl [(m0, .inr (4, [.ref m1, .long 0, .ref m2, .ref m3, .int (nI np), .ref m4, .int (nI ln), .int th, .ref m5, .int (nI at_), .long hs])), (m1, .inl (g.2.1 0, 523, .inl f2))] H → va_D (va_Ad [(m0, .inr (4, [.ref m1, .long ma, .ref m2, .ref m3, .int (nI np), .ref m4, .int (nI ln), .int th, .ref m5, .int (nI at_), .long hs])), (m1, .inl (g.2.1 0, 523, .inl rw))]) [(m0, .inr (4, [.ref m1, .long 0, .ref m2, .ref m3, .int (nI np), .ref m4, .int (nI ln), .int th, .ref m5, .int (nI at_), .long hs])), (m1, .inl (g.2.1 0, 523, .inl f2))] → va_S (va_Ad [(m0, .inr (4, [.ref m1, .long ma, .ref m2, .ref m3, .int (nI np), .ref m4, .int (nI ln), .int th, .ref m5, .int (nI at_), .long hs])), (m1, .inl (g.2.1 0, 523, .inl rw))]) s.heap H locs → ∀ (ls : Array Slot), lv_has ls 3 [(2, .int (nI k)), (0, .ref m0), (1, .int (nI w2))] → W p l e rm_X4_begin s m [Value.ref m0, .int (nI w2)].toArray below meth c H locs 0 0 Q9 (F0 m 37 ls []) := by
          intro n9
          induction n9 with
          | zero => intro k h9; exact absurd h9 (Nat.not_lt_zero _)
          | succ n9 ih37 =>
            intro k hm37 hk
            intro f2 e_f2; subst e_f2
            intro H locs hP hD hS ls hl
            have hrw9 : bg2 rw w2 k 0 = nI w2 := bg2_w
            refine lv_iload_n hx hb dX4_begin_37 rfl (lv_at hl 0 rfl) ?_
            refine lv_sipush (v := 511) hx hb dX4_begin_38 (by decide) ?_
            refine lv_icmp_ge (tgt := 75) hx hb dX4_begin_41 (by decide) (fun c41 => ?_) (fun c41 => ?_)
            · have n41 : 511 ≤ k := (nI_leI (a := 511) (b := k) (by omega) (by omega)).mp c41
              have e8 : k = 511 := by omega
              subst hQ
              have hP9 : va_P g.1 vwCl [(m0, .inr (4, [.ref m1, .long 0, .ref m2, .ref m3, .int (nI np), .ref m4, .int (nI ln), .int th, .ref m5, .int (nI at_), .long hs])), (m1, .inl (g.2.1 0, 523, .inl (bgF rw w2)))] H := by rw [e8] at hP; exact va_tellP hP 1 rfl (fun j hj => bg2_e hj) rfl
              exact W.vret hx hb hr (fun t ht hW => ⟨⟨(), rfl, trivial, by show va_P g.1 vwCl _ t.heap; rw [ht]; exact hP9⟩, hS.F ht⟩) hS.2.2 dX4_begin_75
            · have n41 : k < 511 := Nat.lt_of_not_le (fun h9 => c41 ((nI_leI (a := 511) (b := k) (by omega) (by omega)).mpr h9))
              refine lv_aload_n hx hb dX4_begin_44 rfl (lv_at hl 1 rfl) ?_
              refine va_get (D := g.1) (ci := 4) (v := .ref m1) (C := RX4) (T := TX4) (N := 11) hx hb hts in_X4_begin_X4 hown hK hP 0 rfl rfl 0 (by decide) (hts _ (List.mem_of_getElem? (i := 1) rfl)) (fun _ h9 => h9) rfl dX4_begin_45 ?_
              refine lv_bipush (v := 12) hx hb dX4_begin_48 (by decide) ?_
              refine lv_iload_n hx hb dX4_begin_50 rfl (lv_at hl 0 rfl) ?_
              refine lv_iadd hx hb dX4_begin_51 ?_
              refine lv_tope (y := (nI (12 + k))) (show (12 + (nI k) : Int32) = nI (12 + k) from nI_add (12) (k)) ?_
              refine lv_iload_n hx hb dX4_begin_52 rfl (lv_at hl 0 rfl) ?_
              refine lv_aload_n hx hb dX4_begin_53 rfl (lv_at hl 1 rfl) ?_
              refine kRi (va_runV (As := []) (rest := [.int (nI k), .int (nI (12 + k)), .ref m1]) ⟨hx, hb, hml, hown, hts⟩ (c_X4_entries l g m0 m1 m2 m3 m4 m5 0 np ln th at_ hs (bg2 rw w2 k) w2 (by first | assumption | omega | exact Nat.le_of_ble_eq_true rfl) (by first | assumption | omega | exact Nat.le_of_ble_eq_true rfl)) (cwV 0 hts gX4_begin_X4_entries rfl rfl rfl (by decide +kernel) ⟨(Nat.le_of_ble_eq_true rfl), (Nat.le_of_ble_eq_true rfl)⟩) (preV (RX4, TX4, 11) hE hP [0, 1] rfl rfl) rfl rfl hl.1 rfl (lv_room (Nat.le_of_ble_eq_true rfl)) dX4_begin_54 ⟨(Nat.le_of_ble_eq_true rfl), (Nat.le_of_ble_eq_true rfl)⟩) hP hS (fun r9 H locs hr9 hP hS => ?_)
              subst hr9
              refine lv_icmp_ge (tgt := 67) hx hb dX4_begin_57 (by decide) (fun c57 => ?_) (fun c57 => ?_)
              · have n57 : ents w2 ≤ k := (nI_leI (a := ents w2) (b := k) (by omega) (by omega)).mp c57
                refine lv_iconst (v := 0) hx hb dX4_begin_67 (by decide) ?_
                refine gIast (k := (12 + k)) (x := 0) (wsn := [(m0, .inr (4, [.ref m1, .long 0, .ref m2, .ref m3, .int (nI np), .ref m4, .int (nI ln), .int th, .ref m5, .int (nI at_), .long hs])), (m1, .inl (g.2.1 0, 523, .inl (upd (bg2 rw w2 k) (12 + k) 0)))]) hx hb hE hP hD hS 1 rfl (by omega) (by omega) dX4_begin_68 (hw := rfl) (kk := fun H locs hP hD hS => ?_)
                refine lv_iinc (v := (nI (k + 1))) (lv' := [(2, .int (nI (k + 1))), (0, .ref m0), (1, .int (nI w2))]) hx hb dX4_begin_69 hl (k := 0) rfl (nI_add (k) 1) (by decide) rfl (fun ls hl => ?_)
                refine lv_goto (tgt := 37) hx hb dX4_begin_72 (by decide) ?_
                exact ih37 (k + 1) (by omega) (by omega) (upd (bg2 rw w2 k) (12 + k) 0) (by first | exact bg2_t n57 | exact bg2_f n57) _ _ hP hD hS _ (lv_sub hl [0, 1, 2] rfl)
              · have n57 : k < ents w2 := Nat.lt_of_not_le (fun h9 => c57 ((nI_leI (a := ents w2) (b := k) (by omega) (by omega)).mpr h9))
                refine lv_iload_n hx hb dX4_begin_60 rfl (lv_at hl 0 rfl) ?_
                refine kRi (va_runS (As := [.int (nI k)]) (rest := [.int (nI (12 + k)), .ref m1]) ⟨hx, hb, hml, hown, hts⟩ (c_X4_truth l g k (by first | assumption | omega | exact Nat.le_of_ble_eq_true rfl)) (va_cwS 1 hts gX4_begin_X4_truth rfl rfl rfl (by decide +kernel) ⟨(Nat.le_of_ble_eq_true rfl), (Nat.le_of_ble_eq_true rfl)⟩) (preS hE hP [] rfl) rfl rfl hl.1 rfl (lv_room (Nat.le_of_ble_eq_true rfl)) dX4_begin_61 ⟨(Nat.le_of_ble_eq_true rfl), (Nat.le_of_ble_eq_true rfl)⟩) hP hS (fun r9 H locs hr9 hP hS => ?_)
                subst hr9
                refine lv_goto (tgt := 68) hx hb dX4_begin_64 (by decide) ?_
                refine gIast (k := (12 + k)) (x := (tv k)) (wsn := [(m0, .inr (4, [.ref m1, .long 0, .ref m2, .ref m3, .int (nI np), .ref m4, .int (nI ln), .int th, .ref m5, .int (nI at_), .long hs])), (m1, .inl (g.2.1 0, 523, .inl (upd (bg2 rw w2 k) (12 + k) (tv k))))]) hx hb hE hP hD hS 1 rfl (by omega) (by omega) dX4_begin_68 (hw := rfl) (kk := fun H locs hP hD hS => ?_)
                refine lv_iinc (v := (nI (k + 1))) (lv' := [(2, .int (nI (k + 1))), (0, .ref m0), (1, .int (nI w2))]) hx hb dX4_begin_69 hl (k := 0) rfl (nI_add (k) 1) (by decide) rfl (fun ls hl => ?_)
                refine lv_goto (tgt := 37) hx hb dX4_begin_72 (by decide) ?_
                exact ih37 (k + 1) (by omega) (by omega) (upd (bg2 rw w2 k) (12 + k) (tv k)) (by first | exact bg2_t n57 | exact bg2_f n57) _ _ hP hD hS _ (lv_sub hl [0, 1, 2] rfl)
        exact lp37 ((511 - 0) + 1) 0 (Nat.lt_succ_self _) (by omega) (bg1 rw w2 i) (bg2_0 e9) _ _ hP hD hS _ (lv_sub hl [0, 1, 2] rfl)
      · have n12 : i < 8 := Nat.lt_of_not_le (fun h9 => c12 ((nI_leI (a := 8) (b := i) (by omega) (by omega)).mpr h9))
        refine lv_aload_n hx hb dX4_begin_15 rfl (lv_at hl 1 rfl) ?_
        refine va_get (D := g.1) (ci := 4) (v := .ref m1) (C := RX4) (T := TX4) (N := 11) hx hb hts in_X4_begin_X4 hown hK hP 0 rfl rfl 0 (by decide) (hts _ (List.mem_of_getElem? (i := 1) rfl)) (fun _ h9 => h9) rfl dX4_begin_16 ?_
        refine lv_iconst (v := 4) hx hb dX4_begin_19 (by decide) ?_
        refine lv_iload_n hx hb dX4_begin_20 rfl (lv_at hl 0 rfl) ?_
        refine lv_iadd hx hb dX4_begin_21 ?_
        refine lv_tope (y := (nI (4 + i))) (show (4 + (nI i) : Int32) = nI (4 + i) from nI_add (4) (i)) ?_
        refine lv_iconst (v := 0) hx hb dX4_begin_22 (by decide) ?_
        refine gIast (k := (4 + i)) (x := 0) (wsn := [(m0, .inr (4, [.ref m1, .long ma, .ref m2, .ref m3, .int (nI np), .ref m4, .int (nI ln), .int th, .ref m5, .int (nI at_), .long hs])), (m1, .inl (g.2.1 0, 523, .inl (upd (bg1 rw w2 i) (4 + i) 0)))]) hx hb hE hP hD hS 1 rfl (by omega) (by omega) dX4_begin_23 (hw := rfl) (kk := fun H locs hP hD hS => ?_)
        refine lv_iinc (v := (nI (i + 1))) (lv' := [(2, .int (nI (i + 1))), (0, .ref m0), (1, .int (nI w2))]) hx hb dX4_begin_24 hl (k := 0) rfl (nI_add (i) 1) (by decide) rfl (fun ls hl => ?_)
        refine lv_goto (tgt := 9) hx hb dX4_begin_27 (by decide) ?_
        exact ih9 (i + 1) (by omega) (by omega) (upd (bg1 rw w2 i) (4 + i) 0) bg1_s _ _ hP hD hS _ (lv_sub hl [0, 1, 2] rfl)
  exact lp9 ((8 - 0) + 1) 0 (Nat.lt_succ_self _) (by omega) (upd rw 0 (nI w2)) bg1_0 _ _ hP hD hS _ (lv_sub hl [0, 1, 2] rfl)
theorem in_X4_mix_X4 : ∀ w ∈ wsX40, w ∈ wsX4_mix := by decide +kernel
abbrev rm_X4_mix : Room := { frames := 0, cells := 0, slots := 0, locals := 0 }
set_option maxRecDepth 100000 in
set_option maxHeartbeats 4000000 in
theorem c_X4_mix (l : Launch) (g : GT) (m0 : Nat) (m1 : Nat) (m2 : Nat) (m3 : Nat) (m4 : Nat) (m5 : Nat) (ma : Int64) (np : Nat) (ln : Nat) (th : Int32) (at_ : Nat) (hs : Int64) (v : Int64) : cUv l g yX4_mix wsX4_mix rm_X4_mix [.ref m0, .long v] [(m0, .inr (4, [.ref m1, .long ma, .ref m2, .ref m3, .int (nI np), .ref m4, .int (nI ln), .int th, .ref m5, .int (nI at_), .long hs]))] (fun (_ : Unit) => True) (fun _ => [(m0, .inr (4, [.ref m1, .long ma, .ref m2, .ref m3, .int (nI np), .ref m4, .int (nI ln), .int th, .ref m5, .int (nI at_), .long (31 * hs + v)]))]) := by
  refine enU (y := yX4_mix) (ws := wsX4_mix) (av := [.ref m0, .long v]) (cc := cX4_mix) (maxL := 3) (ret := none) (by decide) rfl (Nat.le_of_ble_eq_true rfl) rfl ?_
  intro p e s m below meth c ls hx hb hr hml hown hts hlocks hE hP hD hl
  have hK := hE.1
  have hS : va_S (va_Ad [(m0, .inr (4, [.ref m1, .long ma, .ref m2, .ref m3, .int (nI np), .ref m4, .int (nI ln), .int th, .ref m5, .int (nI at_), .long hs]))]) s.heap s.heap [] := va_S.rf
  generalize hQ : MQ below _ _ s _ _ _ = Q9
  have hl : lv_has ls 3 [(0, .ref m0), (1, .long v)] := hl
  refine lv_aload_n hx hb dX4_mix_0 rfl (lv_at hl 0 rfl) ?_
  refine lv_ldc2 (v := 31) hx hb hown (hts _ (List.mem_of_getElem? (i := 1) rfl)) dX4_mix_1 ?_
  refine lv_aload_n hx hb dX4_mix_4 rfl (lv_at hl 0 rfl) ?_
  refine va_get (D := g.1) (ci := 4) (v := .long hs) (C := RX4) (T := TX4) (N := 11) hx hb hts in_X4_mix_X4 hown hK hP 0 rfl rfl 10 (by decide) (hts _ (List.mem_of_getElem? (i := 2) rfl)) (fun _ h9 => h9) rfl dX4_mix_5 ?_
  refine lv_lmul hx hb dX4_mix_8 ?_
  refine lv_lload_n hx hb dX4_mix_9 rfl (lv_at hl 1 rfl) ?_
  refine lv_ladd hx hb dX4_mix_10 ?_
  refine va_put (D := g.1) (ci := 4) (v := .long ((31 * hs) + v)) (ty := .long) (C := RX4) (T := TX4) (N := 11) hx hb hts in_X4_mix_X4 tyX4 tyX4_ok nmX4 hown hK hP hD hS 0 rfl rfl 10 (by decide) (hts _ (List.mem_of_getElem? (i := 2) rfl)) (fun _ h9 => h9) rfl (by decide +kernel) rfl rfl (Nat.le_of_ble_eq_true rfl) dX4_mix_11 (fun H locs hP hD hS => ?_)
  have hP : va_P g.1 vwCl [(m0, .inr (4, [.ref m1, .long ma, .ref m2, .ref m3, .int (nI np), .ref m4, .int (nI ln), .int th, .ref m5, .int (nI at_), .long ((31 * hs) + v)]))] _ := hP
  have hD : va_D (va_Ad [(m0, .inr (4, [.ref m1, .long ma, .ref m2, .ref m3, .int (nI np), .ref m4, .int (nI ln), .int th, .ref m5, .int (nI at_), .long hs]))]) [(m0, .inr (4, [.ref m1, .long ma, .ref m2, .ref m3, .int (nI np), .ref m4, .int (nI ln), .int th, .ref m5, .int (nI at_), .long ((31 * hs) + v)]))] := hD
  subst hQ
  have hP9 : va_P g.1 vwCl [(m0, .inr (4, [.ref m1, .long ma, .ref m2, .ref m3, .int (nI np), .ref m4, .int (nI ln), .int th, .ref m5, .int (nI at_), .long (31 * hs + v)]))] H := hP
  exact W.vret hx hb hr (fun t ht hW => ⟨⟨(), rfl, trivial, by show va_P g.1 vwCl _ t.heap; rw [ht]; exact hP9⟩, hS.F ht⟩) hS.2.2 dX4_mix_14
theorem in_X4_save_X4 : ∀ w ∈ wsX40, w ∈ wsX4_save := by decide +kernel
abbrev rm_X4_save : Room := { frames := 0, cells := 0, slots := 0, locals := 0 }
set_option maxRecDepth 100000 in
set_option maxHeartbeats 4000000 in
theorem c_X4_save (l : Launch) (g : GT) (m0 : Nat) (m1 : Nat) (m2 : Nat) (m3 : Nat) (m4 : Nat) (m5 : Nat) (ma : Int64) (np : Nat) (ln : Nat) (th : Int32) (at_ : Nat) (hs : Int64) (rw : Nat → Int32) (w : Nat) (pst : Nat → Int32) (pa : Nat → Int64) (hnp : np ≤ 4) : cUv l g yX4_save wsX4_save rm_X4_save [.ref m0] [(m0, .inr (4, [.ref m1, .long ma, .ref m2, .ref m3, .int (nI np), .ref m4, .int (nI ln), .int th, .ref m5, .int (nI at_), .long hs])), (m1, .inl (g.2.1 0, 523, .inl rw)), (m2, .inl (g.2.1 0, 2092, .inl pst)), (m3, .inl (g.2.1 1, 4, .inr (.inl pa)))] (fun (_ : Unit) => True) (fun _ => [(m0, .inr (4, [.ref m1, .long ma, .ref m2, .ref m3, .int (nI (kcF np)), .ref m4, .int (nI ln), .int th, .ref m5, .int (nI at_), .long hs])), (m1, .inl (g.2.1 0, 523, .inl rw)), (m2, .inl (g.2.1 0, 2092, .inl (svP pst np rw))), (m3, .inl (g.2.1 1, 4, .inr (.inl (svA pa np ma))))]) := by
  refine enU (y := yX4_save) (ws := wsX4_save) (av := [.ref m0]) (cc := cX4_save) (maxL := 2) (ret := none) (by decide) rfl (Nat.le_of_ble_eq_true rfl) rfl ?_
  intro p e s m below meth c ls hx hb hr hml hown hts hlocks hE hP hD hl
  have hK := hE.1
  have hS : va_S (va_Ad [(m0, .inr (4, [.ref m1, .long ma, .ref m2, .ref m3, .int (nI np), .ref m4, .int (nI ln), .int th, .ref m5, .int (nI at_), .long hs])), (m1, .inl (g.2.1 0, 523, .inl rw)), (m2, .inl (g.2.1 0, 2092, .inl pst)), (m3, .inl (g.2.1 1, 4, .inr (.inl pa)))]) s.heap s.heap [] := va_S.rf
  generalize hQ : MQ below _ _ s _ _ _ = Q9
  have hl : lv_has ls 2 [(0, .ref m0)] := hl
  refine lv_aload_n hx hb dX4_save_0 rfl (lv_at hl 0 rfl) ?_
  refine va_get (D := g.1) (ci := 4) (v := .int (nI np)) (C := RX4) (T := TX4) (N := 11) hx hb hts in_X4_save_X4 hown hK hP 0 rfl rfl 4 (by decide) (hts _ (List.mem_of_getElem? (i := 1) rfl)) (fun _ h9 => h9) rfl dX4_save_1 ?_
  refine lv_iconst (v := 4) hx hb dX4_save_4 (by decide) ?_
  refine lv_icmp_ne (tgt := 76) hx hb dX4_save_5 (by decide) (fun c5 => ?_) (fun c5 => ?_)
  · have n5 : ¬ np = 4 := fun h9 => c5 ((nI_eq (a := np) (b := 4) (by omega) (by omega)).mpr h9)
    refine lv_iconst (v := 0) hx hb dX4_save_76 (by decide) ?_
    refine lv_istore_n (lv' := [(1, .int 0), (0, .ref m0)]) hx hb dX4_save_77 rfl hl (by decide) rfl (fun ls hl => ?_)
    have lp78 : ∀ (n9 : Nat) (k : Nat), 523 - k < n9 → (k ≤ 523) → ∀ (f3 : Nat → Int32), f3 = puK pst np rw k → ∀ (H : Heap) (locs : List Loc), va_P g.1 vwCl [(m0, .inr (4, [.ref m1, .long ma, .ref m2, .ref m3, .int (nI np), .ref m4, .int (nI ln), .int th, .ref m5, .int (nI at_), .long hs])), (m1, .inl (g.2.1 0, 523, .inl rw)), (m2, .inl (g.2.1 0, 2092, .inl f3)), (m3, .inl (g.2.1 1, 4, .inr (.inl pa)))] H → va_D (va_Ad [(m0, .inr (4, [.ref m1, .long ma, .ref m2, .ref m3, .int (nI np), .ref m4, .int (nI ln), .int th, .ref m5, .int (nI at_), .long hs])), (m1, .inl (g.2.1 0, 523, .inl rw)), (m2, .inl (g.2.1 0, 2092, .inl pst)), (m3, .inl (g.2.1 1, 4, .inr (.inl pa)))]) [(m0, .inr (4, [.ref m1, .long ma, .ref m2, .ref m3, .int (nI np), .ref m4, .int (nI ln), .int th, .ref m5, .int (nI at_), .long hs])), (m1, .inl (g.2.1 0, 523, .inl rw)), (m2, .inl (g.2.1 0, 2092, .inl f3)), (m3, .inl (g.2.1 1, 4, .inr (.inl pa)))] → va_S (va_Ad [(m0, .inr (4, [.ref m1, .long ma, .ref m2, .ref m3, .int (nI np), .ref m4, .int (nI ln), .int th, .ref m5, .int (nI at_), .long hs])), (m1, .inl (g.2.1 0, 523, .inl rw)), (m2, .inl (g.2.1 0, 2092, .inl pst)), (m3, .inl (g.2.1 1, 4, .inr (.inl pa)))]) s.heap H locs → ∀ (ls : Array Slot), lv_has ls 2 [(1, .int (nI k)), (0, .ref m0)] → W p l e rm_X4_save s m [Value.ref m0].toArray below meth c H locs 0 0 Q9 (F0 m 78 ls []) := by
      intro n9
      induction n9 with
      | zero => intro k h9; exact absurd h9 (Nat.not_lt_zero _)
      | succ n9 ih78 =>
        intro k hm78 hk
        intro f3 e_f3; subst e_f3
        intro H locs hP hD hS ls hl
        refine lv_iload_n hx hb dX4_save_78 rfl (lv_at hl 0 rfl) ?_
        refine lv_sipush (v := 523) hx hb dX4_save_79 (by decide) ?_
        refine lv_icmp_ge (tgt := 112) hx hb dX4_save_82 (by decide) (fun c82 => ?_) (fun c82 => ?_)
        · have n82 : 523 ≤ k := (nI_leI (a := 523) (b := k) (by omega) (by omega)).mp c82
          have e78 : k = 523 := by omega
          rw [e78] at hP hD
          refine lv_aload_n hx hb dX4_save_112 rfl (lv_at hl 1 rfl) ?_
          refine va_get (D := g.1) (ci := 4) (v := .ref m3) (C := RX4) (T := TX4) (N := 11) hx hb hts in_X4_save_X4 hown hK hP 0 rfl rfl 3 (by decide) (hts _ (List.mem_of_getElem? (i := 3) rfl)) (fun _ h9 => h9) rfl dX4_save_113 ?_
          refine lv_aload_n hx hb dX4_save_116 rfl (lv_at hl 1 rfl) ?_
          refine va_get (D := g.1) (ci := 4) (v := .int (nI np)) (C := RX4) (T := TX4) (N := 11) hx hb hts in_X4_save_X4 hown hK hP 0 rfl rfl 4 (by decide) (hts _ (List.mem_of_getElem? (i := 1) rfl)) (fun _ h9 => h9) rfl dX4_save_117 ?_
          refine lv_aload_n hx hb dX4_save_120 rfl (lv_at hl 1 rfl) ?_
          refine va_get (D := g.1) (ci := 4) (v := .long ma) (C := RX4) (T := TX4) (N := 11) hx hb hts in_X4_save_X4 hown hK hP 0 rfl rfl 1 (by decide) (hts _ (List.mem_of_getElem? (i := 5) rfl)) (fun _ h9 => h9) rfl dX4_save_121 ?_
          refine gLast (k := np) (x := ma) (wsn := [(m0, .inr (4, [.ref m1, .long ma, .ref m2, .ref m3, .int (nI np), .ref m4, .int (nI ln), .int th, .ref m5, .int (nI at_), .long hs])), (m1, .inl (g.2.1 0, 523, .inl rw)), (m2, .inl (g.2.1 0, 2092, .inl (puK pst np rw 523))), (m3, .inl (g.2.1 1, 4, .inr (.inl (vp_updL pa np ma))))]) hx hb hE hP hD hS 3 rfl (by omega) (by omega) dX4_save_124 (hw := rfl) (kk := fun H locs hP hD hS => ?_)
          refine lv_aload_n hx hb dX4_save_125 rfl (lv_at hl 1 rfl) ?_
          refine lv_dup hx hb dX4_save_126 rfl ?_
          refine va_get (D := g.1) (ci := 4) (v := .int (nI np)) (C := RX4) (T := TX4) (N := 11) hx hb hts in_X4_save_X4 hown hK hP 0 rfl rfl 4 (by decide) (hts _ (List.mem_of_getElem? (i := 1) rfl)) (fun _ h9 => h9) rfl dX4_save_127 ?_
          refine lv_iconst (v := 1) hx hb dX4_save_130 (by decide) ?_
          refine lv_iadd hx hb dX4_save_131 ?_
          refine lv_tope (y := (nI (np + 1))) (show ((nI np) + 1 : Int32) = nI (np + 1) from nI_add (np) (1)) ?_
          refine va_put (D := g.1) (ci := 4) (v := .int (nI (np + 1))) (ty := .int) (C := RX4) (T := TX4) (N := 11) hx hb hts in_X4_save_X4 tyX4 tyX4_ok nmX4 hown hK hP hD hS 0 rfl rfl 4 (by decide) (hts _ (List.mem_of_getElem? (i := 1) rfl)) (fun _ h9 => h9) rfl (by decide +kernel) rfl rfl (Nat.le_of_ble_eq_true rfl) dX4_save_132 (fun H locs hP hD hS => ?_)
          have hP : va_P g.1 vwCl [(m0, .inr (4, [.ref m1, .long ma, .ref m2, .ref m3, .int (nI (np + 1)), .ref m4, .int (nI ln), .int th, .ref m5, .int (nI at_), .long hs])), (m1, .inl (g.2.1 0, 523, .inl rw)), (m2, .inl (g.2.1 0, 2092, .inl (puK pst np rw 523))), (m3, .inl (g.2.1 1, 4, .inr (.inl (vp_updL pa np ma))))] _ := hP
          have hD : va_D (va_Ad [(m0, .inr (4, [.ref m1, .long ma, .ref m2, .ref m3, .int (nI np), .ref m4, .int (nI ln), .int th, .ref m5, .int (nI at_), .long hs])), (m1, .inl (g.2.1 0, 523, .inl rw)), (m2, .inl (g.2.1 0, 2092, .inl pst)), (m3, .inl (g.2.1 1, 4, .inr (.inl pa)))]) [(m0, .inr (4, [.ref m1, .long ma, .ref m2, .ref m3, .int (nI (np + 1)), .ref m4, .int (nI ln), .int th, .ref m5, .int (nI at_), .long hs])), (m1, .inl (g.2.1 0, 523, .inl rw)), (m2, .inl (g.2.1 0, 2092, .inl (puK pst np rw 523))), (m3, .inl (g.2.1 1, 4, .inr (.inl (vp_updL pa np ma))))] := hD
          subst hQ
          have hP9 : va_P g.1 vwCl [(m0, .inr (4, [.ref m1, .long ma, .ref m2, .ref m3, .int (nI (kcF np)), .ref m4, .int (nI ln), .int th, .ref m5, .int (nI at_), .long hs])), (m1, .inl (g.2.1 0, 523, .inl rw)), (m2, .inl (g.2.1 0, 2092, .inl (svP pst np rw))), (m3, .inl (g.2.1 1, 4, .inr (.inl (svA pa np ma))))] H := (by rw [svP, if_neg n5, svA, if_neg n5, show kcF np = np + 1 by unfold kcF; rw [if_pos (by omega)]]; exact hP)
          exact W.vret hx hb hr (fun t ht hW => ⟨⟨(), rfl, trivial, by show va_P g.1 vwCl _ t.heap; rw [ht]; exact hP9⟩, hS.F ht⟩) hS.2.2 dX4_save_135
        · have n82 : k < 523 := Nat.lt_of_not_le (fun h9 => c82 ((nI_leI (a := 523) (b := k) (by omega) (by omega)).mpr h9))
          refine lv_aload_n hx hb dX4_save_85 rfl (lv_at hl 1 rfl) ?_
          refine va_get (D := g.1) (ci := 4) (v := .ref m2) (C := RX4) (T := TX4) (N := 11) hx hb hts in_X4_save_X4 hown hK hP 0 rfl rfl 2 (by decide) (hts _ (List.mem_of_getElem? (i := 2) rfl)) (fun _ h9 => h9) rfl dX4_save_86 ?_
          refine lv_sipush (v := 523) hx hb dX4_save_89 (by decide) ?_
          refine lv_aload_n hx hb dX4_save_92 rfl (lv_at hl 1 rfl) ?_
          refine va_get (D := g.1) (ci := 4) (v := .int (nI np)) (C := RX4) (T := TX4) (N := 11) hx hb hts in_X4_save_X4 hown hK hP 0 rfl rfl 4 (by decide) (hts _ (List.mem_of_getElem? (i := 1) rfl)) (fun _ h9 => h9) rfl dX4_save_93 ?_
          refine lv_imul hx hb dX4_save_96 ?_
          refine lv_tope (y := (nI (523 * np))) (show (523 * (nI np) : Int32) = nI (523 * np) from pk_mul (523) (np)) ?_
          refine lv_iload_n hx hb dX4_save_97 rfl (lv_at hl 0 rfl) ?_
          refine lv_iadd hx hb dX4_save_98 ?_
          refine lv_tope (y := (nI ((523 * np) + k))) (show ((nI (523 * np)) + (nI k) : Int32) = nI ((523 * np) + k) from nI_add (523 * np) (k)) ?_
          refine lv_aload_n hx hb dX4_save_99 rfl (lv_at hl 1 rfl) ?_
          refine va_get (D := g.1) (ci := 4) (v := .ref m1) (C := RX4) (T := TX4) (N := 11) hx hb hts in_X4_save_X4 hown hK hP 0 rfl rfl 0 (by decide) (hts _ (List.mem_of_getElem? (i := 4) rfl)) (fun _ h9 => h9) rfl dX4_save_100 ?_
          refine lv_iload_n hx hb dX4_save_103 rfl (lv_at hl 0 rfl) ?_
          refine gIald (k := k) hx hb hE hP 1 rfl (by omega) (by omega) dX4_save_104 ?_
          refine gIast (k := ((523 * np) + k)) (x := (rw k)) (wsn := [(m0, .inr (4, [.ref m1, .long ma, .ref m2, .ref m3, .int (nI np), .ref m4, .int (nI ln), .int th, .ref m5, .int (nI at_), .long hs])), (m1, .inl (g.2.1 0, 523, .inl rw)), (m2, .inl (g.2.1 0, 2092, .inl (upd (puK pst np rw k) ((523 * np) + k) (rw k)))), (m3, .inl (g.2.1 1, 4, .inr (.inl pa)))]) hx hb hE hP hD hS 2 rfl (by omega) (by omega) dX4_save_105 (hw := rfl) (kk := fun H locs hP hD hS => ?_)
          refine lv_iinc (v := (nI (k + 1))) (lv' := [(1, .int (nI (k + 1))), (0, .ref m0)]) hx hb dX4_save_106 hl (k := 0) rfl (nI_add (k) 1) (by decide) rfl (fun ls hl => ?_)
          refine lv_goto (tgt := 78) hx hb dX4_save_109 (by decide) ?_
          exact ih78 (k + 1) (by omega) (by omega) (upd (puK pst np rw k) ((523 * np) + k) (rw k)) puK_s _ _ hP hD hS _ (lv_sub hl [0, 1] rfl)
    exact lp78 ((523 - 0) + 1) 0 (Nat.lt_succ_self _) (by omega) pst puK_0 _ _ hP hD hS _ (lv_sub hl [0, 1] rfl)
  · have n5 : np = 4 := (nI_eq (a := np) (b := 4) (by omega) (by omega)).mp c5
    refine lv_iconst (v := 0) hx hb dX4_save_8 (by decide) ?_
    refine lv_istore_n (lv' := [(1, .int 0), (0, .ref m0)]) hx hb dX4_save_9 rfl hl (by decide) rfl (fun ls hl => ?_)
    have lp10 : ∀ (n9 : Nat) (i : Nat), 1569 - i < n9 → (i ≤ 1569) → ∀ (f1 : Nat → Int32), f1 = shK pst i → ∀ (H : Heap) (locs : List Loc), va_P g.1 vwCl [(m0, .inr (4, [.ref m1, .long ma, .ref m2, .ref m3, .int (nI np), .ref m4, .int (nI ln), .int th, .ref m5, .int (nI at_), .long hs])), (m1, .inl (g.2.1 0, 523, .inl rw)), (m2, .inl (g.2.1 0, 2092, .inl f1)), (m3, .inl (g.2.1 1, 4, .inr (.inl pa)))] H → va_D (va_Ad [(m0, .inr (4, [.ref m1, .long ma, .ref m2, .ref m3, .int (nI np), .ref m4, .int (nI ln), .int th, .ref m5, .int (nI at_), .long hs])), (m1, .inl (g.2.1 0, 523, .inl rw)), (m2, .inl (g.2.1 0, 2092, .inl pst)), (m3, .inl (g.2.1 1, 4, .inr (.inl pa)))]) [(m0, .inr (4, [.ref m1, .long ma, .ref m2, .ref m3, .int (nI np), .ref m4, .int (nI ln), .int th, .ref m5, .int (nI at_), .long hs])), (m1, .inl (g.2.1 0, 523, .inl rw)), (m2, .inl (g.2.1 0, 2092, .inl f1)), (m3, .inl (g.2.1 1, 4, .inr (.inl pa)))] → va_S (va_Ad [(m0, .inr (4, [.ref m1, .long ma, .ref m2, .ref m3, .int (nI np), .ref m4, .int (nI ln), .int th, .ref m5, .int (nI at_), .long hs])), (m1, .inl (g.2.1 0, 523, .inl rw)), (m2, .inl (g.2.1 0, 2092, .inl pst)), (m3, .inl (g.2.1 1, 4, .inr (.inl pa)))]) s.heap H locs → ∀ (ls : Array Slot), lv_has ls 2 [(1, .int (nI i)), (0, .ref m0)] → W p l e rm_X4_save s m [Value.ref m0].toArray below meth c H locs 0 0 Q9 (F0 m 10 ls []) := by
      intro n9
      induction n9 with
      | zero => intro i h9; exact absurd h9 (Nat.not_lt_zero _)
      | succ n9 ih10 =>
        intro i hm10 hi
        intro f1 e_f1; subst e_f1
        intro H locs hP hD hS ls hl
        refine lv_iload_n hx hb dX4_save_10 rfl (lv_at hl 0 rfl) ?_
        refine lv_sipush (v := 1569) hx hb dX4_save_11 (by decide) ?_
        refine lv_icmp_ge (tgt := 39) hx hb dX4_save_14 (by decide) (fun c14 => ?_) (fun c14 => ?_)
        · have n14 : 1569 ≤ i := (nI_leI (a := 1569) (b := i) (by omega) (by omega)).mp c14
          have e10 : i = 1569 := by omega
          rw [e10] at hP hD
          refine lv_iconst (v := 0) hx hb dX4_save_39 (by decide) ?_
          refine lv_istore_n (lv' := [(1, .int 0), (0, .ref m0)]) hx hb dX4_save_40 rfl hl (by decide) rfl (fun ls hl => ?_)
          have lp41 : ∀ (n9 : Nat) (j : Nat), 3 - j < n9 → (j ≤ 3) → ∀ (f2 : Nat → Int64), f2 = shJ pa j → ∀ (H : Heap) (locs : List Loc), va_P g.1 vwCl [(m0, .inr (4, [.ref m1, .long ma, .ref m2, .ref m3, .int (nI np), .ref m4, .int (nI ln), .int th, .ref m5, .int (nI at_), .long hs])), (m1, .inl (g.2.1 0, 523, .inl rw)), (m2, .inl (g.2.1 0, 2092, .inl (shK pst 1569))), (m3, .inl (g.2.1 1, 4, .inr (.inl f2)))] H → va_D (va_Ad [(m0, .inr (4, [.ref m1, .long ma, .ref m2, .ref m3, .int (nI np), .ref m4, .int (nI ln), .int th, .ref m5, .int (nI at_), .long hs])), (m1, .inl (g.2.1 0, 523, .inl rw)), (m2, .inl (g.2.1 0, 2092, .inl pst)), (m3, .inl (g.2.1 1, 4, .inr (.inl pa)))]) [(m0, .inr (4, [.ref m1, .long ma, .ref m2, .ref m3, .int (nI np), .ref m4, .int (nI ln), .int th, .ref m5, .int (nI at_), .long hs])), (m1, .inl (g.2.1 0, 523, .inl rw)), (m2, .inl (g.2.1 0, 2092, .inl (shK pst 1569))), (m3, .inl (g.2.1 1, 4, .inr (.inl f2)))] → va_S (va_Ad [(m0, .inr (4, [.ref m1, .long ma, .ref m2, .ref m3, .int (nI np), .ref m4, .int (nI ln), .int th, .ref m5, .int (nI at_), .long hs])), (m1, .inl (g.2.1 0, 523, .inl rw)), (m2, .inl (g.2.1 0, 2092, .inl pst)), (m3, .inl (g.2.1 1, 4, .inr (.inl pa)))]) s.heap H locs → ∀ (ls : Array Slot), lv_has ls 2 [(1, .int (nI j)), (0, .ref m0)] → W p l e rm_X4_save s m [Value.ref m0].toArray below meth c H locs 0 0 Q9 (F0 m 41 ls []) := by
            intro n9
            induction n9 with
            | zero => intro j h9; exact absurd h9 (Nat.not_lt_zero _)
            | succ n9 ih41 =>
              intro j hm41 hj
              intro f2 e_f2; subst e_f2
              intro H locs hP hD hS ls hl
              refine lv_iload_n hx hb dX4_save_41 rfl (lv_at hl 0 rfl) ?_
              refine lv_iconst (v := 3) hx hb dX4_save_42 (by decide) ?_
              refine lv_icmp_ge (tgt := 66) hx hb dX4_save_43 (by decide) (fun c43 => ?_) (fun c43 => ?_)
              · have n43 : 3 ≤ j := (nI_leI (a := 3) (b := j) (by omega) (by omega)).mp c43
                have e41 : j = 3 := by omega
                rw [e41] at hP hD
                refine lv_aload_n hx hb dX4_save_66 rfl (lv_at hl 1 rfl) ?_
                refine lv_dup hx hb dX4_save_67 rfl ?_
                refine va_get (D := g.1) (ci := 4) (v := .int (nI np)) (C := RX4) (T := TX4) (N := 11) hx hb hts in_X4_save_X4 hown hK hP 0 rfl rfl 4 (by decide) (hts _ (List.mem_of_getElem? (i := 1) rfl)) (fun _ h9 => h9) rfl dX4_save_68 ?_
                refine lv_iconst (v := 1) hx hb dX4_save_71 (by decide) ?_
                refine lv_isub hx hb dX4_save_72 ?_
                refine lv_tope (y := (nI (np - 1))) (pk_sub (a := np) (b := 1) (by omega)) ?_
                refine va_put (D := g.1) (ci := 4) (v := .int (nI (np - 1))) (ty := .int) (C := RX4) (T := TX4) (N := 11) hx hb hts in_X4_save_X4 tyX4 tyX4_ok nmX4 hown hK hP hD hS 0 rfl rfl 4 (by decide) (hts _ (List.mem_of_getElem? (i := 1) rfl)) (fun _ h9 => h9) rfl (by decide +kernel) rfl rfl (Nat.le_of_ble_eq_true rfl) dX4_save_73 (fun H locs hP hD hS => ?_)
                have hP : va_P g.1 vwCl [(m0, .inr (4, [.ref m1, .long ma, .ref m2, .ref m3, .int (nI (np - 1)), .ref m4, .int (nI ln), .int th, .ref m5, .int (nI at_), .long hs])), (m1, .inl (g.2.1 0, 523, .inl rw)), (m2, .inl (g.2.1 0, 2092, .inl (shK pst 1569))), (m3, .inl (g.2.1 1, 4, .inr (.inl (shJ pa 3))))] _ := hP
                have hD : va_D (va_Ad [(m0, .inr (4, [.ref m1, .long ma, .ref m2, .ref m3, .int (nI np), .ref m4, .int (nI ln), .int th, .ref m5, .int (nI at_), .long hs])), (m1, .inl (g.2.1 0, 523, .inl rw)), (m2, .inl (g.2.1 0, 2092, .inl pst)), (m3, .inl (g.2.1 1, 4, .inr (.inl pa)))]) [(m0, .inr (4, [.ref m1, .long ma, .ref m2, .ref m3, .int (nI (np - 1)), .ref m4, .int (nI ln), .int th, .ref m5, .int (nI at_), .long hs])), (m1, .inl (g.2.1 0, 523, .inl rw)), (m2, .inl (g.2.1 0, 2092, .inl (shK pst 1569))), (m3, .inl (g.2.1 1, 4, .inr (.inl (shJ pa 3))))] := hD
                refine lv_iconst (v := 0) hx hb dX4_save_76 (by decide) ?_
                refine lv_istore_n (lv' := [(1, .int 0), (0, .ref m0)]) hx hb dX4_save_77 rfl hl (by decide) rfl (fun ls hl => ?_)
                have lp78 : ∀ (n9 : Nat) (k : Nat), 523 - k < n9 → (k ≤ 523) → ∀ (f3 : Nat → Int32), f3 = puK (shK pst 1569) (np - 1) rw k → ∀ (H : Heap) (locs : List Loc), va_P g.1 vwCl [(m0, .inr (4, [.ref m1, .long ma, .ref m2, .ref m3, .int (nI (np - 1)), .ref m4, .int (nI ln), .int th, .ref m5, .int (nI at_), .long hs])), (m1, .inl (g.2.1 0, 523, .inl rw)), (m2, .inl (g.2.1 0, 2092, .inl f3)), (m3, .inl (g.2.1 1, 4, .inr (.inl (shJ pa 3))))] H → va_D (va_Ad [(m0, .inr (4, [.ref m1, .long ma, .ref m2, .ref m3, .int (nI np), .ref m4, .int (nI ln), .int th, .ref m5, .int (nI at_), .long hs])), (m1, .inl (g.2.1 0, 523, .inl rw)), (m2, .inl (g.2.1 0, 2092, .inl pst)), (m3, .inl (g.2.1 1, 4, .inr (.inl pa)))]) [(m0, .inr (4, [.ref m1, .long ma, .ref m2, .ref m3, .int (nI (np - 1)), .ref m4, .int (nI ln), .int th, .ref m5, .int (nI at_), .long hs])), (m1, .inl (g.2.1 0, 523, .inl rw)), (m2, .inl (g.2.1 0, 2092, .inl f3)), (m3, .inl (g.2.1 1, 4, .inr (.inl (shJ pa 3))))] → va_S (va_Ad [(m0, .inr (4, [.ref m1, .long ma, .ref m2, .ref m3, .int (nI np), .ref m4, .int (nI ln), .int th, .ref m5, .int (nI at_), .long hs])), (m1, .inl (g.2.1 0, 523, .inl rw)), (m2, .inl (g.2.1 0, 2092, .inl pst)), (m3, .inl (g.2.1 1, 4, .inr (.inl pa)))]) s.heap H locs → ∀ (ls : Array Slot), lv_has ls 2 [(1, .int (nI k)), (0, .ref m0)] → W p l e rm_X4_save s m [Value.ref m0].toArray below meth c H locs 0 0 Q9 (F0 m 78 ls []) := by
                  intro n9
                  induction n9 with
                  | zero => intro k h9; exact absurd h9 (Nat.not_lt_zero _)
                  | succ n9 ih78 =>
                    intro k hm78 hk
                    intro f3 e_f3; subst e_f3
                    intro H locs hP hD hS ls hl
                    refine lv_iload_n hx hb dX4_save_78 rfl (lv_at hl 0 rfl) ?_
                    refine lv_sipush (v := 523) hx hb dX4_save_79 (by decide) ?_
                    refine lv_icmp_ge (tgt := 112) hx hb dX4_save_82 (by decide) (fun c82 => ?_) (fun c82 => ?_)
                    · have n82 : 523 ≤ k := (nI_leI (a := 523) (b := k) (by omega) (by omega)).mp c82
                      have e78 : k = 523 := by omega
                      rw [e78] at hP hD
                      refine lv_aload_n hx hb dX4_save_112 rfl (lv_at hl 1 rfl) ?_
                      refine va_get (D := g.1) (ci := 4) (v := .ref m3) (C := RX4) (T := TX4) (N := 11) hx hb hts in_X4_save_X4 hown hK hP 0 rfl rfl 3 (by decide) (hts _ (List.mem_of_getElem? (i := 3) rfl)) (fun _ h9 => h9) rfl dX4_save_113 ?_
                      refine lv_aload_n hx hb dX4_save_116 rfl (lv_at hl 1 rfl) ?_
                      refine va_get (D := g.1) (ci := 4) (v := .int (nI (np - 1))) (C := RX4) (T := TX4) (N := 11) hx hb hts in_X4_save_X4 hown hK hP 0 rfl rfl 4 (by decide) (hts _ (List.mem_of_getElem? (i := 1) rfl)) (fun _ h9 => h9) rfl dX4_save_117 ?_
                      refine lv_aload_n hx hb dX4_save_120 rfl (lv_at hl 1 rfl) ?_
                      refine va_get (D := g.1) (ci := 4) (v := .long ma) (C := RX4) (T := TX4) (N := 11) hx hb hts in_X4_save_X4 hown hK hP 0 rfl rfl 1 (by decide) (hts _ (List.mem_of_getElem? (i := 5) rfl)) (fun _ h9 => h9) rfl dX4_save_121 ?_
                      refine gLast (k := (np - 1)) (x := ma) (wsn := [(m0, .inr (4, [.ref m1, .long ma, .ref m2, .ref m3, .int (nI (np - 1)), .ref m4, .int (nI ln), .int th, .ref m5, .int (nI at_), .long hs])), (m1, .inl (g.2.1 0, 523, .inl rw)), (m2, .inl (g.2.1 0, 2092, .inl (puK (shK pst 1569) (np - 1) rw 523))), (m3, .inl (g.2.1 1, 4, .inr (.inl (vp_updL (shJ pa 3) (np - 1) ma))))]) hx hb hE hP hD hS 3 rfl (by omega) (by omega) dX4_save_124 (hw := rfl) (kk := fun H locs hP hD hS => ?_)
                      refine lv_aload_n hx hb dX4_save_125 rfl (lv_at hl 1 rfl) ?_
                      refine lv_dup hx hb dX4_save_126 rfl ?_
                      refine va_get (D := g.1) (ci := 4) (v := .int (nI (np - 1))) (C := RX4) (T := TX4) (N := 11) hx hb hts in_X4_save_X4 hown hK hP 0 rfl rfl 4 (by decide) (hts _ (List.mem_of_getElem? (i := 1) rfl)) (fun _ h9 => h9) rfl dX4_save_127 ?_
                      refine lv_iconst (v := 1) hx hb dX4_save_130 (by decide) ?_
                      refine lv_iadd hx hb dX4_save_131 ?_
                      refine lv_tope (y := (nI ((np - 1) + 1))) (show ((nI (np - 1)) + 1 : Int32) = nI ((np - 1) + 1) from nI_add (np - 1) (1)) ?_
                      refine va_put (D := g.1) (ci := 4) (v := .int (nI ((np - 1) + 1))) (ty := .int) (C := RX4) (T := TX4) (N := 11) hx hb hts in_X4_save_X4 tyX4 tyX4_ok nmX4 hown hK hP hD hS 0 rfl rfl 4 (by decide) (hts _ (List.mem_of_getElem? (i := 1) rfl)) (fun _ h9 => h9) rfl (by decide +kernel) rfl rfl (Nat.le_of_ble_eq_true rfl) dX4_save_132 (fun H locs hP hD hS => ?_)
                      have hP : va_P g.1 vwCl [(m0, .inr (4, [.ref m1, .long ma, .ref m2, .ref m3, .int (nI ((np - 1) + 1)), .ref m4, .int (nI ln), .int th, .ref m5, .int (nI at_), .long hs])), (m1, .inl (g.2.1 0, 523, .inl rw)), (m2, .inl (g.2.1 0, 2092, .inl (puK (shK pst 1569) (np - 1) rw 523))), (m3, .inl (g.2.1 1, 4, .inr (.inl (vp_updL (shJ pa 3) (np - 1) ma))))] _ := hP
                      have hD : va_D (va_Ad [(m0, .inr (4, [.ref m1, .long ma, .ref m2, .ref m3, .int (nI np), .ref m4, .int (nI ln), .int th, .ref m5, .int (nI at_), .long hs])), (m1, .inl (g.2.1 0, 523, .inl rw)), (m2, .inl (g.2.1 0, 2092, .inl pst)), (m3, .inl (g.2.1 1, 4, .inr (.inl pa)))]) [(m0, .inr (4, [.ref m1, .long ma, .ref m2, .ref m3, .int (nI ((np - 1) + 1)), .ref m4, .int (nI ln), .int th, .ref m5, .int (nI at_), .long hs])), (m1, .inl (g.2.1 0, 523, .inl rw)), (m2, .inl (g.2.1 0, 2092, .inl (puK (shK pst 1569) (np - 1) rw 523))), (m3, .inl (g.2.1 1, 4, .inr (.inl (vp_updL (shJ pa 3) (np - 1) ma))))] := hD
                      subst hQ
                      have hP9 : va_P g.1 vwCl [(m0, .inr (4, [.ref m1, .long ma, .ref m2, .ref m3, .int (nI (kcF np)), .ref m4, .int (nI ln), .int th, .ref m5, .int (nI at_), .long hs])), (m1, .inl (g.2.1 0, 523, .inl rw)), (m2, .inl (g.2.1 0, 2092, .inl (svP pst np rw))), (m3, .inl (g.2.1 1, 4, .inr (.inl (svA pa np ma))))] H := (by rw [svP, if_pos n5, svA, if_pos n5, show kcF np = np - 1 + 1 by unfold kcF; rw [if_neg (by omega)]; omega]; exact hP)
                      exact W.vret hx hb hr (fun t ht hW => ⟨⟨(), rfl, trivial, by show va_P g.1 vwCl _ t.heap; rw [ht]; exact hP9⟩, hS.F ht⟩) hS.2.2 dX4_save_135
                    · have n82 : k < 523 := Nat.lt_of_not_le (fun h9 => c82 ((nI_leI (a := 523) (b := k) (by omega) (by omega)).mpr h9))
                      refine lv_aload_n hx hb dX4_save_85 rfl (lv_at hl 1 rfl) ?_
                      refine va_get (D := g.1) (ci := 4) (v := .ref m2) (C := RX4) (T := TX4) (N := 11) hx hb hts in_X4_save_X4 hown hK hP 0 rfl rfl 2 (by decide) (hts _ (List.mem_of_getElem? (i := 2) rfl)) (fun _ h9 => h9) rfl dX4_save_86 ?_
                      refine lv_sipush (v := 523) hx hb dX4_save_89 (by decide) ?_
                      refine lv_aload_n hx hb dX4_save_92 rfl (lv_at hl 1 rfl) ?_
                      refine va_get (D := g.1) (ci := 4) (v := .int (nI (np - 1))) (C := RX4) (T := TX4) (N := 11) hx hb hts in_X4_save_X4 hown hK hP 0 rfl rfl 4 (by decide) (hts _ (List.mem_of_getElem? (i := 1) rfl)) (fun _ h9 => h9) rfl dX4_save_93 ?_
                      refine lv_imul hx hb dX4_save_96 ?_
                      refine lv_tope (y := (nI (523 * (np - 1)))) (show (523 * (nI (np - 1)) : Int32) = nI (523 * (np - 1)) from pk_mul (523) (np - 1)) ?_
                      refine lv_iload_n hx hb dX4_save_97 rfl (lv_at hl 0 rfl) ?_
                      refine lv_iadd hx hb dX4_save_98 ?_
                      refine lv_tope (y := (nI ((523 * (np - 1)) + k))) (show ((nI (523 * (np - 1))) + (nI k) : Int32) = nI ((523 * (np - 1)) + k) from nI_add (523 * (np - 1)) (k)) ?_
                      refine lv_aload_n hx hb dX4_save_99 rfl (lv_at hl 1 rfl) ?_
                      refine va_get (D := g.1) (ci := 4) (v := .ref m1) (C := RX4) (T := TX4) (N := 11) hx hb hts in_X4_save_X4 hown hK hP 0 rfl rfl 0 (by decide) (hts _ (List.mem_of_getElem? (i := 4) rfl)) (fun _ h9 => h9) rfl dX4_save_100 ?_
                      refine lv_iload_n hx hb dX4_save_103 rfl (lv_at hl 0 rfl) ?_
                      refine gIald (k := k) hx hb hE hP 1 rfl (by omega) (by omega) dX4_save_104 ?_
                      refine gIast (k := ((523 * (np - 1)) + k)) (x := (rw k)) (wsn := [(m0, .inr (4, [.ref m1, .long ma, .ref m2, .ref m3, .int (nI (np - 1)), .ref m4, .int (nI ln), .int th, .ref m5, .int (nI at_), .long hs])), (m1, .inl (g.2.1 0, 523, .inl rw)), (m2, .inl (g.2.1 0, 2092, .inl (upd (puK (shK pst 1569) (np - 1) rw k) ((523 * (np - 1)) + k) (rw k)))), (m3, .inl (g.2.1 1, 4, .inr (.inl (shJ pa 3))))]) hx hb hE hP hD hS 2 rfl (by omega) (by omega) dX4_save_105 (hw := rfl) (kk := fun H locs hP hD hS => ?_)
                      refine lv_iinc (v := (nI (k + 1))) (lv' := [(1, .int (nI (k + 1))), (0, .ref m0)]) hx hb dX4_save_106 hl (k := 0) rfl (nI_add (k) 1) (by decide) rfl (fun ls hl => ?_)
                      refine lv_goto (tgt := 78) hx hb dX4_save_109 (by decide) ?_
                      exact ih78 (k + 1) (by omega) (by omega) (upd (puK (shK pst 1569) (np - 1) rw k) ((523 * (np - 1)) + k) (rw k)) puK_s _ _ hP hD hS _ (lv_sub hl [0, 1] rfl)
                exact lp78 ((523 - 0) + 1) 0 (Nat.lt_succ_self _) (by omega) (shK pst 1569) puK_0 _ _ hP hD hS _ (lv_sub hl [0, 1] rfl)
              · have n43 : j < 3 := Nat.lt_of_not_le (fun h9 => c43 ((nI_leI (a := 3) (b := j) (by omega) (by omega)).mpr h9))
                refine lv_aload_n hx hb dX4_save_46 rfl (lv_at hl 1 rfl) ?_
                refine va_get (D := g.1) (ci := 4) (v := .ref m3) (C := RX4) (T := TX4) (N := 11) hx hb hts in_X4_save_X4 hown hK hP 0 rfl rfl 3 (by decide) (hts _ (List.mem_of_getElem? (i := 3) rfl)) (fun _ h9 => h9) rfl dX4_save_47 ?_
                refine lv_iload_n hx hb dX4_save_50 rfl (lv_at hl 0 rfl) ?_
                refine lv_aload_n hx hb dX4_save_51 rfl (lv_at hl 1 rfl) ?_
                refine va_get (D := g.1) (ci := 4) (v := .ref m3) (C := RX4) (T := TX4) (N := 11) hx hb hts in_X4_save_X4 hown hK hP 0 rfl rfl 3 (by decide) (hts _ (List.mem_of_getElem? (i := 3) rfl)) (fun _ h9 => h9) rfl dX4_save_52 ?_
                refine lv_iload_n hx hb dX4_save_55 rfl (lv_at hl 0 rfl) ?_
                refine lv_iconst (v := 1) hx hb dX4_save_56 (by decide) ?_
                refine lv_iadd hx hb dX4_save_57 ?_
                refine lv_tope (y := (nI (j + 1))) (show ((nI j) + 1 : Int32) = nI (j + 1) from nI_add (j) (1)) ?_
                refine gLald (k := (j + 1)) hx hb hE hP 3 rfl (by omega) (by omega) dX4_save_58 ?_
                refine gLast (k := j) (x := ((shJ pa j) (j + 1))) (wsn := [(m0, .inr (4, [.ref m1, .long ma, .ref m2, .ref m3, .int (nI np), .ref m4, .int (nI ln), .int th, .ref m5, .int (nI at_), .long hs])), (m1, .inl (g.2.1 0, 523, .inl rw)), (m2, .inl (g.2.1 0, 2092, .inl (shK pst 1569))), (m3, .inl (g.2.1 1, 4, .inr (.inl (vp_updL (shJ pa j) j ((shJ pa j) (j + 1))))))]) hx hb hE hP hD hS 3 rfl (by omega) (by omega) dX4_save_59 (hw := rfl) (kk := fun H locs hP hD hS => ?_)
                refine lv_iinc (v := (nI (j + 1))) (lv' := [(1, .int (nI (j + 1))), (0, .ref m0)]) hx hb dX4_save_60 hl (k := 0) rfl (nI_add (j) 1) (by decide) rfl (fun ls hl => ?_)
                refine lv_goto (tgt := 41) hx hb dX4_save_63 (by decide) ?_
                exact ih41 (j + 1) (by omega) (by omega) (vp_updL (shJ pa j) j ((shJ pa j) (j + 1))) shJ_s _ _ hP hD hS _ (lv_sub hl [0, 1] rfl)
          exact lp41 ((3 - 0) + 1) 0 (Nat.lt_succ_self _) (by omega) pa shJ_0 _ _ hP hD hS _ (lv_sub hl [0, 1] rfl)
        · have n14 : i < 1569 := Nat.lt_of_not_le (fun h9 => c14 ((nI_leI (a := 1569) (b := i) (by omega) (by omega)).mpr h9))
          refine lv_aload_n hx hb dX4_save_17 rfl (lv_at hl 1 rfl) ?_
          refine va_get (D := g.1) (ci := 4) (v := .ref m2) (C := RX4) (T := TX4) (N := 11) hx hb hts in_X4_save_X4 hown hK hP 0 rfl rfl 2 (by decide) (hts _ (List.mem_of_getElem? (i := 2) rfl)) (fun _ h9 => h9) rfl dX4_save_18 ?_
          refine lv_iload_n hx hb dX4_save_21 rfl (lv_at hl 0 rfl) ?_
          refine lv_aload_n hx hb dX4_save_22 rfl (lv_at hl 1 rfl) ?_
          refine va_get (D := g.1) (ci := 4) (v := .ref m2) (C := RX4) (T := TX4) (N := 11) hx hb hts in_X4_save_X4 hown hK hP 0 rfl rfl 2 (by decide) (hts _ (List.mem_of_getElem? (i := 2) rfl)) (fun _ h9 => h9) rfl dX4_save_23 ?_
          refine lv_iload_n hx hb dX4_save_26 rfl (lv_at hl 0 rfl) ?_
          refine lv_sipush (v := 523) hx hb dX4_save_27 (by decide) ?_
          refine lv_iadd hx hb dX4_save_30 ?_
          refine lv_tope (y := (nI (i + 523))) (show ((nI i) + 523 : Int32) = nI (i + 523) from nI_add (i) (523)) ?_
          refine gIald (k := (i + 523)) hx hb hE hP 2 rfl (by omega) (by omega) dX4_save_31 ?_
          refine gIast (k := i) (x := ((shK pst i) (i + 523))) (wsn := [(m0, .inr (4, [.ref m1, .long ma, .ref m2, .ref m3, .int (nI np), .ref m4, .int (nI ln), .int th, .ref m5, .int (nI at_), .long hs])), (m1, .inl (g.2.1 0, 523, .inl rw)), (m2, .inl (g.2.1 0, 2092, .inl (upd (shK pst i) i ((shK pst i) (i + 523))))), (m3, .inl (g.2.1 1, 4, .inr (.inl pa)))]) hx hb hE hP hD hS 2 rfl (by omega) (by omega) dX4_save_32 (hw := rfl) (kk := fun H locs hP hD hS => ?_)
          refine lv_iinc (v := (nI (i + 1))) (lv' := [(1, .int (nI (i + 1))), (0, .ref m0)]) hx hb dX4_save_33 hl (k := 0) rfl (nI_add (i) 1) (by decide) rfl (fun ls hl => ?_)
          refine lv_goto (tgt := 10) hx hb dX4_save_36 (by decide) ?_
          exact ih10 (i + 1) (by omega) (by omega) (upd (shK pst i) i ((shK pst i) (i + 523))) shK_s _ _ hP hD hS _ (lv_sub hl [0, 1] rfl)
    exact lp10 ((1569 - 0) + 1) 0 (Nat.lt_succ_self _) (by omega) pst shK_0 _ _ hP hD hS _ (lv_sub hl [0, 1] rfl)
