/-! THE LAW'S LOOP; printed by wip/whole/gen/spec_walk.py -/
theorem lw_more {L j : Nat} (hL : L ≤ 3072) (h0 : 6 * j ≤ L) (h : ¬ Int32.ofNat L - 6 < nI (6 * j)) : 6 * j + 6 ≤ L := by
  rcases Nat.lt_or_ge L 6 with g | g
  · have h1 : nI L - nI 6 < 0 := pk_sneg (by omega) g
    exact absurd (Int32.lt_of_lt_of_le (show Int32.ofNat L - 6 < 0 from h1) (nI_pos' (n := 6 * j) (by omega))) h
  · have e : Int32.ofNat L - 6 = nI (L - 6) := pk_sub (a := L) (b := 6) g
    rw [e] at h
    rcases Nat.lt_or_ge (L - 6) (6 * j) with q | q
    · exact absurd (nI_lt q (by omega)) h
    · omega
theorem lw_31 (x : Int32) : ∃ k, k < 32 ∧ x &&& 31 = nI k := by
  obtain ⟨j, hj, e⟩ := pk_andE x (m := 31) 5 (by decide)
  exact ⟨j, by omega, e⟩
set_option maxRecDepth 100000 in
set_option maxHeartbeats 4000000 in
theorem lw_loop {p : Program} {l : Launch} {e : Env} {s : State} {m : MethodId} {below : List Frame} {meth : Method} {c : Code} {xs : Nat → Int32} {g : GT} {b L x0 h0 p0 r0 a0 a1 a2 a3 h1 p1 p2 p3 p4 p5 m0 m1 m2 m3 m4 m5 o0 o1 : Nat} {pp : Nat → Nat → Nat} (F : LF p l s m #[Value.ref b] c b L xs g) (hr : meth.sig.returnType = ret) (hlocks : meth.locks = false) : ∀ (n j : Nat), 6 * j ≤ L → L < 6 * j + n → LG p l e s m #[Value.ref b] below meth c (lw_Z below #[Value.ref b] s) g b x0 h0 p0 r0 a0 a1 a2 a3 h1 p1 p2 p3 p4 p5 m0 m1 m2 m3 m4 m5 o0 o1 pp (40 + 5 * j) (7000 + 30 * j) j := by
  intro n
  induction n with
  | zero => intro j h1 h2; omega
  | succ n ih =>
    intro j hj0 hn
    intro w ac fc fs fr cnt nx sw sa sc ss sr len tx u ma rw pst pa fw th at_ hs rd fo fd H locs ls hI hP hD hS hl
    obtain ⟨hx, hb, hml, hown, hts, hflags, hE, hZ, hN, hX, hbl, hL⟩ := id F
    have hbA : ¬ (fun q : Nat => s.heap.size ≤ q) b := Nat.not_le.mpr hbl
    refine lv_iload hx hb dL_law_28 (lv_at hl 5 rfl) ?_
    refine lv_aload_n hx hb dL_law_30 rfl (lv_at hl 0 rfl) ?_
    refine va_slen hx hb hX hbl hbA hS dL_law_31 ?_
    refine lv_bipush (v := 6) hx hb dL_law_32 (by decide) ?_
    refine lv_isub hx hb dL_law_34 ?_
    refine lv_icmp_gt (tgt := 1455) hx hb dL_law_35 (by decide) (fun c35 => ?_) (fun c35 => ?_)
    · refine lv_iconst (v := 1) hx hb dL_law_1455 (by decide) ?_
      refine va_forget (fun q hq => hS.2.2 q hq) ?_
      refine W.widen (k := 601024) (n := 7293034) (by omega) (by omega) ?_
      refine W.base ?_
      exact lw_ret (Drawn.sameBut.refl s.drawn lw_cs) hx hb hr hlocks dL_law_1456
    · have hj : 6 * j + 6 ≤ L := lw_more hL hj0 c35
      refine lv_aload_n hx hb dL_law_38 rfl (lv_at hl 0 rfl) ?_
      refine lv_iload hx hb dL_law_39 (lv_at hl 5 rfl) ?_
      refine va_sld hx hb hX hbl hbA hS (vp_in_nI (by omega) (by omega)) dL_law_41 ?_
      refine lv_tope (y := xs (6 * j)) (congrArg xs (nI_clamp (n := 6 * j) (by omega))) ?_
      refine lv_bipush (v := 31) hx hb dL_law_42 (by decide) ?_
      refine lv_iand hx hb dL_law_44 ?_
      obtain ⟨k, hk, ek⟩ := lw_31 (xs (6 * j))
      refine lv_tope (y := nI k) ek ?_
      have gn := ih (j + 1) hj (by omega)
      rw [show 40 + 5 * (j + 1) = 40 + 5 * j + 5 by omega, show 7000 + 30 * (j + 1) = 7000 + 30 * j + 30 by omega] at gn
      have hc0 : 40 + 5 * j + 5 ≤ room_1.cells := Nat.le_trans (show 40 + 5 * j + 5 ≤ 600000 by omega) (Nat.le_of_ble_eq_true rfl)
      have hs0 : 7000 + 30 * j + 30 ≤ room_1.slots := Nat.le_trans (show 7000 + 30 * j + 30 ≤ 600000 by omega) (Nat.le_of_ble_eq_true rfl)
      rcases (show k = 0 ∨ k = 1 ∨ k = 2 ∨ k = 3 ∨ k = 4 ∨ k = 5 ∨ k = 6 ∨ k = 7 ∨ k = 8 ∨ k = 9 ∨ k = 10 ∨ k = 11 ∨ k = 12 ∨ k = 13 ∨ k = 14 ∨ k = 15 ∨ k = 16 ∨ k = 17 ∨ k = 18 ∨ k = 19 ∨ k = 20 ∨ k = 21 ∨ k = 22 ∨ k = 23 ∨ k = 24 ∨ k = 25 ∨ k = 26 ∨ k = 27 ∨ k = 28 ∨ k = 29 ∨ k = 30 ∨ k = 31 by omega) with rfl | rfl | rfl | rfl | rfl | rfl | rfl | rfl | rfl | rfl | rfl | rfl | rfl | rfl | rfl | rfl | rfl | rfl | rfl | rfl | rfl | rfl | rfl | rfl | rfl | rfl | rfl | rfl | rfl | rfl | rfl | rfl
      · exact lv_tableIn (tgt := 164) (off := 119) hx hb dL_law_45 (by decide) (by decide) rfl (by decide) (lw_case_0 F hj hc0 hs0 gn hI hP hD hS hl)
      · exact lv_tableIn (tgt := 220) (off := 175) hx hb dL_law_45 (by decide) (by decide) rfl (by decide) (lw_case_1 F hj hc0 hs0 gn hI hP hD hS hl)
      · exact lv_tableIn (tgt := 288) (off := 243) hx hb dL_law_45 (by decide) (by decide) rfl (by decide) (lw_case_2 F hj hc0 hs0 gn hI hP hD hS hl)
      · exact lv_tableIn (tgt := 356) (off := 311) hx hb dL_law_45 (by decide) (by decide) rfl (by decide) (lw_case_3 F hj hc0 hs0 gn hI hP hD hS hl)
      · exact lv_tableIn (tgt := 412) (off := 367) hx hb dL_law_45 (by decide) (by decide) rfl (by decide) (lw_case_4 F hj hc0 hs0 gn hI hP hD hS hl)
      · exact lv_tableIn (tgt := 425) (off := 380) hx hb dL_law_45 (by decide) (by decide) rfl (by decide) (lw_case_5 F hj hc0 hs0 gn hI hP hD hS hl)
      · exact lv_tableIn (tgt := 493) (off := 448) hx hb dL_law_45 (by decide) (by decide) rfl (by decide) (lw_case_6 F hj hc0 hs0 gn hI hP hD hS hl)
      · exact lv_tableIn (tgt := 507) (off := 462) hx hb dL_law_45 (by decide) (by decide) rfl (by decide) (lw_case_7 F hj hc0 hs0 gn hI hP hD hS hl)
      · exact lv_tableIn (tgt := 587) (off := 542) hx hb dL_law_45 (by decide) (by decide) rfl (by decide) (lw_case_8 F hj hc0 hs0 gn hI hP hD hS hl)
      · exact lv_tableIn (tgt := 667) (off := 622) hx hb dL_law_45 (by decide) (by decide) rfl (by decide) (lw_case_9 F hj hc0 hs0 gn hI hP hD hS hl)
      · exact lv_tableIn (tgt := 735) (off := 690) hx hb dL_law_45 (by decide) (by decide) rfl (by decide) (lw_case_10 F hj hc0 hs0 gn hI hP hD hS hl)
      · exact lv_tableIn (tgt := 839) (off := 794) hx hb dL_law_45 (by decide) (by decide) rfl (by decide) (lw_case_11 F hj hc0 hs0 gn hI hP hD hS hl)
      · exact lv_tableIn (tgt := 952) (off := 907) hx hb dL_law_45 (by decide) (by decide) rfl (by decide) (lw_case_12 F hj hc0 hs0 gn hI hP hD hS hl)
      · exact lv_tableIn (tgt := 1020) (off := 975) hx hb dL_law_45 (by decide) (by decide) rfl (by decide) (lw_case_13 F hj hc0 hs0 gn hI hP hD hS hl)
      · exact lv_tableIn (tgt := 1076) (off := 1031) hx hb dL_law_45 (by decide) (by decide) rfl (by decide) (lw_case_14 F hj hc0 hs0 gn hI hP hD hS hl)
      · exact lv_tableIn (tgt := 1132) (off := 1087) hx hb dL_law_45 (by decide) (by decide) rfl (by decide) (lw_case_15 F hj hc0 hs0 gn hI hP hD hS hl)
      · exact lv_tableIn (tgt := 1146) (off := 1101) hx hb dL_law_45 (by decide) (by decide) rfl (by decide) (lw_case_16 F hj hc0 hs0 gn hI hP hD hS hl)
      · exact lv_tableIn (tgt := 1159) (off := 1114) hx hb dL_law_45 (by decide) (by decide) rfl (by decide) (lw_case_17 F hj hc0 hs0 gn hI hP hD hS hl)
      · exact lv_tableIn (tgt := 1215) (off := 1170) hx hb dL_law_45 (by decide) (by decide) rfl (by decide) (lw_case_18 F hj hc0 hs0 gn hI hP hD hS hl)
      · exact lv_tableIn (tgt := 1228) (off := 1183) hx hb dL_law_45 (by decide) (by decide) rfl (by decide) (lw_case_19 F hj hc0 hs0 gn hI hP hD hS hl)
      · exact lv_tableIn (tgt := 1241) (off := 1196) hx hb dL_law_45 (by decide) (by decide) rfl (by decide) (lw_case_20 F hj hc0 hs0 gn hI hP hD hS hl)
      · exact lv_tableIn (tgt := 1309) (off := 1264) hx hb dL_law_45 (by decide) (by decide) rfl (by decide) (lw_case_21 F hj hc0 hs0 gn hI hP hD hS hl)
      · exact lv_tableIn (tgt := 1365) (off := 1320) hx hb dL_law_45 (by decide) (by decide) rfl (by decide) (lw_case_22 F hj hc0 hs0 gn hI hP hD hS hl)
      · exact lv_tableIn (tgt := 1378) (off := 1333) hx hb dL_law_45 (by decide) (by decide) rfl (by decide) (lw_case_23 F hj hc0 hs0 gn hI hP hD hS hl)
      · exact lv_tableIn (tgt := 1391) (off := 1346) hx hb dL_law_45 (by decide) (by decide) rfl (by decide) (lw_case_24 F hj hc0 hs0 gn hI hP hD hS hl)
      · exact lv_tableIn (tgt := 1435) (off := 1390) hx hb dL_law_45 (by decide) (by decide) rfl (by decide) (lw_case_25 F hj hc0 hs0 gn hI hP hD hS hl)
      · exact lv_tableOut (tgt := 1449) hx hb dL_law_45 (by decide) (by decide) (lw_case_26 F hj hc0 hs0 gn hI hP hD hS hl)
      · exact lv_tableOut (tgt := 1449) hx hb dL_law_45 (by decide) (by decide) (lw_case_26 F hj hc0 hs0 gn hI hP hD hS hl)
      · exact lv_tableOut (tgt := 1449) hx hb dL_law_45 (by decide) (by decide) (lw_case_26 F hj hc0 hs0 gn hI hP hD hS hl)
      · exact lv_tableOut (tgt := 1449) hx hb dL_law_45 (by decide) (by decide) (lw_case_26 F hj hc0 hs0 gn hI hP hD hS hl)
      · exact lv_tableOut (tgt := 1449) hx hb dL_law_45 (by decide) (by decide) (lw_case_26 F hj hc0 hs0 gn hI hP hD hS hl)
      · exact lv_tableOut (tgt := 1449) hx hb dL_law_45 (by decide) (by decide) (lw_case_26 F hj hc0 hs0 gn hI hP hD hS hl)
