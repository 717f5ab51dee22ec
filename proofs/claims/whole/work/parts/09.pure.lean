/-! PURE: facts of the words of 08 -/
theorem and_gr {w : Nat} (hw8 : w ≤ 8) (v : Int32) : ∃ k, k ≤ gr w ∧ v &&& nI (gr w) = nI k := by
  have h1 := gr_le w hw8
  obtain ⟨j, hj, e⟩ := pk_andE v (m := nI (gr w)) w (pk_tn (by omega))
  exact ⟨j, by unfold gr; omega, e⟩
theorem reg_put {w : Nat} {fr : Nat → Int32} {t : Nat} {v : Int32} (hw8 : w ≤ 8) (h : regOK w fr) : regOK w (upd fr t (v &&& nI (gr w))) := by
  intro j hj
  unfold upd
  by_cases e : j = t
  · rw [if_pos e]
    obtain ⟨k, hk, ek⟩ := and_gr hw8 v
    have h1 := gr_le w hw8
    rw [ek, tn_nI (by omega)]
    exact ⟨rfl, hk⟩
  · rw [if_neg e]
    exact h j hj
theorem we_all {fs : Nat → Int32} : ∀ n : Nat, n < 600 → (∃ k, k ≤ n ∧ sI (weF fs) n = nI k ∧ (k = 0 → ∀ j, j < n → fs j = tv j))
  | 0, _ => ⟨0, Nat.le_refl _, rfl, fun _ j hj => absurd hj (Nat.not_lt_zero _)⟩
  | n + 1, hn => by
    obtain ⟨k, h1, h2, h3⟩ := we_all (fs := fs) n (by omega)
    by_cases e : fs n = tv n
    · refine ⟨k, by omega, ?_, fun hk j hj => ?_⟩
      · rw [sI, h2, weF, if_pos e, Int32.add_zero]
      · rcases Nat.lt_or_ge j n with g | g
        · exact h3 hk j g
        · rw [show j = n by omega]; exact e
    · refine ⟨k + 1, by omega, ?_, fun hk => absurd hk (by omega)⟩
      rw [sI, h2, weF, if_neg e, nI_1]
theorem quarter (a b : Nat) : (a + b) * (a + b) / 4 = a * b + ad a b * ad a b / 4 := by
  have h : (a + b) * (a + b) = ad a b * ad a b + 4 * (a * b) := by
    rcases Nat.le_total a b with g | g
    · obtain ⟨d, rfl⟩ := Nat.exists_eq_add_of_le g
      rw [show ad a (a + d) = d by unfold ad; omega]
      simp only [Nat.add_mul, Nat.mul_add, Nat.mul_comm d a]
      omega
    · obtain ⟨d, rfl⟩ := Nat.exists_eq_add_of_le g
      rw [show ad (b + d) b = d by unfold ad; omega]
      simp only [Nat.add_mul, Nat.mul_add, Nat.mul_comm d b]
      omega
  rw [h, Nat.add_mul_div_left _ _ (by omega : 0 < 4), Nat.add_comm]
theorem true_right {fs : Nat → Int32} {a b : Nat} (h1 : fs (a + b) = tv (a + b)) (h2 : fs (ad a b) = tv (ad a b)) : ¬ wpP fs a b := by
  unfold wpP
  rw [h1, h2]
  unfold tv
  rw [quarter, pk_sub (Nat.le_add_left _ _), Nat.add_sub_cancel]
  exact fun h => h rfl
theorem all_right {fs : Nat → Int32} {w : Nat} (hw8 : w ≤ 8) (h : sI (weF fs) (ents w) = 0) {a b : Nat} (ha : a ≤ gr w) (hb : b ≤ gr w) : ¬ wpP fs a b := by
  have he := ents_le w hw8
  obtain ⟨k, h1, h2, h3⟩ := we_all (fs := fs) (ents w) (by omega)
  have hk : k = 0 := (nI_eq (b := 0) (by omega) (by omega)).mp (h2.symm.trans h)
  exact true_right (h3 hk _ (by unfold ents; omega)) (h3 hk _ (by unfold ents ad; omega))
theorem cwR_z {fs : Nat → Int32} {a : Nat} {q : Int32 × (Nat → Int32)} : ∀ n, (∀ b, b < n → ¬ wpP fs a b) → cwR fs a n q = q
  | 0, _ => rfl
  | n + 1, h => by rw [cwR, cwR_z n (fun b hb => h b (by omega)), cwT, if_neg (h n (by omega))]
theorem cwA_z {fs : Nat → Int32} {G : Nat} (h : ∀ a, a ≤ G → ∀ b, b ≤ G → ¬ wpP fs a b) {q : Int32 × (Nat → Int32)} : ∀ n, n ≤ G + 1 → cwA fs n q = q
  | 0, _ => rfl
  | n + 1, hn => by rw [cwA, cwA_z h n (by omega), cwR_z (n + 1) (fun b hb => h n (by omega) b (by omega))]
theorem pow_ne0 {kp : Int32} (h : okR 0 16 kp) : ¬ (1 : Int32) <<< (kp &&& 31) = 0 := by
  obtain ⟨k, hk, rfl⟩ := rN_of (n := 16) (by omega) h
  have : ∀ k, k < 17 → ¬ (1 : Int32) <<< (nI k &&& 31) = 0 := by decide +kernel
  exact this k (by omega)
theorem n64_of {r : UInt64} (h : FP.Core.dIsNaN r = false) : vf_n64 r := by
  unfold vf_n64
  rw [UInt64.le_iff_toNat_le, UInt64.toNat_and]
  have e : (0x7fffffffffffffff : UInt64).toNat = 2 ^ 63 - 1 := by decide
  rw [e, Nat.and_two_pow_sub_one_eq_mod]
  have e2 : (0x7ff0000000000000 : UInt64).toNat = 9218868437227405312 := by decide
  rw [e2]
  refine Nat.le_of_not_lt (fun q => ?_)
  rw [(FP.Core.isNaN_bits r).mpr q] at h
  cases h
theorem er1 {x kp : Int32} (h : okR 0 16 kp) : FP.Core.dIsNaN (FP.ddiv (FP.i2d x) (FP.i2d ((1 : Int32) <<< (kp &&& 31)))) = false :=
  FP.Core.ddiv_out ((FP.Core.notNaN_iff _).mpr (FP.Core.i2d_fin x).ne_nan) (FP.Core.i2d_fin _) (fun q => FP.Core.i2d_ne_zero (pow_ne0 h) ((FP.Core.zero_bits2 _).mp q))
theorem er2 {x y kp : Int32} (h : okR 0 16 kp) : FP.Core.dIsNaN (FP.dsub (FP.i2d y) (FP.ddiv (FP.i2d x) (FP.i2d ((1 : Int32) <<< (kp &&& 31))))) = false :=
  FP.Core.dsub_out' (FP.Core.i2d_fin y) (er1 h)
theorem fw_zero {fs : Nat → Int32} {w : Nat} (hw8 : w ≤ 8) (h : sI (weF fs) (ents w) = 0) : fwF fs (gr w) = -1 := fwF_none (fun a ha b hb => all_right hw8 h ha hb)
theorem pTD_b (u : PSt) (v : Int32) (h1 : uPl u ≤ 6) (h2 : uDg u ≤ 3) (h3 : uNs u ≤ 25) : uPl (pTD u v).1 ≤ 6 ∧ uDg (pTD u v).1 ≤ 3 ∧ uNs (pTD u v).1 ≤ 25 := by
  unfold pTD
  split
  · exact ⟨h1, by show uDg u + 1 ≤ 3; omega, h3⟩
  · exact ⟨h1, h2, h3⟩
theorem pTS_b (u : PSt) (v : Int32) (h1 : uPl u ≤ 6) (h2 : uDg u ≤ 3) (h3 : uNs u ≤ 25) : uPl (pTS u v).1 ≤ 6 ∧ uDg (pTS u v).1 ≤ 3 ∧ uNs (pTS u v).1 ≤ 25 := by
  unfold pTS
  split
  · rename_i h
    exact ⟨Nat.zero_le _, h2, by show uNs u + 1 ≤ 25; omega⟩
  · exact ⟨h1, h2, h3⟩
theorem pTO_b (u : PSt) (v : Int32) (h2 : uDg u ≤ 3) (h3 : uNs u ≤ 25) : uPl (pTO u v).1 ≤ 6 ∧ uDg (pTO u v).1 ≤ 3 ∧ uNs (pTO u v).1 ≤ 25 := by
  unfold pTO
  split
  · exact pTD_b _ v (by show 3 ≤ 6; omega) (by show 0 ≤ 3; omega) h3
  · exact ⟨by show 4 ≤ 6; omega, h2, h3⟩
theorem pT_b (u : PSt) (v : Int32) (h1 : uPl u ≤ 6) (h2 : uDg u ≤ 3) (h3 : uNs u ≤ 25) : uPl (pT u v).1 ≤ 6 ∧ uDg (pT u v).1 ≤ 3 ∧ uNs (pT u v).1 ≤ 25 := by
  unfold pT
  split
  · exact ⟨by show 1 ≤ 6; omega, h2, h3⟩
  split
  · exact ⟨by show 2 ≤ 6; omega, h2, h3⟩
  split
  · exact pTO_b u v h2 h3
  split
  · exact ⟨by show 5 ≤ 6; omega, h2, h3⟩
  split
  · exact ⟨by show 6 ≤ 6; omega, h2, h3⟩
  · exact pTS_b u v h1 h2 h3
theorem pSt_b (tx : Nat → Int32) (at_ : Nat) (u : PSt) (h1 : uPl u ≤ 6) (h2 : uDg u ≤ 3) (h3 : uNs u ≤ 25) : uPl (pSt tx at_ u).1 ≤ 6 ∧ uDg (pSt tx at_ u).1 ≤ 3 ∧ uNs (pSt tx at_ u).1 ≤ 25 := by
  unfold pSt
  split
  · unfold pRN
    split
    · exact pTD_b u _ h1 h2 h3
    split
    · exact ⟨h1, h2, h3⟩
    · exact pTS_b u _ h1 h2 h3
  · exact pT_b u _ h1 h2 h3
theorem pP_s {tx : Nat → Int32} {len at_ : Nat} {u : PSt} {q : PSt × Int32} (h : at_ < len) (e : pSt tx at_ u = q) (hq : q.2 = -1) : pP tx len (len - at_) u = pP tx len (len - (at_ + 1)) q.1 := by
  obtain ⟨n, hn⟩ : ∃ n, len - at_ = n + 1 := ⟨len - at_ - 1, by omega⟩
  have h1 : len - (n + 1) = at_ := by omega
  rw [hn, show len - (at_ + 1) = n by omega, pP, h1, e, if_pos hq]
theorem pP_x {tx : Nat → Int32} {len at_ : Nat} {u : PSt} {q : PSt × Int32} (h : at_ < len) (e : pSt tx at_ u = q) (hq : ¬ q.2 = -1) : pP tx len (len - at_) u = q := by
  obtain ⟨n, hn⟩ : ∃ n, len - at_ = n + 1 := ⟨len - at_ - 1, by omega⟩
  have h1 : len - (n + 1) = at_ := by omega
  rw [hn, pP, h1, e, if_neg hq]
theorem er_nan1 {x kp : Int32} (h : okR 0 16 kp) : vf_n64 (FP.ddiv (FP.i2d x) (FP.i2d ((1 : Int32) <<< (kp &&& 31)))) := n64_of (er1 h)
theorem er_nan2 {x y kp : Int32} (h : okR 0 16 kp) : vf_n64 (FP.dsub (FP.i2d y) (FP.ddiv (FP.i2d x) (FP.i2d ((1 : Int32) <<< (kp &&& 31))))) := n64_of (er2 h)
theorem cw_zero {fs : Nat → Int32} {w : Nat} (hw8 : w ≤ 8) (h : sI (weF fs) (ents w) = 0) : cwF fs w = (0, fun _ => 0) := cwA_z (fun a ha b hb => all_right hw8 h ha hb) _ (Nat.le_refl _)
theorem exS_ok {w : Nat} {fc fs : Nat → Int32} {u : PSt} {k : Nat} {q : (Nat → Int32) × Int32} (hw8 : w ≤ 8) (h : regOK w q.1) (hr : rowOK u k) : regOK w (exS w fc fs u k q).1 := by
  unfold exS xvF
  split
  · exact reg_put hw8 h
  · exact reg_put hw8 h
