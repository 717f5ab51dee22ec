/-! TRIAL: proofs for 09 -/
theorem we_all {fs : Nat → Int32} : ∀ n : Nat, n < 600 → (∃ k, k ≤ n ∧ sI (weF fs) n = nI k ∧ (k = 0 → ∀ j, j < n → fs j = tv j))
  | 0, _ => ⟨0, Nat.le_refl _, rfl, fun _ j hj => absurd hj (Nat.not_lt_zero _)⟩
  | n + 1, hn => by
    obtain ⟨k, h1, h2, h3⟩ := we_all (fs := fs) n (by omega)
    by_cases e : fs n = tv n
    · refine ⟨k, by omega, ?_, fun hk j hj => ?_⟩
      · rw [sI, h2, weF, if_pos e, Int32.add_zero]
      · rcases Nat.lt_or_ge j n with g | g
        · exact h3 hk j g
        · rw [show j = n by omega]; exact e
    · refine ⟨k + 1, by omega, ?_, fun hk => absurd hk (by omega)⟩
      rw [sI, h2, weF, if_neg e, nI_1]
theorem quarter (a b : Nat) : (a + b) * (a + b) / 4 = a * b + ad a b * ad a b / 4 := by
  have h : (a + b) * (a + b) = ad a b * ad a b + 4 * (a * b) := by
    rcases Nat.le_total a b with g | g
    · obtain ⟨d, rfl⟩ := Nat.exists_eq_add_of_le g
      rw [show ad a (a + d) = d by unfold ad; omega]
      simp only [Nat.add_mul, Nat.mul_add, Nat.mul_comm d a]
      omega
    · obtain ⟨d, rfl⟩ := Nat.exists_eq_add_of_le g
      rw [show ad (b + d) b = d by unfold ad; omega]
      simp only [Nat.add_mul, Nat.mul_add, Nat.mul_comm d b]
      omega
  rw [h, Nat.add_mul_div_left _ _ (by omega : 0 < 4), Nat.add_comm]
theorem true_right {fs : Nat → Int32} {a b : Nat} (h1 : fs (a + b) = tv (a + b)) (h2 : fs (ad a b) = tv (ad a b)) : ¬ wpP fs a b := by
  unfold wpP
  rw [h1, h2]
  unfold tv
  rw [quarter, pk_sub (Nat.le_add_left _ _), Nat.add_sub_cancel]
  exact fun h => h rfl
theorem all_right {fs : Nat → Int32} {w : Nat} (hw8 : w ≤ 8) (h : sI (weF fs) (ents w) = 0) {a b : Nat} (ha : a ≤ gr w) (hb : b ≤ gr w) : ¬ wpP fs a b := by
  have he := ents_le w hw8
  obtain ⟨k, h1, h2, h3⟩ := we_all (fs := fs) (ents w) (by omega)
  have hk : k = 0 := (nI_eq (b := 0) (by omega) (by omega)).mp (h2.symm.trans h)
  exact true_right (h3 hk _ (by unfold ents; omega)) (h3 hk _ (by unfold ents ad; omega))
theorem fw_zero' {fs : Nat → Int32} {w : Nat} (hw8 : w ≤ 8) (h : sI (weF fs) (ents w) = 0) : fwF fs (gr w) = -1 := fwF_none (fun a ha b hb => all_right hw8 h ha hb)
theorem cwR_z {fs : Nat → Int32} {a : Nat} {q : Int32 × (Nat → Int32)} : ∀ n, (∀ b, b < n → ¬ wpP fs a b) → cwR fs a n q = q
  | 0, _ => rfl
  | n + 1, h => by rw [cwR, cwR_z n (fun b hb => h b (by omega)), cwT, if_neg (h n (by omega))]
theorem cwA_z {fs : Nat → Int32} {G : Nat} (h : ∀ a, a ≤ G → ∀ b, b ≤ G → ¬ wpP fs a b) {q : Int32 × (Nat → Int32)} : ∀ n, n ≤ G + 1 → cwA fs n q = q
  | 0, _ => rfl
  | n + 1, hn => by rw [cwA, cwA_z h n (by omega), cwR_z (n + 1) (fun b hb => h n (by omega) b (by omega))]
theorem cw_zero' {fs : Nat → Int32} {w : Nat} (hw8 : w ≤ 8) (h : sI (weF fs) (ents w) = 0) : cwF fs w = (0, fun _ => 0) := cwA_z (fun a ha b hb => all_right hw8 h ha hb) _ (Nat.le_refl _)
theorem exS_ok' {w : Nat} {fc fs : Nat → Int32} {u : PSt} {k : Nat} {q : (Nat → Int32) × Int32} (hw8 : w ≤ 8) (h : regOK w q.1) (hr : rowOK u k) : regOK w (exS w fc fs u k q).1 := by
  unfold exS xvF
  split
  · exact reg_put hw8 h
  · exact reg_put hw8 h
theorem pow_ne0 {kp : Int32} (h : okR 0 16 kp) : ¬ (1 : Int32) <<< (kp &&& 31) = 0 := by
  obtain ⟨k, hk, rfl⟩ := rN_of (n := 16) (by omega) h
  have : ∀ k, k < 17 → ¬ (1 : Int32) <<< (nI k &&& 31) = 0 := by decide +kernel
  exact this k (by omega)
theorem n64_of {r : UInt64} (h : FP.Core.dIsNaN r = false) : vf_n64 r := by
  unfold vf_n64
  rw [UInt64.le_iff_toNat_le, UInt64.toNat_and]
  have e : (0x7fffffffffffffff : UInt64).toNat = 2 ^ 63 - 1 := by decide
  rw [e, Nat.and_two_pow_sub_one_eq_mod]
  have e2 : (0x7ff0000000000000 : UInt64).toNat = 9218868437227405312 := by decide
  rw [e2]
  refine Nat.le_of_not_lt (fun q => ?_)
  rw [(FP.Core.isNaN_bits r).mpr q] at h
  cases h
theorem er1 {x kp : Int32} (h : okR 0 16 kp) : FP.Core.dIsNaN (FP.ddiv (FP.i2d x) (FP.i2d ((1 : Int32) <<< (kp &&& 31)))) = false :=
  FP.Core.ddiv_out ((FP.Core.notNaN_iff _).mpr (FP.Core.i2d_fin x).ne_nan) (FP.Core.i2d_fin _) (fun q => FP.Core.i2d_ne_zero (pow_ne0 h) ((FP.Core.zero_bits2 _).mp q))
theorem er2 {x y kp : Int32} (h : okR 0 16 kp) : FP.Core.dIsNaN (FP.dsub (FP.i2d y) (FP.ddiv (FP.i2d x) (FP.i2d ((1 : Int32) <<< (kp &&& 31))))) = false :=
  FP.Core.dsub_out' (FP.Core.i2d_fin y) (er1 h)
