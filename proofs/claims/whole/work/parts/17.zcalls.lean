/-! SPEC of the reference's calls -/
def meR (a b : Nat) (kp wy : Int32) : UInt64 := FP.dsub (FP.i2d (mrF (nI (a * b)) kp wy)) (FP.ddiv (FP.i2d (nI (a * b))) (FP.i2d ((1 : Int32) <<< (kp &&& 31))))
def menF (rw : Nat → Int32) (n : Nat) (wh : Int32) : Int32 :=
  if wh = 0 then rw (12 + n) else if wh = 1 then tv n else if wh = 2 then onF (tv n) - onF (tv n) / 2 * 2 else if wh = 3 then (if fdP (mwF rw n) then 0 else 1) else mwF rw n
theorem t5_out {x : Int32} (h0 : ¬ x = 0) (h1 : ¬ x = 1) (h2 : ¬ x = 2) (h3 : ¬ x = 3) (h4 : ¬ x = 4) : x.toInt < 0 ∨ 4 < x.toInt := by
  have k0 := lv_neT (a := 0) h0 (by decide)
  have k1 := lv_neT (a := 1) h1 (by decide)
  have k2 := lv_neT (a := 2) h2 (by decide)
  have k3 := lv_neT (a := 3) h3 (by decide)
  have k4 := lv_neT (a := 4) h4 (by decide)
  omega
theorem t5_no {x : Int32} (h0 : ¬ x = 0) (h1 : ¬ x = 1) (h2 : ¬ x = 2) (h3 : ¬ x = 3) (h4 : ¬ x = 4) : ¬ okR 0 4 x := by
  rintro h
  obtain ⟨k, hk, rfl⟩ := rN_of (n := 4) (by omega) h
  rcases (show k = 0 ∨ k = 1 ∨ k = 2 ∨ k = 3 ∨ k = 4 by omega) with rfl | rfl | rfl | rfl | rfl
  · exact h0 rfl
  · exact h1 rfl
  · exact h2 rfl
  · exact h3 rfl
  · exact h4 rfl
def mqF (rw : Nat → Int32) (G : Nat) (mt mo : Int32) (b : Nat) : Int32 := if mcF rw b mo ≤ mcF rw b mt then 0 else nI (G + 1)
def mrpF (rw : Nat → Int32) (i : Nat) : Nat → Int32 := fun k => if (12 ≤ k ∧ k < 12 + i) ∧ fdP (mwF rw (k - 12)) then tv (k - 12) else rw k
theorem mrp_z {rw : Nat → Int32} : rw = mrpF rw 0 := by
  funext k
  unfold mrpF
  rw [if_neg (fun h => by omega)]
theorem mrp_w {rw : Nat → Int32} {i w : Nat} (h : rw 0 = nI w) : mrpF rw i 0 = nI w := by
  unfold mrpF
  rw [if_neg (fun h => by omega)]
  exact h
theorem mrp_self {rw : Nat → Int32} {i : Nat} : mwF (mrpF rw i) i = mwF rw i := by
  unfold mwF
  have : mrpF rw i (12 + i) = rw (12 + i) := by
    unfold mrpF
    rw [if_neg (fun h => by omega)]
  rw [this]
theorem mrp_t {rw : Nat → Int32} {i : Nat} (h : fdP (mwF (mrpF rw i) i)) : fdP (mwF rw i) := by rw [mrp_self] at h; exact h
theorem mrp_b {rw : Nat → Int32} {i : Nat} (h : fdP (mwF rw i)) : fdP (mwF (mrpF rw i) i) := by rw [mrp_self]; exact h
theorem mrp_put {rw : Nat → Int32} {i : Nat} (h : fdP (mwF rw i)) : upd (mrpF rw i) (12 + i) (tv i) = mrpF rw (i + 1) := by
  funext k
  unfold upd mrpF
  by_cases hk : k = 12 + i
  · subst hk
    rw [if_pos rfl, show 12 + i - 12 = i by omega, if_pos ⟨by omega, h⟩]
  · rw [if_neg hk]
    by_cases h2 : (12 ≤ k ∧ k < 12 + i) ∧ fdP (mwF rw (k - 12))
    · rw [if_pos h2, if_pos ⟨by omega, h2.2⟩]
    · rw [if_neg h2, if_neg (fun q => h2 ⟨by omega, q.2⟩)]
theorem mrp_keep {rw : Nat → Int32} {i : Nat} (h : ¬ fdP (mwF rw i)) : mrpF rw i = mrpF rw (i + 1) := by
  funext k
  unfold mrpF
  by_cases hk : k = 12 + i
  · subst hk
    rw [show 12 + i - 12 = i by omega, if_neg (fun q => h q.2), if_neg (fun q => h q.2)]
  · by_cases h2 : (12 ≤ k ∧ k < 12 + i) ∧ fdP (mwF rw (k - 12))
    · rw [if_pos h2, if_pos ⟨by omega, h2.2⟩]
    · rw [if_neg h2, if_neg (fun q => h2 ⟨by omega, q.2⟩)]
def unK (p : Nat → Int32) (n : Nat) (rw : Nat → Int32) (i : Nat) : Nat → Int32 := fun k => if k < i then p (523 * n + k) else rw k
theorem unK_0 {p rw : Nat → Int32} {n : Nat} : rw = unK p n rw 0 := by
  funext k
  unfold unK
  rw [if_neg (by omega)]
theorem unK_s {p rw : Nat → Int32} {n i : Nat} : upd (unK p n rw i) i (p (523 * n + i)) = unK p n rw (i + 1) := by
  funext k
  unfold upd unK
  by_cases h : k = i
  · rw [if_pos h, if_pos (by omega), h]
  · rw [if_neg h]
    by_cases h1 : k < i
    · rw [if_pos h1, if_pos (by omega)]
    · rw [if_neg h1, if_neg (by omega)]
