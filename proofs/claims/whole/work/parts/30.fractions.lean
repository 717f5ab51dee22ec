/-! FRACTIONS, ERRORS, ENTRIES: the class's and the reference's -/
theorem shl_tp : ∀ l, l < 32 → ((1 : Int32) <<< (nI l &&& 31)).toBitVec = BitVec.twoPow 32 l := by decide +kernel
theorem shl_sm : ∀ l, l < 32 → ((nI l &&& 31).toBitVec.smod 32).toNat = l := by decide +kernel
theorem shl_any (x : Int32) {k : Nat} (hk : k < 32) : x <<< (nI k &&& 31) = x * ((1 : Int32) <<< (nI k &&& 31)) := by
  refine Int32.toBitVec_inj.mp ?_
  rw [Int32.toBitVec_mul, shl_tp k hk, Int32.toBitVec_shiftLeft, BitVec.shiftLeft_eq', shl_sm k hk, BitVec.shiftLeft_eq_mul_twoPow]
theorem bm32 {x : Int} (h : -2 ^ 31 ≤ x ∧ x < 2 ^ 31) : x.bmod (2 ^ 32) = x := by
  rw [Int.bmod_def]
  split <;> omega
theorem par_e (q : Int32) : (q &&& 1 = 0 ∧ q - q / 2 * 2 = 0) ∨ (q &&& 1 = 1 ∧ ¬ q - q / 2 * 2 = 0) := by
  have hn : q &&& 1 = nI (q.toBitVec.toNat % 2) := pk_and q (m := 1) 1 (by decide)
  have hb : q.toBitVec.toNat < 2 ^ 32 := q.toBitVec.isLt
  have ht : q.toInt = if 2 * q.toBitVec.toNat < 2 ^ 32 then (q.toBitVec.toNat : Int) else (q.toBitVec.toNat : Int) - 2 ^ 32 := BitVec.toInt_eq_toNat_cond q.toBitVec
  generalize q.toBitVec.toNat = n at hn hb ht
  have hd : (q - q / 2 * 2).toInt = (q.toInt - ((q.toInt.tdiv 2).bmod (2 ^ 32) * 2).bmod (2 ^ 32)).bmod (2 ^ 32) := by
    rw [Int32.toInt_sub, Int32.toInt_mul, Int32.toInt_div]
    rfl
  have hz : (q - q / 2 * 2 = 0) ↔ (q - q / 2 * 2).toInt = 0 := by
    constructor
    · intro h; rw [h]; rfl
    · intro h; exact Int32.toInt_inj.mp (by rw [h]; rfl)
  rw [hn, hz, hd]
  have hr : q.toInt.tdiv 2 = if 0 ≤ q.toInt then q.toInt / 2 else - ((- q.toInt) / 2) := by
    split
    · rename_i h; exact Int.tdiv_eq_ediv_of_nonneg h
    · rename_i h
      have := Int.neg_tdiv (a := - q.toInt) (b := 2)
      rw [Int.neg_neg] at this
      rw [this, Int.tdiv_eq_ediv_of_nonneg (by omega)]
  rw [hr]
  generalize q.toInt = z at ht ⊢
  have hzb : -2 ^ 31 ≤ z ∧ z < 2 ^ 31 := by
    rw [ht]
    split <;> omega
  obtain ⟨d, hd1, hd2⟩ : ∃ d : Int, (if 0 ≤ z then z / 2 else -(-z / 2)) = d ∧ ((-2 ^ 30 ≤ d ∧ d < 2 ^ 30) ∧ (z - d * 2 = 0 ∨ z - d * 2 = 1 ∨ z - d * 2 = -1) ∧ (z - d * 2 = 0 ↔ z % 2 = 0)) := by
    refine ⟨_, rfl, ?_⟩
    split <;> omega
  rw [hd1, bm32 (x := d) (by omega), bm32 (x := d * 2) (by omega), bm32 (x := z - d * 2) (by omega)]
  have hp : z % 2 = 0 ↔ n % 2 = 0 := by
    rw [ht]
    split <;> omega
  rcases (show n % 2 = 0 ∨ n % 2 = 1 by omega) with h | h
  · rw [h]
    exact Or.inl ⟨rfl, hd2.2.2.mpr (hp.mpr h)⟩
  · rw [h]
    exact Or.inr ⟨rfl, fun q => by have := hp.mp (hd2.2.2.mp q); omega⟩
theorem ro_e (p wy : Int32) {kp : Int32} (hk : okR 0 16 kp) : roF p kp wy = mrF p kp wy := by
  obtain ⟨k, hk16, rfl⟩ := rN_of (n := 16) (by omega) hk
  have e := shl_any (p >>> (nI k &&& 31)) (k := k) (by omega)
  unfold roF mrF
  rw [e]
  generalize (p >>> (nI k &&& 31)) = q
  generalize hS : 2 * (p - q * ((1 : Int32) <<< (nI k &&& 31))) = D
  generalize ((1 : Int32) <<< (nI k &&& 31)) = S
  by_cases h1 : wy = 0 ∨ D < S
  · rw [if_pos h1, if_pos h1]
  · rw [if_neg h1, if_neg h1]
    by_cases h2 : wy = 1 ∨ S < D
    · rw [if_pos h2, if_pos (by rcases h2 with h | h; exact Or.inr (Or.inl h); exact Or.inl h)]
    · rw [if_neg h2]
      rcases par_e q with ⟨k1, k2⟩ | ⟨k1, k2⟩
      · rw [k1, if_neg (fun h => by rcases h with h | h | h; exact h2 (Or.inr h); exact h2 (Or.inl h); exact h k2), Int32.add_zero]
      · rw [k1, if_pos (Or.inr (Or.inr k2))]
theorem er_e (a b : Nat) (wy : Int32) {kp : Int32} (hk : okR 0 16 kp) : erF a b kp wy = meR a b kp wy := by
  unfold erF meR
  rw [ro_e _ _ hk]
section Entries
variable {w : Nat} {ac ma : Int64} {fc fs fr rw : Nat → Int32}
theorem rel_en (h : StRel w ac fc fs fr rw ma) {n : Nat} {wh : Int32} (hn : n < ents w) (hw : okR 0 4 wh) : enF fs n (tn wh) = menF rw n wh := by
  have h5 := ents_le w h.w8
  obtain ⟨a, ha, e⟩ := h.bd n hn
  have e2 := h.rs n hn
  obtain ⟨k, hk, rfl⟩ := rN_of (n := 4) (by omega) hw
  rw [tn_nI (by omega)]
  unfold enF menF
  rcases (show k = 0 ∨ k = 1 ∨ k = 2 ∨ k = 3 ∨ k = 4 by omega) with rfl | rfl | rfl | rfl | rfl
  · exact e2.symm
  · rfl
  · show bc (tv n) &&& 1 = onF (tv n) - onF (tv n) / 2 * 2
    have ht := tv_b (n := n) (by omega)
    have hb := BC_le ht
    rw [show tv n = nI (n * n / 4) from rfl, on_N ht, bc_N (by omega), nI_and1]
    exact (pk_rem (a := BC (n * n / 4)) (d := 2) (by omega) (by omega) (by omega)).symm
  · show (if hsP fs n then (1 : Int32) else 0) = if fdP (mwF rw n) then 0 else 1
    have q := ep_e (by omega) ha e e2
    by_cases hq : hsP fs n
    · rw [if_pos hq, if_neg (q.mp hq)]
    · rw [if_neg hq, if_pos (Decidable.not_not.mp (fun k => hq (q.mpr k)))]
  · exact (wb_e (by omega) ha e e2).1
end Entries
