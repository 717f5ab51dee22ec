/-! THE RELATION of the class's state and the reference's row -/
def StRel (w : Nat) (ac : Int64) (fc fs fr : Nat → Int32) (rw : Nat → Int32) (ma : Int64) : Prop :=
  (3 ≤ w ∧ w ≤ 8) ∧ rw 0 = nI w ∧ (∀ i, i < 3 → rw (1 + i) = fc i) ∧ (∀ i, i < 8 → rw (4 + i) = fr i) ∧ (∀ n, n < ents w → rw (12 + n) = fs n) ∧ (∀ n, n < ents w → ∃ a, a < 131072 ∧ fs n = nI a) ∧ regOK w fr ∧ ma = ac
section Rel
variable {w : Nat} {ac ma : Int64} {fc fs fr rw : Nat → Int32}
theorem StRel.w3 (h : StRel w ac fc fs fr rw ma) : 3 ≤ w := h.1.1
theorem StRel.w8 (h : StRel w ac fc fs fr rw ma) : w ≤ 8 := h.1.2
theorem StRel.r0 (h : StRel w ac fc fs fr rw ma) : rw 0 = nI w := h.2.1
theorem StRel.rc (h : StRel w ac fc fs fr rw ma) : ∀ i, i < 3 → rw (1 + i) = fc i := h.2.2.1
theorem StRel.rr (h : StRel w ac fc fs fr rw ma) : ∀ i, i < 8 → rw (4 + i) = fr i := h.2.2.2.1
theorem StRel.rs (h : StRel w ac fc fs fr rw ma) : ∀ n, n < ents w → rw (12 + n) = fs n := h.2.2.2.2.1
theorem StRel.bd (h : StRel w ac fc fs fr rw ma) : ∀ n, n < ents w → ∃ a, a < 131072 ∧ fs n = nI a := h.2.2.2.2.2.1
theorem StRel.rg (h : StRel w ac fc fs fr rw ma) : regOK w fr := h.2.2.2.2.2.2.1
theorem StRel.ea (h : StRel w ac fc fs fr rw ma) : ma = ac := h.2.2.2.2.2.2.2
end Rel
theorem tv_b {n : Nat} (h : n < 511) : n * n / 4 < 131072 := by
  have : n * n ≤ 510 * 510 := Nat.mul_le_mul (by omega) (by omega)
  omega
theorem sI_congr {f g : Nat → Int32} : ∀ n, (∀ k, k < n → f k = g k) → sI f n = sI g n
  | 0, _ => rfl
  | n + 1, h => by rw [sI, sI, sI_congr n (fun k hk => h k (by omega)), h n (by omega)]
theorem xor_b {a b : Nat} (ha : a < 131072) (hb : b < 131072) : a ^^^ b < 131072 := Nat.xor_lt_two_pow (n := 17) ha hb
theorem BC_bits {n : Nat} (h : n < 131072) : BC n = sN (fun k => n / 2 ^ k % 2) 17 := by
  have e : n = n % 256 + 256 * (n / 256 % 256 + 256 * (n / 65536)) := by omega
  have h1 : BC n = pop8 (n % 256) + pop8 (n / 256 % 256) + pop8 (n / 65536) := (congrArg BC e).trans (BC_e (by omega) (by omega) (by omega))
  rw [h1, sum17 h]
theorem xor_0 {a b : Nat} (h : a ^^^ b = 0) : a = b := Nat.eq_of_testBit_eq (fun i => by
  have h1 : (a ^^^ b).testBit i = (0 : Nat).testBit i := by rw [h]
  rw [Nat.testBit_xor, Nat.zero_testBit] at h1
  revert h1
  cases a.testBit i <;> cases b.testBit i <;> decide)
theorem BC_0 : BC 0 = 0 := by decide
theorem pop8_0 : ∀ l, l < 256 → pop8 l = 0 → l = 0 := by decide +kernel
theorem BC_z {n : Nat} (h : n < 131072) (h0 : BC n = 0) : n = 0 := by
  have e : n = n % 256 + 256 * (n / 256 % 256 + 256 * (n / 65536)) := by omega
  have h1 : BC n = pop8 (n % 256) + pop8 (n / 256 % 256) + pop8 (n / 65536) := (congrArg BC e).trans (BC_e (by omega) (by omega) (by omega))
  rw [h1] at h0
  have k1 := pop8_0 (n % 256) (by omega) (by omega)
  have k2 := pop8_0 (n / 256 % 256) (by omega) (by omega)
  have k3 := pop8_0 (n / 65536) (by omega) (by omega)
  omega
theorem BC_le {n : Nat} (h : n < 131072) : BC n ≤ 24 := by
  have e : n = n % 256 + 256 * (n / 256 % 256 + 256 * (n / 65536)) := by omega
  have h1 : BC n = pop8 (n % 256) + pop8 (n / 256 % 256) + pop8 (n / 65536) := (congrArg BC e).trans (BC_e (by omega) (by omega) (by omega))
  have := pop8_le (l := n % 256)
  have := pop8_le (l := n / 256 % 256)
  have := pop8_le (l := n / 65536)
  omega
theorem bit_xor (a b k : Nat) : (a ^^^ b) / 2 ^ k % 2 = (a / 2 ^ k % 2 + b / 2 ^ k % 2) % 2 := by
  have h : ∀ n : Nat, n / 2 ^ k % 2 = (n.testBit k).toNat := fun n => (Nat.toNat_testBit n k).symm
  rw [h, h, h, Nat.testBit_xor]
  cases a.testBit k <;> cases b.testBit k <;> rfl
theorem sN_xor (a b : Nat) : ∀ n, sN (fun k => (a ^^^ b) / 2 ^ k % 2) n % 2 = (sN (fun k => a / 2 ^ k % 2) n + sN (fun k => b / 2 ^ k % 2) n) % 2
  | 0 => rfl
  | n + 1 => by
    have h1 := sN_xor a b n
    have h2 := bit_xor a b n
    show (sN _ n + (a ^^^ b) / 2 ^ n % 2) % 2 = (sN _ n + a / 2 ^ n % 2 + (sN _ n + b / 2 ^ n % 2)) % 2
    omega
theorem BC_xor {a b : Nat} (ha : a < 131072) (hb : b < 131072) : BC (a ^^^ b) % 2 = (BC a + BC b) % 2 := by
  rw [BC_bits (xor_b ha hb), BC_bits ha, BC_bits hb]
  exact sN_xor a b 17
/-- of one entry -/
theorem wb_e {fs rw : Nat → Int32} {n a : Nat} (hn : n < 511) (ha : a < 131072) (e : fs n = nI a) (e2 : rw (12 + n) = fs n) : wbF fs n = mwF rw n ∧ mwF rw n = nI (BC (a ^^^ (n * n / 4))) := by
  have hx := xor_b ha (tv_b hn)
  unfold wbF mwF
  rw [e2, e, show tv n = nI (n * n / 4) from rfl, an_xor, bc_on hx, on_N hx]
  exact ⟨rfl, rfl⟩
theorem we_e {fs rw : Nat → Int32} {n a : Nat} (hn : n < 511) (ha : a < 131072) (e : fs n = nI a) (e2 : rw (12 + n) = fs n) : weF fs n = meF rw n := by
  have hx := xor_b ha (tv_b hn)
  have h1 := (wb_e hn ha e e2).2
  unfold weF meF
  rw [h1, e, show tv n = nI (n * n / 4) from rfl]
  have hb := BC_le hx
  by_cases h : a = n * n / 4
  · rw [if_pos (by rw [h]), if_pos (by rw [h, Nat.xor_self, BC_0]; decide)]
  · have h2 : ¬ BC (a ^^^ (n * n / 4)) = 0 := fun q => h (xor_0 (BC_z hx q))
    have h3 := tv_b hn
    rw [if_neg (fun q => h ((nI_eq (by omega) (by omega)).mp q)), if_neg (fun q => h2 (by have := (nI_leI (a := BC (a ^^^ (n * n / 4))) (b := 0) (by omega) (by omega)).mp q; omega))]
theorem nI_and1 {n : Nat} : nI n &&& 1 = nI (n % 2) := by rw [show (1 : Int32) = nI 1 from rfl, an_and, show (1 : Nat) = 2 ^ 1 - 1 from rfl, Nat.and_two_pow_sub_one_eq_mod]
theorem fd_N {n : Nat} (h : n < 2 ^ 31) : fdP (nI n) ↔ n % 2 = 1 := by
  unfold fdP
  have e : nI n - nI n / 2 * 2 = nI (n % 2) := pk_rem (a := n) (d := 2) h (by omega) (by omega)
  rw [e, show (1 : Int32) = nI 1 from rfl]
  exact nI_eq (by omega) (by omega)
theorem ep_e {fs rw : Nat → Int32} {n a : Nat} (hn : n < 511) (ha : a < 131072) (e : fs n = nI a) (e2 : rw (12 + n) = fs n) : (hsP fs n ↔ ¬ fdP (mwF rw n)) := by
  have ht := tv_b hn
  have hx := xor_b ha ht
  have hb := BC_le hx
  have h1 := (wb_e hn ha e e2).2
  have h2 := BC_xor ha ht
  rw [h1, fd_N (by omega)]
  unfold hsP
  rw [e, show tv n = nI (n * n / 4) from rfl, bc_N (by omega), bc_N (by omega), nI_and1, nI_and1, nI_eq (by omega) (by omega)]
  omega
theorem epm_e {fs rw : Nat → Int32} {n a : Nat} (hn : n < 511) (ha : a < 131072) (e : fs n = nI a) (e2 : rw (12 + n) = fs n) : epF fs n = mfF rw n := by
  have h := ep_e hn ha e e2
  unfold epF mfF
  by_cases q : hsP fs n
  · rw [if_pos q, if_neg (h.mp q)]
  · rw [if_neg q, if_pos (Decidable.not_not.mp (fun k => q (h.mpr k)))]
section Counts
variable {w : Nat} {ac ma : Int64} {fc fs fr rw : Nat → Int32}
theorem rel_we (h : StRel w ac fc fs fr rw ma) : sI (weF fs) (ents w) = sI (meF rw) (ents w) := sI_congr _ (fun k hk => by
  obtain ⟨a, ha, e⟩ := h.bd k hk
  have := ents_le w h.w8
  exact we_e (by omega) ha e (h.rs k hk))
theorem rel_ep (h : StRel w ac fc fs fr rw ma) : sI (epF fs) (ents w) = sI (mfF rw) (ents w) := sI_congr _ (fun k hk => by
  obtain ⟨a, ha, e⟩ := h.bd k hk
  have := ents_le w h.w8
  exact epm_e (by omega) ha e (h.rs k hk))
theorem rel_wb (h : StRel w ac fc fs fr rw ma) : sI (wbF fs) (ents w) = sI (mwF rw) (ents w) := sI_congr _ (fun k hk => by
  obtain ⟨a, ha, e⟩ := h.bd k hk
  have := ents_le w h.w8
  exact (wb_e (by omega) ha e (h.rs k hk)).1)
theorem rel_num (h : StRel w ac fc fs fr rw ma) {n : Nat} : numF w fc fs n = mkF rw w n := by
  unfold numF mkF
  rw [rel_we h, rel_ep h, rel_wb h, ← h.rc 0 (by omega), ← h.rc 1 (by omega), ← h.rc 2 (by omega)]
end Counts
