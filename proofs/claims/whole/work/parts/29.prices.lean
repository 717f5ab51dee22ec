/-! PRODUCTS AND PRICES: the class's and the reference's -/
theorem shl_mul {n k : Nat} (hk : k < 16) (h : n < 65536) : nI n <<< (nI k &&& 31) = nI n * nI (2 ^ k) := by
  have hs : ∀ k, k < 32 → ((nI k &&& 31).toBitVec.smod 32).toNat = k := by decide +kernel
  have h2 : 2 ^ k ≤ 2 ^ 15 := Nat.pow_le_pow_right (by decide) (by omega)
  have h3 : n * 2 ^ k ≤ 65535 * 2 ^ 15 := Nat.mul_le_mul (by omega) h2
  rw [pk_shlN (n := n) (nI k &&& 31) k (hs k (by omega)) (by omega), pk_mul]
theorem sI_mul {f : Nat → Int32} {c : Int32} : ∀ n, sI (fun k => c * f k) n = c * sI f n
  | 0 => (Int32.mul_zero).symm
  | n + 1 => by rw [sI, sI, sI_mul n, Int32.mul_add]
def tw (b : Nat) (mt : Int32) (k : Nat) : Int32 := tuX (nI b) (nI k) mt * nI (2 ^ k)
theorem tw_1 : ∀ b, b < 256 → sI (tw b 1) 9 = nI b := by decide +kernel
theorem tw_2 : ∀ b, b < 256 → sI (tw b 2) 9 = nI b := by decide +kernel
theorem bs_e {a b : Nat} {mt : Int32} (ha : a ≤ 255) (hb : b ≤ 255) (hm : mt = 1 ∨ mt = 2) : bsF a b mt = nI (a * b) := by
  have e : bsF a b mt = sI (fun k => nI a * tw b mt k) 9 := sI_congr _ (fun k hk => by
    unfold bsT tw
    rw [shl_mul (by omega) (by omega), ← Int32.mul_assoc, Int32.mul_comm (tuX _ _ _), Int32.mul_assoc])
  rw [e, sI_mul, ← pk_mul]
  rcases hm with rfl | rfl
  · rw [tw_1 b (by omega)]
  · rw [tw_2 b (by omega)]
theorem pc_1 : ∀ b, b < 256 → bc (nI b) = sI (taF b 1) 9 ∧ hiF (nI b) 8 = hgF b 1 9 := by decide +kernel
theorem pc_2 : ∀ b, b < 256 → bc (nI b ^^^ (nI b <<< (1 &&& 31))) = sI (taF b 2) 9 ∧ hiF (nI b ^^^ (nI b <<< (1 &&& 31))) 8 = hgF b 2 9 := by decide +kernel
theorem mt_of {mt : Int32} (h : okR 0 2 mt) : mt = 0 ∨ mt = 1 ∨ mt = 2 := by
  obtain ⟨k, hk, rfl⟩ := rN_of (n := 2) (by omega) h
  rcases (show k = 0 ∨ k = 1 ∨ k = 2 by omega) with rfl | rfl | rfl
  · exact Or.inl rfl
  · exact Or.inr (Or.inl rfl)
  · exact Or.inr (Or.inr rfl)
section Prices
variable {w : Nat} {ac ma : Int64} {fc fs fr rw : Nat → Int32}
theorem ad_ents {a b : Nat} (ha : a ≤ gr w) (hb : b ≤ gr w) : a + b < ents w ∧ ad a b < ents w := by unfold ents ad; omega
theorem rel_mb (h : StRel w ac fc fs fr rw ma) {a b : Nat} (ha : a ≤ gr w) (hb : b ≤ gr w) : fs (a + b) - fs (ad a b) = mbF rw a b := by
  have h1 := ad_ents ha hb
  unfold mbF
  rw [Nat.add_assoc, h.rs _ h1.1, h.rs _ h1.2]
theorem rel_wp (h : StRel w ac fc fs fr rw ma) {a b : Nat} (ha : a ≤ gr w) (hb : b ≤ gr w) : wpP fs a b ↔ ¬ mbF rw a b = nI (a * b) := by
  unfold wpP
  rw [rel_mb h ha hb]
theorem rel_pr (h : StRel w ac fc fs fr rw ma) {a b : Nat} {mt : Int32} (ha : a ≤ gr w) (hb : b ≤ gr w) (hm : okR 0 2 mt) : prF fs a b mt = mpF rw a b mt := by
  have hg := gr_le w h.w8
  unfold prF mpF
  rcases mt_of hm with rfl | q
  · rw [if_pos rfl, if_pos rfl, rel_mb h ha hb]
  · have h0 : ¬ mt = 0 := by rcases q with rfl | rfl <;> decide
    rw [if_neg h0, if_neg h0, bs_e (by omega) (by omega) q]
theorem rel_pc (h : StRel w ac fc fs fr rw ma) {b : Nat} {mt : Int32} (hb : b ≤ 255) (hm : okR 0 2 mt) : pcF fc b mt = mcF rw b mt := by
  have r1 := h.rc 0 (by omega)
  have r2 := h.rc 1 (by omega)
  have r3 := h.rc 2 (by omega)
  unfold pcF mcF
  rcases mt_of hm with rfl | rfl | rfl
  · rw [if_pos rfl, if_pos rfl, ← r1, ← r2]
  · have n10 : ¬ (1 : Int32) = 0 := by decide
    rw [if_neg n10, if_pos rfl, if_neg n10]
    unfold ppF
    rw [(pc_1 b (by omega)).1, (pc_1 b (by omega)).2, ← r2, ← r3]
  · have n20 : ¬ (2 : Int32) = 0 := by decide
    have n21 : ¬ (2 : Int32) = 1 := by decide
    rw [if_neg n20, if_neg n21, if_neg n20]
    unfold ppF
    rw [(pc_2 b (by omega)).1, (pc_2 b (by omega)).2, ← r2, ← r3]
theorem rel_chB (h : StRel w ac fc fs fr rw ma) {b : Nat} (hb : b ≤ 255) : chB fc b = mhB rw b := by
  unfold chB mhB
  rw [rel_pc h hb (mt := 2) ⟨by decide, by decide⟩, rel_pc h hb (mt := 1) ⟨by decide, by decide⟩]
theorem chB_ok {b : Nat} : okR 0 2 (chB fc b) := by
  unfold chB
  split
  · exact ⟨by decide, by decide⟩
  · exact ⟨by decide, by decide⟩
theorem rel_ch (h : StRel w ac fc fs fr rw ma) {a b : Nat} (ha : a ≤ gr w) (hb : b ≤ gr w) : chF fc fs a b = mhF rw a b := by
  have hg := gr_le w h.w8
  have e1 := rel_pc h (b := b) (mt := 0) (by omega) ⟨by decide, by decide⟩
  have e2 := rel_pc h (b := b) (mt := chB fc b) (by omega) chB_ok
  have e3 := rel_chB h (b := b) (by omega)
  have e4 := rel_wp h ha hb
  unfold chF mhF
  rw [e1, e2, e3]
  by_cases q : mbF rw a b = nI (a * b)
  · by_cases q2 : mcF rw b 0 ≤ mcF rw b (mhB rw b)
    · rw [if_pos ⟨q2, fun k => e4.mp k q⟩, if_pos ⟨q, q2⟩]
    · rw [if_neg (fun k => q2 k.1), if_neg (fun k => q2 k.2)]
  · rw [if_neg (fun k => k.2 (e4.mpr q)), if_neg (fun k => q k.1)]
theorem rel_cp (h : StRel w ac fc fs fr rw ma) {mt mo : Int32} (hm : okR 0 2 mt) (ho : okR 0 2 mo) : sI (cpF fc (gr w) mt mo) (gr w + 1) = sI (mqF rw (gr w) mt mo) (gr w + 1) := sI_congr _ (fun k hk => by
  have hg := gr_le w h.w8
  unfold cpF mqF
  rw [rel_pc h (by omega) ho, rel_pc h (by omega) hm])
end Prices
