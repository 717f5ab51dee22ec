/-! WRITES keep the relation; the first wrong pair -/
theorem fsm_congr {α β : Type} {F F' : α → Option β} : ∀ l : List α, (∀ x ∈ l, F x = F' x) → l.findSome? F = l.findSome? F'
  | [], _ => rfl
  | x :: l, h => by rw [List.findSome?_cons, List.findSome?_cons, h x List.mem_cons_self, fsm_congr l (fun y hy => h y (List.mem_cons_of_mem _ hy))]
theorem fnd_congr {α : Type} {F F' : α → Bool} : ∀ l : List α, (∀ x ∈ l, F x = F' x) → l.find? F = l.find? F'
  | [], _ => rfl
  | x :: l, h => by rw [List.find?_cons, List.find?_cons, h x List.mem_cons_self, fnd_congr l (fun y hy => h y (List.mem_cons_of_mem _ hy))]
theorem fw_congr {f g : Nat → Int32} {G : Nat} (h : ∀ a, a ≤ G → ∀ b, b ≤ G → (wpP f a b ↔ wpP g a b)) : fwF f G = fwF g G := by
  unfold fwF
  rw [fsm_congr _ (fun a ha => ?_)]
  have ha' := List.mem_range.mp ha
  rw [fnd_congr _ (fun b hb => ?_)]
  have hb' := List.mem_range.mp hb
  have := h a (by omega) b (by omega)
  exact decide_eq_decide.mpr this
section Writes
variable {w : Nat} {ac ma : Int64} {fc fs fr rw : Nat → Int32}
theorem rel_fw (h : StRel w ac fc fs fr rw ma) : fwF fs (gr w) = fwF (mS rw) (gr w) := fw_congr (fun a ha b hb => (rel_wp h ha hb).trans mb_wp)
theorem wr_width (h : StRel w ac fc fs fr rw ma) {w2 : Nat} (h3 : 3 ≤ w2) (h8 : w2 ≤ 8) : StRel w2 0 fc (fillT fs (ents w2)) (fun _ => 0) (bgF rw w2) 0 := by
  have he := ents_le w2 h8
  refine ⟨⟨h3, h8⟩, if_pos rfl, fun i hi => ?_, fun i hi => ?_, fun n hn => ?_, fun n hn => ⟨n * n / 4, tv_b (by omega), if_pos hn⟩, fun j hj => ⟨rfl, Nat.zero_le _⟩, rfl⟩
  · unfold bgF
    rw [if_neg (by omega), if_pos (by omega)]
    exact h.rc i hi
  · unfold bgF
    rw [if_neg (by omega), if_neg (by omega), if_pos (by omega)]
  · unfold bgF fillT
    rw [if_neg (by omega), if_neg (by omega), if_neg (by omega), show 12 + n - 12 = n by omega, if_pos hn, if_pos hn]
theorem wr_cost (h : StRel w ac fc fs fr rw ma) {k : Nat} {v : Int32} (hk : k ≤ 2) : StRel w ac (upd fc k v) fs fr (upd rw (1 + k) v) ma := by
  refine ⟨h.1, ?_, fun i hi => ?_, fun i hi => ?_, fun n hn => ?_, h.bd, h.rg, h.ea⟩
  · exact (if_neg (by omega)).trans h.r0
  · unfold upd
    by_cases e : i = k
    · rw [if_pos e, if_pos (by omega)]
    · rw [if_neg e, if_neg (by omega)]
      exact h.rc i hi
  · exact (if_neg (by omega)).trans (h.rr i hi)
  · exact (if_neg (by omega)).trans (h.rs n hn)
theorem wr_entry (h : StRel w ac fc fs fr rw ma) {k : Nat} {v : Int32} (hk : k < ents w) (hv : ∃ a, a < 131072 ∧ v = nI a) : StRel w ac fc (upd fs k v) fr (upd rw (12 + k) v) ma := by
  refine ⟨h.1, ?_, fun i hi => ?_, fun i hi => ?_, fun n hn => ?_, fun n hn => ?_, h.rg, h.ea⟩
  · exact (if_neg (by omega)).trans h.r0
  · exact (if_neg (by omega)).trans (h.rc i hi)
  · exact (if_neg (by omega)).trans (h.rr i hi)
  · unfold upd
    by_cases e : n = k
    · rw [if_pos e, if_pos (by omega)]
    · rw [if_neg e, if_neg (by omega)]
      exact h.rs n hn
  · unfold upd
    by_cases e : n = k
    · rw [if_pos e]; exact hv
    · rw [if_neg e]; exact h.bd n hn
theorem flip_b {a : Nat} {bt : Int32} (ha : a < 131072) (hb : okR 0 16 bt) : ∃ c, c < 131072 ∧ nI a ^^^ ((1 : Int32) <<< (bt &&& 31)) = nI c := by
  obtain ⟨k, hk, rfl⟩ := rN_of (n := 16) (by omega) hb
  have e : (1 : Int32) <<< (nI k &&& 31) = nI (2 ^ k) := by
    have := shl_mul (n := 1) (k := k)
    have hs := shl_sm k (by omega)
    have h2 : 2 ^ k ≤ 2 ^ 16 := Nat.pow_le_pow_right (by decide) hk
    have := pk_shlN (n := 1) (nI k &&& 31) k hs (by omega)
    rw [Nat.one_mul] at this
    exact this
  have h2 : 2 ^ k < 2 ^ 17 := Nat.pow_lt_pow_right (by decide) (by omega)
  exact ⟨a ^^^ 2 ^ k, xor_b ha h2, by rw [e, an_xor]⟩
theorem wr_parity (h : StRel w ac fc fs fr rw ma) : StRel w ac fc (rpF fs (ents w)) fr (mrpF rw (ents w)) ma := by
  have he := ents_le w h.w8
  have q : ∀ n, n < ents w → (hsP fs n ↔ ¬ fdP (mwF rw n)) := fun n hn => by
    obtain ⟨a, ha, e⟩ := h.bd n hn
    exact ep_e (by omega) ha e (h.rs n hn)
  have lo : ∀ j, j < 12 → mrpF rw (ents w) j = rw j := fun j hj => if_neg (fun k => by omega)
  refine ⟨h.1, (lo 0 (by omega)).trans h.r0, fun i hi => (lo _ (by omega)).trans (h.rc i hi), fun i hi => (lo _ (by omega)).trans (h.rr i hi), fun n hn => ?_, fun n hn => ?_, h.rg, h.ea⟩
  · unfold mrpF rpF
    rw [show 12 + n - 12 = n by omega]
    by_cases k : hsP fs n
    · rw [if_neg (fun z => (q n hn).mp k z.2), if_neg (fun z => z.2 k)]
      exact h.rs n hn
    · rw [if_pos ⟨by omega, Decidable.not_not.mp (fun z => k ((q n hn).mpr z))⟩, if_pos ⟨hn, k⟩]
  · unfold rpF
    by_cases k : hsP fs n
    · rw [if_neg (fun z => z.2 k)]
      exact h.bd n hn
    · rw [if_pos ⟨hn, k⟩]
      exact ⟨n * n / 4, tv_b (by omega), rfl⟩
theorem wr_reg (h : StRel w ac fc fs fr rw ma) {k : Nat} {v : Int32} (hk : k < 8) (hv : okR 0 (nI (gr w)) v) : StRel w ac fc fs (upd fr k v) (upd rw (4 + k) v) ma := by
  obtain ⟨a, ha, e⟩ := op_of h.w8 hv
  have hg := gr_le w h.w8
  refine ⟨h.1, ?_, fun i hi => ?_, fun i hi => ?_, fun n hn => ?_, h.bd, fun j hj => ?_, h.ea⟩
  · exact (if_neg (by omega)).trans h.r0
  · exact (if_neg (by omega)).trans (h.rc i hi)
  · unfold upd
    by_cases z : i = k
    · rw [if_pos z, if_pos (by omega)]
    · rw [if_neg z, if_neg (by omega)]
      exact h.rr i hi
  · exact (if_neg (by omega)).trans (h.rs n hn)
  · unfold upd
    by_cases z : j = k
    · rw [if_pos z, e, tn_nI (by omega)]
      exact ⟨rfl, ha⟩
    · rw [if_neg z]
      exact h.rg j hj
theorem wr_ac (h : StRel w ac fc fs fr rw ma) (c : Int64) : StRel w c fc fs fr rw c := ⟨h.1, h.r0, h.rc, h.rr, h.rs, h.bd, h.rg, rfl⟩
end Writes
