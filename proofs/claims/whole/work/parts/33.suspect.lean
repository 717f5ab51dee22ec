/-! THE SUSPECT and the readings of one entry -/
theorem sN_le {f : Nat → Nat} {c : Nat} : ∀ n, (∀ k, k < n → f k ≤ c) → sN f n ≤ n * c
  | 0, _ => Nat.zero_le _
  | n + 1, h => by
    have h1 := sN_le n (fun k hk => h k (by omega))
    have h2 := h n (by omega)
    rw [sN, Nat.succ_mul]
    omega
theorem sN_0 {f : Nat → Nat} : ∀ n, sN f n = 0 → ∀ k, k < n → f k = 0
  | 0, _, k, hk => absurd hk (Nat.not_lt_zero _)
  | n + 1, h, k, hk => by
    rw [sN] at h
    rcases Nat.lt_or_ge k n with g | g
    · exact sN_0 n (by omega) k g
    · rw [show k = n by omega]
      omega
theorem sN_z {f : Nat → Nat} : ∀ n, (∀ k, k < n → f k = 0) → sN f n = 0
  | 0, _ => rfl
  | n + 1, h => by rw [sN, sN_z n (fun k hk => h k (by omega)), h n (by omega)]
theorem wpT_le {fs : Nat → Int32} {G : Nat} (hG : G ≤ 255) : wpT fs G ≤ 65536 := by
  have h1 : ∀ a, sN (wpN fs a) (G + 1) ≤ (G + 1) * 1 := fun a => sN_le (G + 1) (fun k _ => by unfold wpN; split <;> omega)
  have h2 : wpT fs G ≤ (G + 1) * 256 := sN_le (G + 1) (fun k _ => by have := h1 k; omega)
  omega
theorem rdT_le {fs : Nat → Int32} {G n : Nat} (hG : G ≤ 255) : rdT fs G n ≤ 131072 := by
  have h1 : ∀ a, sN (rdN fs n a) (G + 1) ≤ (G + 1) * 2 := fun a => sN_le (G + 1) (fun k _ => by
    unfold rdN
    split
    · split <;> split <;> omega
    · omega)
  have h2 : rdT fs G n ≤ (G + 1) * 512 := sN_le (G + 1) (fun k _ => by have := h1 k; omega)
  omega
theorem rdT_0 {fs : Nat → Int32} {G : Nat} (h : wpT fs G = 0) (n : Nat) : rdT fs G n = 0 := by
  refine sN_z (G + 1) (fun a ha => sN_z (G + 1) (fun b hb => ?_))
  have h1 : wpN fs a b = 0 := sN_0 (G + 1) (sN_0 (G + 1) h a ha) b hb
  have h2 : ¬ wpP fs a b := fun k => by
    unfold wpN at h1
    rw [if_pos k] at h1
    omega
  exact if_neg h2
section Suspect
variable {w : Nat} {ac ma : Int64} {fc fs fr rw : Nat → Int32}
theorem rel_with (h : StRel w ac fc fs fr rw ma) (rd : Nat → Int32) {n : Nat} (hn : n < ents w) : (cwF fs w).2 n = (if (mcN rw rd w).1 = 0 then 0 else (mcN rw rd w).2 n) := by
  have hg := gr_le w h.w8
  have h1 := wpT_le (fs := fs) hg
  obtain ⟨k1, k2⟩ := mcN_e h rd
  rw [(cwF_e fs w).2 n, k1, k2 n hn]
  by_cases z : wpT fs (gr w) = 0
  · rw [if_pos (by rw [z]; rfl), rdT_0 z]
    rfl
  · have nz : ¬ nI (wpT fs (gr w)) = 0 := fun q => z ((nI_eq (b := 0) (by omega) (by omega)).mp q)
    rw [if_neg nz]
theorem su_ms {F F' : Nat → Int32} {f : Nat → Nat} {N : Nat} (hF : ∀ k, k < N → F k = nI (f k)) (hF' : ∀ k, k < N → F' k = nI (f k)) (hb : ∀ k, f k ≤ 131072) : ∀ n, 1 ≤ n → n ≤ N → msS F' n < n ∧ suF F n = (if f (msS F' n) = 0 then -1 else nI (msS F' n), nI (f (msS F' n))) ∧ ∀ k, k < n → f k ≤ f (msS F' n)
  | 0, h, _ => absurd h (by omega)
  | n + 1, _, hN => by
    rcases Nat.eq_zero_or_pos n with rfl | hn
    · have hm : msS F' 1 = 0 := rfl
      rw [hm]
      refine ⟨by omega, ?_, fun k hk => by rw [show k = 0 by omega]; exact Nat.le_refl _⟩
      have hs : suF F 1 = if F 0 ≤ 0 then ((-1 : Int32), (0 : Int32)) else (nI 0, F 0) := rfl
      rw [hs, hF 0 (by omega)]
      have hb0 := hb 0
      by_cases z : f 0 = 0
      · rw [if_pos (by rw [z]; decide), if_pos z, z]
        rfl
      · rw [if_neg (fun q => z (by have := (nI_leI (a := f 0) (b := 0) (by omega) (by omega)).mp q; omega)), if_neg z]
    · obtain ⟨h1, h2, h3⟩ := su_ms hF hF' hb n hn (by omega)
      have b1 := hb n
      have b2 := hb (msS F' n)
      have hle : (nI (f n) ≤ nI (f (msS F' n))) ↔ f n ≤ f (msS F' n) := nI_leI (by omega) (by omega)
      have hs : suF F (n + 1) = if F n ≤ (suF F n).2 then suF F n else (nI n, F n) := rfl
      have hm : msS F' (n + 1) = if F' n ≤ F' (msS F' n) then msS F' n else n := by
        rw [msS, if_neg (by omega)]
      rw [hs, hm, hF' n (by omega), hF' (msS F' n) (by omega), h2, hF n (by omega)]
      by_cases z : f n ≤ f (msS F' n)
      · rw [if_pos (hle.mpr z), if_pos (hle.mpr z)]
        refine ⟨by omega, rfl, fun k hk => ?_⟩
        rcases Nat.lt_or_ge k n with g | g
        · exact h3 k g
        · rw [show k = n by omega]; exact z
      · rw [if_neg (fun q => z (hle.mp q)), if_neg (fun q => z (hle.mp q))]
        refine ⟨by omega, ?_, fun k hk => ?_⟩
        · rw [if_neg (by omega)]
        · rcases Nat.lt_or_ge k n with g | g
          · have := h3 k g; omega
          · rw [show k = n by omega]; exact Nat.le_refl _
theorem rel_su (h : StRel w ac fc fs fr rw ma) (rd : Nat → Int32) : (suF (cwF fs w).2 (ents w)).1 = msF (mcN rw rd w) w := by
  have hg := gr_le w h.w8
  have h1 := wpT_le (fs := fs) hg
  have he : 1 ≤ ents w := by unfold ents; omega
  obtain ⟨k1, k2⟩ := mcN_e h rd
  obtain ⟨s1, s2, s3⟩ := su_ms (F := (cwF fs w).2) (F' := (mcN rw rd w).2) (f := rdT fs (gr w)) (N := ents w) (fun k _ => (cwF_e fs w).2 k) k2 (fun k => rdT_le hg) (ents w) he (Nat.le_refl _)
  rw [s2]
  unfold msF
  rw [k1]
  generalize msS (mcN rw rd w).2 (ents w) = m at s1 s2 s3 ⊢
  by_cases z : wpT fs (gr w) = 0
  · rw [rdT_0 z, z]
    rfl
  · have nz : ¬ nI (wpT fs (gr w)) = 0 := fun q => z ((nI_eq (b := 0) (by omega) (by omega)).mp q)
    have nm : ¬ rdT fs (gr w) m = 0 := fun q => z (sN_z _ (fun a ha => sN_z _ (fun b hb => by
      have h5 := s3 (a + b) (by unfold ents; omega)
      have h6 : rdT fs (gr w) (a + b) = 0 := by omega
      have h7 : rdN fs (a + b) a b = 0 := sN_0 _ (sN_0 _ h6 a ha) b hb
      refine if_neg (fun k => ?_)
      unfold rdN at h7
      rw [if_pos k, if_pos rfl] at h7
      omega)))
    rw [if_neg nz, if_neg nm]
end Suspect
