/-! WRONG PAIRS: the class counts half of them, the reference all -/
theorem sN_congr {f g : Nat → Nat} : ∀ n, (∀ k, k < n → f k = g k) → sN f n = sN g n
  | 0, _ => rfl
  | n + 1, h => by rw [sN, sN, sN_congr n (fun k hk => h k (by omega)), h n (by omega)]
theorem sN_add {f g : Nat → Nat} : ∀ n, sN (fun k => f k + g k) n = sN f n + sN g n
  | 0 => rfl
  | n + 1 => by
    rw [sN, sN, sN, sN_add n]
    omega
/-- a symmetric square, summed over its half -/
def hfF (F : Nat → Nat → Nat) (a b : Nat) : Nat := if a = b then F a b else 2 * F a b
theorem half_sum {F : Nat → Nat → Nat} (hF : ∀ a b, F a b = F b a) : ∀ N, sN (fun a => sN (F a) N) N = sN (fun a => sN (hfF F a) (a + 1)) N
  | 0 => rfl
  | N + 1 => by
    have h1 : sN (fun a => sN (F a) (N + 1)) (N + 1) = sN (fun a => sN (F a) N + F a N) N + (sN (F N) N + F N N) := rfl
    have h2 : sN (fun a => F a N) N = sN (F N) N := sN_congr N (fun k _ => hF k N)
    have h3 : sN (hfF F N) (N + 1) = sN (fun b => F N b + F N b) N + F N N := by
      rw [sN, sN_congr N (g := fun b => F N b + F N b) (fun k hk => by unfold hfF; rw [if_neg (by omega)]; omega)]
      unfold hfF
      rw [if_pos rfl]
    rw [h1, sN_add, sN, ← half_sum hF N, h3, sN_add, h2]
    omega
def wpN (fs : Nat → Int32) (a b : Nat) : Nat := if wpP fs a b then 1 else 0
def rdN (fs : Nat → Int32) (n a b : Nat) : Nat := if wpP fs a b then (if a + b = n then 1 else 0) + (if ad a b = n then 1 else 0) else 0
theorem ad_comm (a b : Nat) : ad a b = ad b a := by unfold ad; omega
theorem wp_comm (fs : Nat → Int32) (a b : Nat) : wpP fs a b ↔ wpP fs b a := by
  unfold wpP
  rw [Nat.add_comm a b, ad_comm a b, Nat.mul_comm a b]
theorem wpN_comm (fs : Nat → Int32) (a b : Nat) : wpN fs a b = wpN fs b a := by
  unfold wpN
  by_cases h : wpP fs a b
  · rw [if_pos h, if_pos ((wp_comm fs a b).mp h)]
  · rw [if_neg h, if_neg (fun k => h ((wp_comm fs a b).mpr k))]
theorem rdN_comm (fs : Nat → Int32) (n a b : Nat) : rdN fs n a b = rdN fs n b a := by
  unfold rdN
  by_cases h : wpP fs a b
  · rw [if_pos h, if_pos ((wp_comm fs a b).mp h)]
    simp only [Nat.add_comm a b, ad_comm a b]
  · rw [if_neg h, if_neg (fun k => h ((wp_comm fs a b).mpr k))]
theorem wp_pos {fs : Nat → Int32} {a b : Nat} (h : wpP fs a b) : 0 < a ∧ 0 < b := by
  constructor
  · rcases Nat.eq_zero_or_pos a with rfl | h1
    · refine absurd ?_ h
      rw [show ad 0 b = 0 + b by unfold ad; omega, Int32.sub_self, Nat.zero_mul]
      rfl
    · exact h1
  · rcases Nat.eq_zero_or_pos b with rfl | h1
    · refine absurd ?_ h
      rw [show ad a 0 = a + 0 by unfold ad; omega, Int32.sub_self, Nat.mul_zero]
      rfl
    · exact h1
-- the class's way
theorem cwR_e (fs : Nat → Int32) (a : Nat) (q : Int32 × (Nat → Int32)) : ∀ b, b ≤ a + 1 → (cwR fs a b q).1 = q.1 + nI (sN (hfF (wpN fs) a) b) ∧ ∀ n, (cwR fs a b q).2 n = q.2 n + nI (sN (hfF (rdN fs n) a) b)
  | 0, _ => ⟨(Int32.add_zero _).symm, fun n => (Int32.add_zero _).symm⟩
  | b + 1, hb => by
    obtain ⟨h1, h2⟩ := cwR_e fs a q b (by omega)
    rw [cwR]
    generalize cwR fs a b q = z at h1 h2
    unfold cwT
    by_cases h : wpP fs a b
    · have hp := wp_pos h
      rw [if_pos h]
      have hw : hfF (wpN fs) a b = if a = b then 1 else 2 := by
        unfold hfF wpN
        rw [if_pos h]
      refine ⟨?_, fun n => ?_⟩
      · show z.1 + _ = _
        rw [h1, sN, hw, ← nI_add, Int32.add_assoc]
        by_cases e : a = b
        · rw [if_pos e, if_pos e]; rfl
        · rw [if_neg e, if_neg e]; rfl
      · have had : ad a b = a - b := by unfold ad; omega
        have hr : hfF (rdN fs n) a b = (if a = b then 1 else 2) * ((if a + b = n then 1 else 0) + (if a - b = n then 1 else 0)) := by
          unfold hfF rdN
          rw [if_pos h, had]
          by_cases e : a = b
          · rw [if_pos e, if_pos e, Nat.one_mul]
          · rw [if_neg e, if_neg e]
        show upd (upd z.2 (a + b) _) (a - b) _ n = _
        rw [sN, hr, ← nI_add, ← Int32.add_assoc, ← h2 n]
        unfold upd
        by_cases e1 : n = a - b
        · subst e1
          have x1 : ¬ a - b = a + b := by omega
          have x2 : ¬ a + b = a - b := by omega
          rw [if_pos rfl, if_neg x1, if_neg x2, if_pos rfl]
          by_cases e : a = b
          · rw [if_pos e, if_pos e]; rfl
          · rw [if_neg e, if_neg e]; rfl
        · have x3 : ¬ a - b = n := fun k => e1 k.symm
          rw [if_neg e1, if_neg x3]
          by_cases e2 : n = a + b
          · rw [if_pos e2, if_pos e2.symm, e2]
            by_cases e : a = b
            · rw [if_pos e, if_pos e]; rfl
            · rw [if_neg e, if_neg e]; rfl
          · have x4 : ¬ a + b = n := fun k => e2 k.symm
            rw [if_neg e2, if_neg x4, Nat.mul_zero]
            exact (Int32.add_zero _).symm
    · rw [if_neg h]
      have hw : hfF (wpN fs) a b = 0 := by
        unfold hfF wpN
        rw [if_neg h]
        split <;> rfl
      refine ⟨?_, fun n => ?_⟩
      · rw [sN, hw, Nat.add_zero]
        exact h1
      · have hr : hfF (rdN fs n) a b = 0 := by
          unfold hfF rdN
          rw [if_neg h]
          split <;> rfl
        rw [sN, hr, Nat.add_zero]
        exact h2 n
theorem cwA_e (fs : Nat → Int32) (q : Int32 × (Nat → Int32)) : ∀ N, (cwA fs N q).1 = q.1 + nI (sN (fun a => sN (hfF (wpN fs) a) (a + 1)) N) ∧ ∀ n, (cwA fs N q).2 n = q.2 n + nI (sN (fun a => sN (hfF (rdN fs n) a) (a + 1)) N)
  | 0 => ⟨(Int32.add_zero _).symm, fun n => (Int32.add_zero _).symm⟩
  | N + 1 => by
    obtain ⟨h1, h2⟩ := cwA_e fs q N
    obtain ⟨k1, k2⟩ := cwR_e fs N (cwA fs N q) (N + 1) (Nat.le_refl _)
    rw [cwA]
    refine ⟨?_, fun n => ?_⟩
    · show _ = q.1 + nI (sN (fun a => sN (hfF (wpN fs) a) (a + 1)) N + sN (hfF (wpN fs) N) (N + 1))
      rw [k1, h1, ← nI_add (sN (fun a => sN (hfF (wpN fs) a) (a + 1)) N), Int32.add_assoc]
    · show _ = q.2 n + nI (sN (fun a => sN (hfF (rdN fs n) a) (a + 1)) N + sN (hfF (rdN fs n) N) (N + 1))
      rw [k2 n, h2 n, ← nI_add (sN (fun a => sN (hfF (rdN fs n) a) (a + 1)) N), Int32.add_assoc]
-- the reference's way
theorem mcR_e {fs rw : Nat → Int32} {G a : Nat} (ha : a ≤ G) (hW : ∀ a, a ≤ G → ∀ b, b ≤ G → (wpP fs a b ↔ ¬ mbF rw a b = nI (a * b))) (q : Int32 × (Nat → Int32)) : ∀ b, b ≤ G + 1 → (mcR rw a b q).1 = q.1 + nI (sN (wpN fs a) b) ∧ ∀ n, (mcR rw a b q).2 n = q.2 n + nI (sN (rdN fs n a) b)
  | 0, _ => ⟨(Int32.add_zero _).symm, fun n => (Int32.add_zero _).symm⟩
  | b + 1, hb => by
    obtain ⟨h1, h2⟩ := mcR_e ha hW q b (by omega)
    have hw := hW a ha b (by omega)
    rw [mcR]
    generalize mcR rw a b q = z at h1 h2
    unfold mcT
    by_cases h : wpP fs a b
    · have hp := wp_pos h
      have x0 : ¬ ad a b = a + b := by unfold ad; omega
      have x0' : ¬ a + b = ad a b := fun k => x0 k.symm
      rw [if_neg (hw.mp h)]
      have hw1 : wpN fs a b = 1 := if_pos h
      refine ⟨?_, fun n => ?_⟩
      · show z.1 + 1 = _
        rw [h1, sN, hw1, ← nI_add, Int32.add_assoc]
        rfl
      · have hr : rdN fs n a b = (if a + b = n then 1 else 0) + (if ad a b = n then 1 else 0) := if_pos h
        show upd (upd z.2 (a + b) _) (ad a b) _ n = _
        rw [sN, hr, ← nI_add (sN (rdN fs n a) b), ← Int32.add_assoc, ← h2 n, if_neg x0]
        unfold upd
        by_cases e1 : n = ad a b
        · subst e1
          rw [if_pos rfl, if_neg x0, if_neg x0', if_pos rfl]
          rfl
        · have x3 : ¬ ad a b = n := fun k => e1 k.symm
          rw [if_neg e1, if_neg x3]
          by_cases e2 : n = a + b
          · rw [if_pos e2, if_pos e2.symm, e2]
            rfl
          · have x4 : ¬ a + b = n := fun k => e2 k.symm
            rw [if_neg e2, if_neg x4]
            exact (Int32.add_zero _).symm
    · have h' : mbF rw a b = nI (a * b) := Decidable.not_not.mp (fun k => h (hw.mpr k))
      rw [if_pos h']
      have hw1 : wpN fs a b = 0 := if_neg h
      refine ⟨?_, fun n => ?_⟩
      · rw [sN, hw1, Nat.add_zero]
        exact h1
      · have hr : rdN fs n a b = 0 := if_neg h
        rw [sN, hr, Nat.add_zero]
        exact h2 n
theorem mcA_e {fs rw : Nat → Int32} {G : Nat} (hW : ∀ a, a ≤ G → ∀ b, b ≤ G → (wpP fs a b ↔ ¬ mbF rw a b = nI (a * b))) (q : Int32 × (Nat → Int32)) : ∀ N, N ≤ G + 1 → (mcA rw G N q).1 = q.1 + nI (sN (fun a => sN (wpN fs a) (G + 1)) N) ∧ ∀ n, (mcA rw G N q).2 n = q.2 n + nI (sN (fun a => sN (rdN fs n a) (G + 1)) N)
  | 0, _ => ⟨(Int32.add_zero _).symm, fun n => (Int32.add_zero _).symm⟩
  | N + 1, hN => by
    obtain ⟨h1, h2⟩ := mcA_e hW q N (by omega)
    obtain ⟨k1, k2⟩ := mcR_e (a := N) (by omega) hW (mcA rw G N q) (G + 1) (Nat.le_refl _)
    rw [mcA]
    refine ⟨?_, fun n => ?_⟩
    · show _ = q.1 + nI (sN (fun a => sN (wpN fs a) (G + 1)) N + sN (wpN fs N) (G + 1))
      rw [k1, h1, ← nI_add (sN (fun a => sN (wpN fs a) (G + 1)) N), Int32.add_assoc]
    · show _ = q.2 n + nI (sN (fun a => sN (rdN fs n a) (G + 1)) N + sN (rdN fs n N) (G + 1))
      rw [k2 n, h2 n, ← nI_add (sN (fun a => sN (rdN fs n a) (G + 1)) N), Int32.add_assoc]
/-- how many pairs are wrong, how many of them read n -/
def wpT (fs : Nat → Int32) (G : Nat) : Nat := sN (fun a => sN (wpN fs a) (G + 1)) (G + 1)
def rdT (fs : Nat → Int32) (G n : Nat) : Nat := sN (fun a => sN (rdN fs n a) (G + 1)) (G + 1)
theorem cwF_e (fs : Nat → Int32) (w : Nat) : (cwF fs w).1 = nI (wpT fs (gr w)) ∧ ∀ n, (cwF fs w).2 n = nI (rdT fs (gr w) n) := by
  obtain ⟨h1, h2⟩ := cwA_e fs (0, fun _ => 0) (gr w + 1)
  refine ⟨?_, fun n => ?_⟩
  · show (cwA fs (gr w + 1) (0, fun _ => 0)).1 = _
    rw [h1]
    unfold wpT
    rw [half_sum (wpN_comm fs)]
    exact Int32.zero_add _
  · show (cwA fs (gr w + 1) (0, fun _ => 0)).2 n = _
    rw [h2 n]
    unfold rdT
    rw [half_sum (rdN_comm fs n)]
    exact Int32.zero_add _
theorem mcN_e {w : Nat} {ac ma : Int64} {fc fs fr rw : Nat → Int32} (h : StRel w ac fc fs fr rw ma) (rd : Nat → Int32) : (mcN rw rd w).1 = nI (wpT fs (gr w)) ∧ ∀ n, n < ents w → (mcN rw rd w).2 n = nI (rdT fs (gr w) n) := by
  obtain ⟨h1, h2⟩ := mcA_e (fs := fs) (rw := rw) (G := gr w) (fun a ha b hb => rel_wp h ha hb) (0, zeF rd (ents w)) (gr w + 1) (Nat.le_refl _)
  refine ⟨?_, fun n hn => ?_⟩
  · show (mcA rw (gr w) (gr w + 1) (0, zeF rd (ents w))).1 = _
    rw [h1]
    exact Int32.zero_add _
  · show (mcA rw (gr w) (gr w + 1) (0, zeF rd (ents w))).2 n = _
    rw [h2 n]
    show zeF rd (ents w) n + _ = _
    rw [show zeF rd (ents w) n = 0 from if_pos hn]
    exact Int32.zero_add _
theorem rel_pairs {w : Nat} {ac ma : Int64} {fc fs fr rw : Nat → Int32} (h : StRel w ac fc fs fr rw ma) (rd : Nat → Int32) : (cwF fs w).1 = (mcN rw rd w).1 := (cwF_e fs w).1.trans (mcN_e h rd).1.symm
