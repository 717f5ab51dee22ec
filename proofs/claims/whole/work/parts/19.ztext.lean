/-! SPEC of the reference's reading and running of the text -/
abbrev seP (tx : Nat → Int32) (ln a : Nat) (lo hi : Int32) : Prop := a < ln ∧ okR lo hi (tx a)
abbrev siP (tx : Nat → Int32) (ln a : Nat) : Prop := a < ln ∧ isS (tx a)
def paF (tx : Nat → Int32) (ln a : Nat) (lo hi : Int32) : Nat := if seP tx ln a lo hi then a + 1 else a
def sgF (tx : Nat → Int32) (ln a : Nat) : Nat := if siP tx ln a then a + 1 else a
theorem paF_t {tx : Nat → Int32} {ln a : Nat} {lo hi : Int32} (h : seP tx ln a lo hi) : paF tx ln a lo hi = a + 1 := if_pos h
theorem paF_f {tx : Nat → Int32} {ln a : Nat} {lo hi : Int32} (h : ¬ seP tx ln a lo hi) : paF tx ln a lo hi = a := if_neg h
theorem sgF_t {tx : Nat → Int32} {ln a : Nat} (h : siP tx ln a) : sgF tx ln a = a + 1 := if_pos h
theorem sgF_f {tx : Nat → Int32} {ln a : Nat} (h : ¬ siP tx ln a) : sgF tx ln a = a := if_neg h
theorem sg_in {tx : Nat → Int32} {ln a : Nat} {c : Int32} (h : seP tx ln a c c) (hc : isS c) : siP tx ln a := by
  have e : tx a = c := Int32.le_antisymm h.2.2 h.2.1
  exact ⟨h.1, by rw [e]; exact hc⟩
theorem sg_at {tx : Nat → Int32} {ln a : Nat} {c : Int32} (h : ¬ seP tx ln a c c) (ha : a < ln) : ¬ tx a = c := fun e => h ⟨ha, by rw [e]; exact Int32.le_refl _, by rw [e]; exact Int32.le_refl _⟩
theorem sg_no {tx : Nat → Int32} {ln a : Nat} (h1 : ¬ seP tx ln a 42 42) (h2 : ¬ seP tx ln a 120 120) (h3 : ¬ seP tx ln a 35 35) (h4 : ¬ seP tx ln a 43 43) (h5 : ¬ seP tx ln a 45 45) (h6 : ¬ seP tx ln a 62 62) : ¬ siP tx ln a := by
  rintro ⟨ha, h⟩
  rcases h with h | h | h | h | h | h
  · exact sg_at h3 ha h
  · exact sg_at h1 ha h
  · exact sg_at h4 ha h
  · exact sg_at h5 ha h
  · exact sg_at h6 ha h
  · exact sg_at h2 ha h
/-- up to n digits from a on, behind the number v: the number, the place behind -/
def nuS (tx : Nat → Int32) (ln : Nat) : Nat → Nat → Int32 → Int32 × Nat
  | 0, a, v => (v, a)
  | n + 1, a, v => if seP tx ln a 48 57 then nuS tx ln n (a + 1) (10 * v + tx a - 48) else (v, a)
theorem nuS_b {tx : Nat → Int32} {ln : Nat} : ∀ (n a : Nat) (v : Int32), a ≤ ln → a ≤ (nuS tx ln n a v).2 ∧ (nuS tx ln n a v).2 ≤ ln
  | 0, a, v, h => ⟨Nat.le_refl _, h⟩
  | n + 1, a, v, h => by
    rw [nuS]
    split
    · rename_i hs
      have h1 : a < ln := hs.1
      have := nuS_b (tx := tx) (ln := ln) n (a + 1) (10 * v + tx a - 48) (by omega)
      exact ⟨by omega, this.2⟩
    · exact ⟨Nat.le_refl _, h⟩
/-- a statement from a on: where it goes wrong (-1: nowhere), the place reached -/
def foF (tx : Nat → Int32) (ln a : Nat) : Int32 × Nat :=
  if seP tx ln a 97 104 then
    (if seP tx ln (a + 1) 61 61 then
      (if seP tx ln (a + 1 + 1) 48 57 then
        (if ¬ (nuS tx ln 3 (a + 1 + 1) 0).1 ≤ 255 ∧ ¬ seP tx ln (nuS tx ln 3 (a + 1 + 1) 0).2 48 57 then (nI (a + 1 + 1), (nuS tx ln 3 (a + 1 + 1) 0).2)
        else if seP tx ln (nuS tx ln 3 (a + 1 + 1) 0).2 59 59 then (-1, (nuS tx ln 3 (a + 1 + 1) 0).2 + 1)
        else (nI (nuS tx ln 3 (a + 1 + 1) 0).2, (nuS tx ln 3 (a + 1 + 1) 0).2))
      else if seP tx ln (a + 1 + 1) 97 104 then
        (if siP tx ln (a + 1 + 1 + 1) then
          (if seP tx ln (a + 1 + 1 + 1 + 1) 97 104 then
            (if seP tx ln (a + 1 + 1 + 1 + 1 + 1) 59 59 then (-1, a + 1 + 1 + 1 + 1 + 1 + 1) else (nI (a + 1 + 1 + 1 + 1 + 1), a + 1 + 1 + 1 + 1 + 1))
          else (nI (a + 1 + 1 + 1 + 1), a + 1 + 1 + 1 + 1))
        else (nI (a + 1 + 1 + 1), a + 1 + 1 + 1))
      else (nI (a + 1 + 1), a + 1 + 1))
    else (nI (a + 1), a + 1))
  else (nI a, a)
/-- from a on, with n statements at most -/
def faS (tx : Nat → Int32) (ln : Nat) : Nat → Nat → Int32 × Nat
  | 0, a => (-1, a)
  | n + 1, a => if a < ln then (if (foF tx ln a).1 = -1 then faS tx ln n (foF tx ln a).2 else foF tx ln a) else (-1, a)
theorem nI_m1 {n : Nat} (h : n < 2 ^ 31) : ¬ nI n = -1 := by
  intro e
  have h1 := congrArg Int32.toInt e
  rw [nI_toInt h] at h1
  have h2 : ((-1 : Int32)).toInt = -1 := by decide
  rw [h2] at h1
  omega
theorem foF_b {tx : Nat → Int32} {ln a : Nat} (h : a < ln) (hl : ln ≤ 100) : a ≤ (foF tx ln a).2 ∧ (foF tx ln a).2 ≤ ln ∧ ((foF tx ln a).1 = -1 → a < (foF tx ln a).2) := by
  unfold foF
  split
  · split
    · rename_i h1 h2
      have h3 := h2.1
      split
      · have hb := nuS_b (tx := tx) (ln := ln) 3 (a + 1 + 1) 0 (by omega)
        split
        · exact ⟨by dsimp only; omega, by dsimp only; omega, fun _ => by dsimp only; omega⟩
        split
        · rename_i h4
          have h5 := h4.1
          exact ⟨by dsimp only; omega, by dsimp only; omega, fun _ => by dsimp only; omega⟩
        · exact ⟨by dsimp only; omega, by dsimp only; omega, fun _ => by dsimp only; omega⟩
      split
      · rename_i h4
        have h5 := h4.1
        split
        · rename_i h6
          have h7 := h6.1
          split
          · rename_i h8
            have h9 := h8.1
            split
            · rename_i h10
              have h11 := h10.1
              exact ⟨by dsimp only; omega, by dsimp only; omega, fun _ => by dsimp only; omega⟩
            · exact ⟨by dsimp only; omega, by dsimp only; omega, fun _ => by dsimp only; omega⟩
          · exact ⟨by dsimp only; omega, by dsimp only; omega, fun _ => by dsimp only; omega⟩
        · exact ⟨by dsimp only; omega, by dsimp only; omega, fun _ => by dsimp only; omega⟩
      · exact ⟨by dsimp only; omega, by dsimp only; omega, fun _ => by dsimp only; omega⟩
    · exact ⟨by dsimp only; omega, by dsimp only; omega, fun _ => by dsimp only; omega⟩
  · exact ⟨Nat.le_refl _, Nat.le_of_lt h, fun e => absurd e (nI_m1 (by omega))⟩
theorem faS_m {tx : Nat → Int32} {ln : Nat} (hl : ln ≤ 100) : ∀ (n m a : Nat), ln - a ≤ n → ln - a ≤ m → faS tx ln n a = faS tx ln m a
  | 0, 0, a, _, _ => rfl
  | 0, m + 1, a, h1, _ => by rw [faS, faS, if_neg (by omega)]
  | n + 1, 0, a, _, h2 => by rw [faS, faS, if_neg (by omega)]
  | n + 1, m + 1, a, h1, h2 => by
    rw [faS, faS]
    by_cases h : a < ln
    · rw [if_pos h, if_pos h]
      by_cases hq : (foF tx ln a).1 = -1
      · have := (foF_b h hl).2.2 hq
        rw [if_pos hq, if_pos hq, faS_m hl n m _ (by omega) (by omega)]
      · rw [if_neg hq, if_neg hq]
    · rw [if_neg h, if_neg h]
theorem faS_s {tx : Nat → Int32} {ln a : Nat} (hl : ln ≤ 100) (h : a < ln) (hq : (foF tx ln a).1 = -1) : faS tx ln ln a = faS tx ln ln (foF tx ln a).2 := by
  obtain ⟨n, hn⟩ : ∃ n, ln = n + 1 := ⟨ln - 1, by omega⟩
  have h2 := (foF_b h hl).2.2 hq
  have e : faS tx ln ln a = faS tx ln n (foF tx ln a).2 := by
    refine (congrArg (fun i => faS tx ln i a) hn).trans ?_
    show faS tx ln (n + 1) a = _
    rw [faS, if_pos h, if_pos hq]
  rw [e]
  exact faS_m hl n ln _ (by omega) (by omega)
theorem faS_x {tx : Nat → Int32} {ln a : Nat} (h : a < ln) (hq : ¬ (foF tx ln a).1 = -1) : faS tx ln ln a = foF tx ln a := by
  obtain ⟨n, hn⟩ : ∃ n, ln = n + 1 := ⟨ln - 1, by omega⟩
  refine (congrArg (fun i => faS tx ln i a) hn).trans ?_
  show faS tx ln (n + 1) a = _
  rw [faS, if_pos h, if_neg hq]
theorem faS_e {tx : Nat → Int32} {ln a : Nat} (h : ¬ a < ln) : ∀ n, faS tx ln n a = (-1, a)
  | 0 => rfl
  | n + 1 => by rw [faS, if_neg h]
-- running
def mxF (b : Nat) : Int32 := if nI b ≤ 31 then nI b else 31
def byF (rw : Nat → Int32) (a : Nat) (sg : Int32) (b : Nat) : Int32 :=
  if sg = 35 then bsF a b 2 else if sg = 42 then mbF rw a b else if sg = 43 then nI a + nI b else if sg = 45 then nI a - nI b else if sg = 120 then bsF a b 1 else nI a >>> (mxF b &&& 31)
def pbF (rw : Nat → Int32) (sg : Int32) (b : Nat) : Int32 :=
  if sg = 35 then mcF rw b 2 else if sg = 42 then mcF rw b 0 else if sg = 43 then rw 2 else if sg = 45 then rw 2 else if sg = 120 then mcF rw b 1 else rw 3 * mxF b
theorem nuS_n {tx : Nat → Int32} {ln k q : Nat} {v : Int32} (hk : k < 3) (h : seP tx ln q 48 57) : nuS tx ln (3 - k) q v = nuS tx ln (3 - (k + 1)) (q + 1) (10 * v + tx q - 48) := by
  obtain ⟨n, hn⟩ : ∃ n, 3 - k = n + 1 := ⟨3 - k - 1, by omega⟩
  rw [hn, nuS, if_pos h, show 3 - (k + 1) = n by omega]
theorem nuS_x {tx : Nat → Int32} {ln : Nat} {q : Nat} {v : Int32} (h : ¬ seP tx ln q 48 57) : ∀ {n : Nat}, nuS tx ln n q v = (v, q)
  | 0 => rfl
  | n + 1 => by rw [nuS, if_neg h]
theorem fa_lt {ln q n9 : Nat} {wr : Int32} {z : Int32 × Nat} (hm : (if wr = -1 then ln - q + 1 else 0) < n9 + 1) (hw : wr = -1) (hq : q < ln) (hz : z.1 = -1 → q < z.2) : (if z.1 = -1 then ln - z.2 + 1 else 0) < n9 := by
  rw [if_pos hw] at hm
  by_cases h : z.1 = -1
  · have := hz h
    rw [if_pos h]
    omega
  · rw [if_neg h]
    omega
theorem fa_s {tx : Nat → Int32} {ln q : Nat} {wr : Int32} (hl : ln ≤ 100) (hq : q < ln) (hw : wr = -1) : (if wr = -1 then faS tx ln ln q else (wr, q)) = (if (foF tx ln q).1 = -1 then faS tx ln ln (foF tx ln q).2 else ((foF tx ln q).1, (foF tx ln q).2)) := by
  rw [if_pos hw]
  by_cases h : (foF tx ln q).1 = -1
  · rw [if_pos h, faS_s hl hq h]
  · rw [if_neg h, faS_x hq h]
theorem fa_e {tx : Nat → Int32} {ln q : Nat} {wr : Int32} (h : ¬ q < ln) : (if wr = -1 then faS tx ln ln q else (wr, q)) = (wr, q) := by
  by_cases hw : wr = -1
  · rw [if_pos hw, faS_e h, hw]
  · rw [if_neg hw]
