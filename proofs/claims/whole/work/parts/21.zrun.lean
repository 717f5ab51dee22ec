/-! SPEC of the reference's running of a text -/
/-- the register that a letter names -/
def lx (x : Int32) : Nat := tn x - 97
theorem lx_e {x : Int32} (h : okR 97 104 x) : x = nI (97 + lx x) ∧ lx x < 8 := by
  obtain ⟨k, hk, rfl⟩ := rN_of (n := 104) (by omega) ⟨Int32.le_trans (by decide) h.1, h.2⟩
  have h1 : 97 ≤ k := (nI_leI (a := 97) (b := k) (by omega) (by omega)).mp h.1
  have h2 : tn (nI k) = k := tn_nI (by omega)
  unfold lx
  rw [h2]
  exact ⟨by rw [show 97 + (k - 97) = k by omega], by omega⟩
theorem lx_4 {x : Int32} (h : okR 97 104 x) : 4 + x - 97 = nI (4 + lx x) := by
  obtain ⟨e, h8⟩ := lx_e h
  generalize lx x = k at e h8
  subst e
  have h1 : (4 : Int32) + nI (97 + k) = nI (4 + (97 + k)) := nI_add 4 (97 + k)
  rw [h1, show (97 : Int32) = nI 97 from rfl, pk_sub (by omega), show 4 + (97 + k) - 97 = 4 + k by omega]
/-- one statement from a on: the row, the cost, the place behind it -/
def roX (rw : Nat → Int32) (w : Nat) (tx : Nat → Int32) (ln a : Nat) : (Nat → Int32) × Int32 × Nat :=
  if seP tx ln (a + 2) 48 57 then (upd rw (4 + lx (tx a)) ((nuS tx ln 3 (a + 2) 0).1 &&& nI (gr w)), 0, (nuS tx ln 3 (a + 2) 0).2 + 1)
  else (upd rw (4 + lx (tx a)) (byF rw (tn (rw (4 + lx (tx (a + 2))))) (tx (a + 2 + 1)) (tn (rw (4 + lx (tx (a + 2 + 2))))) &&& nI (gr w)), pbF rw (tx (a + 2 + 1)) (tn (rw (4 + lx (tx (a + 2 + 2))))), a + 2 + 4)
theorem roX_n {rw : Nat → Int32} {w : Nat} {tx : Nat → Int32} {ln a : Nat} (h : seP tx ln (a + 2) 48 57) : roX rw w tx ln a = (upd rw (4 + lx (tx a)) ((nuS tx ln 3 (a + 2) 0).1 &&& nI (gr w)), 0, (nuS tx ln 3 (a + 2) 0).2 + 1) := if_pos h
theorem roX_l {rw : Nat → Int32} {w : Nat} {tx : Nat → Int32} {ln a : Nat} (h : ¬ seP tx ln (a + 2) 48 57) : roX rw w tx ln a = (upd rw (4 + lx (tx a)) (byF rw (tn (rw (4 + lx (tx (a + 2))))) (tx (a + 2 + 1)) (tn (rw (4 + lx (tx (a + 2 + 2))))) &&& nI (gr w)), pbF rw (tx (a + 2 + 1)) (tn (rw (4 + lx (tx (a + 2 + 2))))), a + 2 + 4) := if_neg h
theorem roX_0 {rw : Nat → Int32} {w : Nat} {tx : Nat → Int32} {ln a : Nat} : (roX rw w tx ln a).1 0 = rw 0 := by
  unfold roX
  split
  · exact if_neg (by omega)
  · exact if_neg (by omega)
theorem roX_reg {rw : Nat → Int32} {w : Nat} {tx : Nat → Int32} {ln a : Nat} (hw8 : w ≤ 8) (h : regOK w (mG rw)) : regOK w (mG (roX rw w tx ln a).1) := by
  have key : ∀ v : Int32, mG (upd rw (4 + lx (tx a)) (v &&& nI (gr w))) = upd (mG rw) (lx (tx a)) (v &&& nI (gr w)) := by
    intro v
    funext n
    unfold mG upd
    by_cases e : n = lx (tx a)
    · rw [if_pos e, if_pos (by omega)]
    · rw [if_neg e, if_neg (by omega)]
  unfold roX
  split
  · show regOK w (mG (upd rw _ _))
    rw [key]
    exact reg_put hw8 h
  · show regOK w (mG (upd rw _ _))
    rw [key]
    exact reg_put hw8 h
theorem roX_gt {rw : Nat → Int32} {w : Nat} {tx : Nat → Int32} {ln a : Nat} : a < (roX rw w tx ln a).2.2 := by
  unfold roX
  split
  · rename_i h
    have h1 := h.1
    have := (nuS_b (tx := tx) (ln := ln) 3 (a + 2) 0 (by omega)).1
    show a < (nuS tx ln 3 (a + 2) 0).2 + 1
    omega
  · show a < a + 2 + 4
    omega
/-- what a good statement has -/
theorem foF_ok {tx : Nat → Int32} {ln a : Nat} (hl : ln ≤ 100) (ha : a < ln) (h : (foF tx ln a).1 = -1) : seP tx ln a 97 104 ∧
    ((seP tx ln (a + 2) 48 57 ∧ (foF tx ln a).2 = (nuS tx ln 3 (a + 2) 0).2 + 1 ∧ seP tx ln (nuS tx ln 3 (a + 2) 0).2 59 59 ∧ ((nuS tx ln 3 (a + 2) 0).1 ≤ 255 ∨ seP tx ln (nuS tx ln 3 (a + 2) 0).2 48 57))
    ∨ (¬ seP tx ln (a + 2) 48 57 ∧ seP tx ln (a + 2) 97 104 ∧ siP tx ln (a + 2 + 1) ∧ seP tx ln (a + 2 + 2) 97 104 ∧ (foF tx ln a).2 = a + 2 + 4 ∧ a + 2 + 4 ≤ ln)) := by
  unfold foF at h ⊢
  by_cases h1 : seP tx ln a 97 104
  · have g1 := h1.1
    refine ⟨h1, ?_⟩
    rw [if_pos h1] at h ⊢
    by_cases h2 : seP tx ln (a + 1) 61 61
    · have g2 := h2.1
      rw [if_pos h2] at h ⊢
      by_cases h3 : seP tx ln (a + 1 + 1) 48 57
      · left
        have g3 := h3.1
        have hb := nuS_b (tx := tx) (ln := ln) 3 (a + 1 + 1) 0 (by omega)
        rw [if_pos h3] at h ⊢
        by_cases h4 : ¬ (nuS tx ln 3 (a + 1 + 1) 0).1 ≤ 255 ∧ ¬ seP tx ln (nuS tx ln 3 (a + 1 + 1) 0).2 48 57
        · rw [if_pos h4] at h
          exact absurd h (nI_m1 (by omega))
        · rw [if_neg h4] at h ⊢
          by_cases h5 : seP tx ln (nuS tx ln 3 (a + 1 + 1) 0).2 59 59
          · rw [if_pos h5]
            refine ⟨h3, rfl, h5, ?_⟩
            rcases Decidable.not_and_iff_not_or_not.mp h4 with q | q
            · exact Or.inl (Decidable.not_not.mp q)
            · exact Or.inr (Decidable.not_not.mp q)
          · rw [if_neg h5] at h
            exact absurd h (nI_m1 (by omega))
      · right
        refine ⟨h3, ?_⟩
        rw [if_neg h3] at h ⊢
        by_cases h4 : seP tx ln (a + 1 + 1) 97 104
        · have g4 := h4.1
          refine ⟨h4, ?_⟩
          rw [if_pos h4] at h ⊢
          by_cases h5 : siP tx ln (a + 1 + 1 + 1)
          · have g5 := h5.1
            refine ⟨h5, ?_⟩
            rw [if_pos h5] at h ⊢
            by_cases h6 : seP tx ln (a + 1 + 1 + 1 + 1) 97 104
            · have g6 := h6.1
              refine ⟨h6, ?_⟩
              rw [if_pos h6] at h ⊢
              by_cases h7 : seP tx ln (a + 1 + 1 + 1 + 1 + 1) 59 59
              · have g7 := h7.1
                rw [if_pos h7]
                exact ⟨rfl, by omega⟩
              · rw [if_neg h7] at h
                exact absurd h (nI_m1 (by omega))
            · rw [if_neg h6] at h
              exact absurd h (nI_m1 (by omega))
          · rw [if_neg h5] at h
            exact absurd h (nI_m1 (by omega))
        · rw [if_neg h4] at h
          exact absurd h (nI_m1 (by omega))
    · rw [if_neg h2] at h
      exact absurd h (nI_m1 (by omega))
  · rw [if_neg h1] at h
    exact absurd h (nI_m1 (by omega))
/-- all statements from a on, n at most -/
def ruS (w : Nat) (tx : Nat → Int32) (ln : Nat) : Nat → (Nat → Int32) × Int32 × Nat → (Nat → Int32) × Int32 × Nat
  | 0, q => q
  | n + 1, q => if q.2.2 < ln then ruS w tx ln n ((roX q.1 w tx ln q.2.2).1, q.2.1 + (roX q.1 w tx ln q.2.2).2.1, (roX q.1 w tx ln q.2.2).2.2) else q
theorem ruS_m {w : Nat} {tx : Nat → Int32} {ln : Nat} : ∀ (n m : Nat) (q : (Nat → Int32) × Int32 × Nat), ln - q.2.2 ≤ n → ln - q.2.2 ≤ m → ruS w tx ln n q = ruS w tx ln m q
  | 0, 0, q, _, _ => rfl
  | 0, m + 1, q, h1, _ => by rw [ruS, ruS, if_neg (by omega)]
  | n + 1, 0, q, _, h2 => by rw [ruS, ruS, if_neg (by omega)]
  | n + 1, m + 1, q, h1, h2 => by
    rw [ruS, ruS]
    by_cases h : q.2.2 < ln
    · rw [if_pos h, if_pos h]
      have := roX_gt (rw := q.1) (w := w) (tx := tx) (ln := ln) (a := q.2.2)
      exact ruS_m n m _ (by show ln - (roX q.1 w tx ln q.2.2).2.2 ≤ n; omega) (by show ln - (roX q.1 w tx ln q.2.2).2.2 ≤ m; omega)
    · rw [if_neg h, if_neg h]
theorem ruS_s {w : Nat} {tx : Nat → Int32} {ln : Nat} {rw : Nat → Int32} {co : Int32} {a : Nat} (h : a < ln) : ruS w tx ln ln (rw, co, a) = ruS w tx ln ln ((roX rw w tx ln a).1, co + (roX rw w tx ln a).2.1, (roX rw w tx ln a).2.2) := by
  obtain ⟨n, hn⟩ : ∃ n, ln = n + 1 := ⟨ln - 1, by omega⟩
  have e : ruS w tx ln ln (rw, co, a) = ruS w tx ln n ((roX rw w tx ln a).1, co + (roX rw w tx ln a).2.1, (roX rw w tx ln a).2.2) := by
    refine (congrArg (fun i => ruS w tx ln i (rw, co, a)) hn).trans ?_
    show ruS w tx ln (n + 1) (rw, co, a) = _
    rw [ruS, if_pos h]
  rw [e]
  have := roX_gt (rw := rw) (w := w) (tx := tx) (ln := ln) (a := a)
  exact ruS_m n ln _ (by show ln - (roX rw w tx ln a).2.2 ≤ n; omega) (by show ln - (roX rw w tx ln a).2.2 ≤ ln; omega)
theorem ruS_e {w : Nat} {tx : Nat → Int32} {ln : Nat} {rw : Nat → Int32} {co : Int32} {a : Nat} (h : ¬ a < ln) : ruS w tx ln ln (rw, co, a) = (rw, co, a) := by
  cases ln with
  | zero => rfl
  | succ n => rw [ruS, if_neg h]
/-- a text with no fault before a has a good statement at a -/
theorem fa_ok {tx : Nat → Int32} {ln a : Nat} (hl : ln ≤ 100) (h : a < ln) (hf : (faS tx ln ln a).1 = -1) : (foF tx ln a).1 = -1 ∧ (faS tx ln ln (foF tx ln a).2).1 = -1 := by
  by_cases hq : (foF tx ln a).1 = -1
  · exact ⟨hq, by rw [← faS_s hl h hq]; exact hf⟩
  · rw [faS_x h hq] at hf
    exact absurd hf hq
theorem foF_ro {rw : Nat → Int32} {w : Nat} {tx : Nat → Int32} {ln a : Nat} (hl : ln ≤ 100) (ha : a < ln) (h : (foF tx ln a).1 = -1) : (roX rw w tx ln a).2.2 = (foF tx ln a).2 := by
  rcases (foF_ok hl ha h).2 with q | q
  · rw [roX_n q.1, q.2.1]
  · rw [roX_l q.1, q.2.2.2.2.1]
theorem pbF_u {rw : Nat → Int32} {t : Nat} {v sg : Int32} {b : Nat} : pbF (upd rw (4 + t) v) sg b = pbF rw sg b := by
  have h : ∀ j, j < 4 → upd rw (4 + t) v j = rw j := fun j hj => if_neg (by omega)
  unfold pbF mcF
  rw [h 1 (by omega), h 2 (by omega), h 3 (by omega)]
