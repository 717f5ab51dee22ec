/-! WHAT IS SAVED -/
theorem StRel.row {w : Nat} {ac ma : Int64} {fc fs fr rw rw' : Nat → Int32} (h : StRel w ac fc fs fr rw ma) (e : ∀ k, k < 523 → rw' k = rw k) : StRel w ac fc fs fr rw' ma := by
  have he := ents_le w h.w8
  exact ⟨h.1, (e 0 (by omega)).trans h.r0, fun i hi => (e _ (by omega)).trans (h.rc i hi), fun i hi => (e _ (by omega)).trans (h.rr i hi), fun n hn => (e _ (by omega)).trans (h.rs n hn), h.bd, h.rg, h.ea⟩
/-- the i-th oldest saved state lies in this place of the ring -/
def slF (cnt nx i : Nat) : Nat := (nx + 4 - cnt + i) % 4
def HRel (cnt nx : Nat) (sw : Nat → Nat) (sa : Nat → Int64) (sc ss sr : Nat → Nat → Int32) (pst : Nat → Int32) (pa : Nat → Int64) : Prop :=
  ∀ i, i < cnt → StRel (sw (slF cnt nx i)) (sa (slF cnt nx i)) (sc (slF cnt nx i)) (ss (slF cnt nx i)) (sr (slF cnt nx i)) (fun k => pst (523 * i + k)) (pa i)
section Saved
variable {w : Nat} {ac ma : Int64} {fc fs fr rw : Nat → Int32} {cnt nx : Nat} {sw : Nat → Nat} {sa : Nat → Int64} {sc ss sr : Nat → Nat → Int32} {pst : Nat → Int32} {pa : Nat → Int64}
theorem va_up_n {α : Type} {f : Nat → α} {i j : Nat} {x : α} (h : ¬ j = i) : va_up f i x j = f j := by unfold va_up; rw [if_neg h]
theorem va_up_s {α : Type} {f : Nat → α} {i : Nat} {x : α} : va_up f i x i = x := by unfold va_up; rw [if_pos rfl]
theorem hi_save (h : StRel w ac fc fs fr rw ma) (hH : HRel cnt nx sw sa sc ss sr pst pa) (hc : cnt ≤ 4) (hn : nx < 4) : HRel (kcF cnt) (nnF nx) (va_up sw nx w) (va_up sa nx ac) (va_up sc nx fc) (va_up ss nx fs) (va_up sr nx fr) (svP pst cnt rw) (svA pa cnt ma) := by
  intro i hi
  by_cases h4 : cnt = 4
  · have hk : kcF cnt = 4 := by unfold kcF; rw [if_neg (by omega)]
    rw [hk] at hi ⊢
    unfold svP svA
    rw [if_pos h4, if_pos h4]
    by_cases h3 : i = 3
    · have hs : slF 4 (nnF nx) i = nx := by unfold slF nnF; omega
      rw [hs, va_up_s, va_up_s, va_up_s, va_up_s, va_up_s]
      have ea : vp_updL (shJ pa 3) (cnt - 1) ma i = ma := by unfold vp_updL; rw [if_pos (by omega)]
      rw [ea]
      refine h.row (fun k hk => ?_)
      show puK (shK pst 1569) (cnt - 1) rw 523 (523 * i + k) = rw k
      unfold puK
      rw [if_pos (by omega), show 523 * i + k - 523 * (cnt - 1) = k by omega]
    · have hs : slF 4 (nnF nx) i = slF cnt nx (i + 1) := by unfold slF nnF; omega
      have hne : ¬ slF cnt nx (i + 1) = nx := by unfold slF; omega
      rw [hs, va_up_n hne, va_up_n hne, va_up_n hne, va_up_n hne, va_up_n hne]
      have ea : vp_updL (shJ pa 3) (cnt - 1) ma i = pa (i + 1) := by unfold vp_updL shJ; rw [if_neg (by omega), if_pos (by omega)]
      rw [ea]
      refine (hH (i + 1) (by omega)).row (fun k hk => ?_)
      show puK (shK pst 1569) (cnt - 1) rw 523 (523 * i + k) = pst (523 * (i + 1) + k)
      unfold puK shK
      rw [if_neg (by omega), if_pos (by omega), show 523 * i + k + 523 = 523 * (i + 1) + k by omega]
  · have hk : kcF cnt = cnt + 1 := by unfold kcF; rw [if_pos (by omega)]
    rw [hk] at hi ⊢
    unfold svP svA
    rw [if_neg h4, if_neg h4]
    by_cases h3 : i = cnt
    · have hs : slF (cnt + 1) (nnF nx) i = nx := by unfold slF nnF; omega
      rw [hs, va_up_s, va_up_s, va_up_s, va_up_s, va_up_s]
      have ea : vp_updL pa cnt ma i = ma := by unfold vp_updL; rw [if_pos (by omega)]
      rw [ea]
      refine h.row (fun k hk => ?_)
      show puK pst cnt rw 523 (523 * i + k) = rw k
      unfold puK
      rw [if_pos (by omega), show 523 * i + k - 523 * cnt = k by omega]
    · have hs : slF (cnt + 1) (nnF nx) i = slF cnt nx i := by unfold slF nnF; omega
      have hne : ¬ slF cnt nx i = nx := by unfold slF; omega
      rw [hs, va_up_n hne, va_up_n hne, va_up_n hne, va_up_n hne, va_up_n hne]
      have ea : vp_updL pa cnt ma i = pa i := by unfold vp_updL; rw [if_neg (by omega)]
      rw [ea]
      refine (hH i (by omega)).row (fun k hk => ?_)
      show puK pst cnt rw 523 (523 * i + k) = pst (523 * i + k)
      unfold puK
      rw [if_neg (by omega)]
theorem hi_undo (hH : HRel cnt nx sw sa sc ss sr pst pa) (h1 : 1 ≤ cnt) (hc : cnt ≤ 4) (hn : nx < 4) : StRel (sw (pnF nx)) (sa (pnF nx)) (sc (pnF nx)) (ss (pnF nx)) (sr (pnF nx)) (fun k => pst (523 * (cnt - 1) + k)) (pa (cnt - 1)) ∧ HRel (cnt - 1) (pnF nx) sw sa sc ss sr pst pa := by
  refine ⟨?_, fun i hi => ?_⟩
  · have h2 := hH (cnt - 1) (by omega)
    rw [show slF cnt nx (cnt - 1) = pnF nx by unfold slF pnF; omega] at h2
    exact h2
  · have h2 := hH i (by omega)
    rw [show slF cnt nx i = slF (cnt - 1) (pnF nx) i by unfold slF pnF; omega] at h2
    exact h2
end Saved
