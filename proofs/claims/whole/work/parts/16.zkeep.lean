/-! SPEC of the reference's row and of what it keeps -/
def bg1 (rw : Nat → Int32) (w2 i : Nat) : Nat → Int32 := fun k => if k = 0 then nI w2 else if 4 ≤ k ∧ k < 4 + i then 0 else rw k
def bg2 (rw : Nat → Int32) (w2 i : Nat) : Nat → Int32 := fun k => if k = 0 then nI w2 else if 12 ≤ k ∧ k < 12 + i then (if k - 12 < ents w2 then tv (k - 12) else 0) else if 4 ≤ k ∧ k < 12 then 0 else rw k
def bgF (rw : Nat → Int32) (w2 : Nat) : Nat → Int32 := fun k => if k = 0 then nI w2 else if k < 4 then rw k else if k < 12 then 0 else if k - 12 < ents w2 then tv (k - 12) else 0
theorem bg1_0 {rw : Nat → Int32} {w2 : Nat} : upd rw 0 (nI w2) = bg1 rw w2 0 := by
  funext k
  unfold upd bg1
  by_cases h : k = 0
  · rw [if_pos h, if_pos h]
  · rw [if_neg h, if_neg h, if_neg (by omega)]
theorem bg1_s {rw : Nat → Int32} {w2 i : Nat} : upd (bg1 rw w2 i) (4 + i) 0 = bg1 rw w2 (i + 1) := by
  funext k
  unfold upd bg1
  by_cases h : k = 4 + i
  · rw [if_pos h, if_neg (by omega), if_pos (by omega)]
  · rw [if_neg h]
    by_cases h0 : k = 0
    · rw [if_pos h0, if_pos h0]
    · rw [if_neg h0, if_neg h0]
      by_cases h1 : 4 ≤ k ∧ k < 4 + i
      · rw [if_pos h1, if_pos (by omega)]
      · rw [if_neg h1, if_neg (by omega)]
theorem bg2_0 {rw : Nat → Int32} {w2 i : Nat} (e : i = 8) : bg1 rw w2 i = bg2 rw w2 0 := by
  subst e
  funext k
  unfold bg1 bg2
  by_cases h0 : k = 0
  · rw [if_pos h0, if_pos h0]
  · rw [if_neg h0, if_neg h0, if_neg (show ¬ (12 ≤ k ∧ k < 12 + 0) by omega)]
theorem bg2_s {rw : Nat → Int32} {w2 i : Nat} {x : Int32} (hx : x = if i < ents w2 then tv i else 0) : upd (bg2 rw w2 i) (12 + i) x = bg2 rw w2 (i + 1) := by
  funext k
  unfold upd bg2
  by_cases h : k = 12 + i
  · rw [if_pos h, if_neg (by omega), if_pos (by omega), show k - 12 = i by omega]
    exact hx
  · rw [if_neg h]
    by_cases h0 : k = 0
    · rw [if_pos h0, if_pos h0]
    · rw [if_neg h0, if_neg h0]
      by_cases h1 : 12 ≤ k ∧ k < 12 + i
      · rw [if_pos h1, if_pos (show 12 ≤ k ∧ k < 12 + (i + 1) by omega)]
      · rw [if_neg h1, if_neg (show ¬ (12 ≤ k ∧ k < 12 + (i + 1)) by omega)]
theorem bg2_t {rw : Nat → Int32} {w2 i : Nat} (h : i < ents w2) : upd (bg2 rw w2 i) (12 + i) (tv i) = bg2 rw w2 (i + 1) := bg2_s (if_pos h).symm
theorem bg2_f {rw : Nat → Int32} {w2 i : Nat} (h : ents w2 ≤ i) : upd (bg2 rw w2 i) (12 + i) 0 = bg2 rw w2 (i + 1) := bg2_s (if_neg (by omega)).symm
theorem bg2_w {rw : Nat → Int32} {w2 i : Nat} : bg2 rw w2 i 0 = nI w2 := if_pos rfl
theorem bg2_e {rw : Nat → Int32} {w2 k : Nat} (h : k < 523) : bg2 rw w2 511 k = bgF rw w2 k := by
  unfold bg2 bgF
  by_cases h0 : k = 0
  · rw [if_pos h0, if_pos h0]
  · rw [if_neg h0, if_neg h0]
    by_cases h1 : k < 4
    · rw [if_neg (by omega), if_neg (by omega), if_pos h1]
    · rw [if_neg h1]
      by_cases h2 : k < 12
      · rw [if_neg (by omega), if_pos (by omega), if_pos h2]
      · rw [if_pos (by omega), if_neg h2]
-- what is kept: four rows one behind the other
def shK (p : Nat → Int32) (i : Nat) : Nat → Int32 := fun k => if k < i then p (k + 523) else p k
def shJ (p : Nat → Int64) (i : Nat) : Nat → Int64 := fun k => if k < i then p (k + 1) else p k
def puK (p : Nat → Int32) (n : Nat) (rw : Nat → Int32) (i : Nat) : Nat → Int32 := fun k => if 523 * n ≤ k ∧ k < 523 * n + i then rw (k - 523 * n) else p k
def svP (p : Nat → Int32) (np : Nat) (rw : Nat → Int32) : Nat → Int32 := if np = 4 then puK (shK p 1569) (np - 1) rw 523 else puK p np rw 523
def svA (pa : Nat → Int64) (np : Nat) (ma : Int64) : Nat → Int64 := if np = 4 then vp_updL (shJ pa 3) (np - 1) ma else vp_updL pa np ma
theorem shK_0 {p : Nat → Int32} : p = shK p 0 := by
  funext k
  unfold shK
  rw [if_neg (by omega)]
theorem shK_s {p : Nat → Int32} {i : Nat} : upd (shK p i) i (shK p i (i + 523)) = shK p (i + 1) := by
  funext k
  unfold upd shK
  by_cases h : k = i
  · rw [if_pos h, if_neg (by omega), if_pos (by omega), h]
  · rw [if_neg h]
    by_cases h1 : k < i
    · rw [if_pos h1, if_pos (by omega)]
    · rw [if_neg h1, if_neg (by omega)]
theorem shJ_0 {p : Nat → Int64} : p = shJ p 0 := by
  funext k
  unfold shJ
  rw [if_neg (by omega)]
theorem shJ_s {p : Nat → Int64} {i : Nat} : vp_updL (shJ p i) i (shJ p i (i + 1)) = shJ p (i + 1) := by
  funext k
  unfold vp_updL shJ
  by_cases h : k = i
  · rw [if_pos h, if_neg (by omega), if_pos (by omega), h]
  · rw [if_neg h]
    by_cases h1 : k < i
    · rw [if_pos h1, if_pos (by omega)]
    · rw [if_neg h1, if_neg (by omega)]
theorem puK_0 {p rw : Nat → Int32} {n : Nat} : p = puK p n rw 0 := by
  funext k
  unfold puK
  rw [if_neg (by omega)]
theorem puK_s {p rw : Nat → Int32} {n i : Nat} : upd (puK p n rw i) (523 * n + i) (rw i) = puK p n rw (i + 1) := by
  funext k
  unfold upd puK
  by_cases h : k = 523 * n + i
  · rw [if_pos h, if_pos (by omega), show k - 523 * n = i by omega]
  · rw [if_neg h]
    by_cases h1 : 523 * n ≤ k ∧ k < 523 * n + i
    · rw [if_pos h1, if_pos (by omega)]
    · rw [if_neg h1, if_neg (by omega)]
