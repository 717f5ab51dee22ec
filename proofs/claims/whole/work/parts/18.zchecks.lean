/-! SPEC of the reference's checks and digest -/
def zeF (rd : Nat → Int32) (n : Nat) : Nat → Int32 := fun k => if k < n then 0 else rd k
theorem zeF_0 {rd : Nat → Int32} : rd = zeF rd 0 := by
  funext k
  unfold zeF
  rw [if_neg (by omega)]
theorem zeF_s {rd : Nat → Int32} {n : Nat} : upd (zeF rd n) n 0 = zeF rd (n + 1) := by
  funext k
  unfold upd zeF
  by_cases h : k = n
  · rw [if_pos h, if_pos (by omega)]
  · rw [if_neg h]
    by_cases h2 : k < n
    · rw [if_pos h2, if_pos (by omega)]
    · rw [if_neg h2, if_neg (by omega)]
def mcT (rw : Nat → Int32) (a b : Nat) (q : Int32 × (Nat → Int32)) : Int32 × (Nat → Int32) :=
  if mbF rw a b = nI (a * b) then q
  else (q.1 + 1, upd (upd q.2 (a + b) (q.2 (a + b) + 1)) (ad a b) (upd q.2 (a + b) (q.2 (a + b) + 1) (ad a b) + (if ad a b = a + b then 0 else 1)))
def mcR (rw : Nat → Int32) (a : Nat) : Nat → Int32 × (Nat → Int32) → Int32 × (Nat → Int32)
  | 0, q => q
  | b + 1, q => mcT rw a b (mcR rw a b q)
def mcA (rw : Nat → Int32) (G : Nat) : Nat → Int32 × (Nat → Int32) → Int32 × (Nat → Int32)
  | 0, q => q
  | a + 1, q => mcR rw a (G + 1) (mcA rw G a q)
def mcN (rw rd : Nat → Int32) (w : Nat) : Int32 × (Nat → Int32) := mcA rw (gr w) (gr w + 1) (0, zeF rd (ents w))
/-- the entry with the most reads below n (from 1 on) -/
def msS (F : Nat → Int32) : Nat → Nat
  | 0 => 0
  | n + 1 => if n = 0 then 0 else if F n ≤ F (msS F n) then msS F n else n
def msF (q : Int32 × (Nat → Int32)) (w : Nat) : Int32 := if q.1 = 0 then -1 else nI (msS q.2 (ents w))
theorem ms_s {F : Nat → Int32} {i bs : Nat} (hi : 1 ≤ i) (h : msS F i = bs) (hc : F i ≤ F bs) : msS F (i + 1) = bs := by
  rw [msS, if_neg (by omega), h, if_pos hc]
theorem ms_n {F : Nat → Int32} {i bs : Nat} (hi : 1 ≤ i) (h : msS F i = bs) (hc : ¬ F i ≤ F bs) : msS F (i + 1) = i := by
  rw [msS, if_neg (by omega), h, if_neg hc]
def mG (rw : Nat → Int32) : Nat → Int32 := fun n => rw (4 + n)
def dgM (rw : Nat → Int32) (w : Nat) (ma : Int64) (ln np : Nat) : Int64 :=
  31 * (31 * dI (mS rw) (dI (mG rw) (31 * dI (mkF rw w) (31 * 3833 + Int32.toInt64 (nI ln)) 8 + ma) 8) (ents w) + Int32.toInt64 (fwF (mS rw) (gr w))) + Int32.toInt64 (nI np)
