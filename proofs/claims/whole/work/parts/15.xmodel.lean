/-! SPEC of the reference: its answers out of its row of numbers -/
theorem bz_i {P P' : Prop} [Decidable P] [Decidable P'] (h : P ↔ P') : (if P then (1 : Int32) else 0) = (if P' then (1 : Int32) else 0) := by
  by_cases hp : P
  · rw [if_pos hp, if_pos (h.mp hp)]
  · rw [if_neg hp, if_neg (fun q => hp (h.mpr q))]
theorem ok_e {w : Nat} {v : Int32} (hw8 : w ≤ 8) : okR 0 (nI (ents w - 1)) v ↔ okE w v := by
  have h1 := ents_le w hw8
  have h2 : 0 < ents w := by unfold ents; omega
  constructor
  · intro h
    obtain ⟨k, hk, rfl⟩ := rN_of (n := ents w - 1) (by omega) h
    exact ⟨h.1, nI_lt (by omega) (by omega)⟩
  · intro h
    obtain ⟨k, hk, rfl⟩ := en_of hw8 h
    exact ⟨h.1, nI_le (by omega) (by omega)⟩
theorem ok_g {v : Int32} : okR 0 7 v ↔ okG v := by
  constructor
  · intro h
    obtain ⟨k, hk, rfl⟩ := rN_of (n := 7) (by omega) h
    exact ⟨h.1, nI_lt (a := k) (b := 8) (by omega) (by omega)⟩
  · intro h
    obtain ⟨k, hk, rfl⟩ := rg_of h
    exact ⟨h.1, nI_le (a := k) (b := 7) (by omega) (by omega)⟩
def btF (v : Int32) (k : Nat) : Int32 := (v >>> (nI k &&& 31)) &&& 1
def onF (v : Int32) : Int32 := sI (btF v) 17
def mwF (rw : Nat → Int32) (n : Nat) : Int32 := onF (rw (12 + n) ^^^ tv n)
abbrev fdP (x : Int32) : Prop := x - x / 2 * 2 = 1
def meF (rw : Nat → Int32) (k : Nat) : Int32 := if mwF rw k ≤ 0 then 0 else 1
def mfF (rw : Nat → Int32) (k : Nat) : Int32 := if fdP (mwF rw k) then 1 else 0
def mbF (rw : Nat → Int32) (a b : Nat) : Int32 := rw (12 + a + b) - rw (12 + ad a b)
def mS (rw : Nat → Int32) : Nat → Int32 := fun n => rw (12 + n)
theorem mb_wp {rw : Nat → Int32} {a b : Nat} : ¬ mbF rw a b = nI (a * b) ↔ wpP (mS rw) a b := by
  unfold mbF wpP mS
  rw [Nat.add_assoc]
theorem ad_gt {a b : Nat} (h : b < a) : nI a - nI b = nI (ad a b) := by
  rw [pk_sub (Nat.le_of_lt h), show ad a b = a - b by unfold ad; omega]
theorem ad_ng {a b : Nat} (h : a ≤ b) : nI b - nI a = nI (ad a b) := by
  rw [pk_sub h, show ad a b = b - a by unfold ad; omega]
def btX (v k : Int32) : Int32 := if 0 ≤ k then (v >>> (k &&& 31)) &&& 1 else 0
def tuX (v k mt : Int32) : Int32 := if mt = 1 then btX v k else btX v (k - 1) - btX v k
def bsT (a b : Nat) (mt : Int32) (k : Nat) : Int32 := tuX (nI b) (nI k) mt * (nI a <<< (nI k &&& 31))
def bsF (a b : Nat) (mt : Int32) : Int32 := sI (bsT a b mt) 9
def mpF (rw : Nat → Int32) (a b : Nat) (mt : Int32) : Int32 := if mt = 0 then mbF rw a b else bsF a b mt
def taF (b : Nat) (mt : Int32) (k : Nat) : Int32 := if tuX (nI b) (nI k) mt = 0 then 0 else 1
def hgF (b : Nat) (mt : Int32) : Nat → Int32
  | 0 => 0
  | k + 1 => if tuX (nI b) (nI k) mt = 0 then hgF b mt k else nI k
def mcF (rw : Nat → Int32) (b : Nat) (mt : Int32) : Int32 := if mt = 0 then 2 * rw 1 + 3 * rw 2 else sI (taF b mt) 9 * rw 2 + hgF b mt 9 * rw 3
def mhB (rw : Nat → Int32) (b : Nat) : Int32 := if mcF rw b 2 < mcF rw b 1 then 2 else 1
def mhF (rw : Nat → Int32) (a b : Nat) : Int32 := if mbF rw a b = nI (a * b) ∧ mcF rw b 0 ≤ mcF rw b (mhB rw b) then 0 else mhB rw b
def mrF (p k wy : Int32) : Int32 :=
  if wy = 0 ∨ 2 * (p - ((p >>> (k &&& 31)) <<< (k &&& 31))) < (1 : Int32) <<< (k &&& 31) then p >>> (k &&& 31)
  else if (1 : Int32) <<< (k &&& 31) < 2 * (p - ((p >>> (k &&& 31)) <<< (k &&& 31))) ∨ wy = 1 ∨ ¬ (p >>> (k &&& 31)) - (p >>> (k &&& 31)) / 2 * 2 = 0 then p >>> (k &&& 31) + 1
  else p >>> (k &&& 31)
def mkF (rw : Nat → Int32) (w n : Nat) : Int32 :=
  if n = 0 then nI w else if n = 1 then nI (ents w) else if n = 2 then rw 1 else if n = 3 then rw 2 else if n = 4 then rw 3 else if n = 5 then sI (meF rw) (ents w) else if n = 6 then sI (mfF rw) (ents w) else sI (mwF rw) (ents w)
