/-! SPEC: the pure words of the answers -/
theorem bz_t {P : Prop} [Decidable P] (h : ¬ (if P then (1 : Int32) else 0) = 0) : P := by
  by_cases hp : P
  · exact hp
  · exact absurd (if_neg hp) h
theorem bz_f {P : Prop} [Decidable P] (h : (if P then (1 : Int32) else 0) = 0) : ¬ P := by
  intro hp
  rw [if_pos hp] at h
  exact absurd h (by decide)
theorem bz_n {P : Prop} [Decidable P] : narrow .boolean (.int (if P then (1 : Int32) else 0)) = .int (if P then (1 : Int32) else 0) := by
  by_cases hp : P
  · rw [if_pos hp]; rfl
  · rw [if_neg hp]; rfl
/-- the greatest operand, the number of entries -/
def gr (w : Nat) : Nat := 2 ^ w - 1
def ents (w : Nat) : Nat := 2 * gr w + 1
theorem gr_le : ∀ w : Nat, w ≤ 8 → gr w ≤ 255 := by
  intro w h
  have : ∀ w : Fin 9, gr w.val ≤ 255 := by decide
  exact this ⟨w, by omega⟩
theorem gr_ge : ∀ w : Nat, 3 ≤ w → 7 ≤ gr w := by
  intro w h
  have : 2 ^ 3 ≤ 2 ^ w := Nat.pow_le_pow_right (by decide) h
  unfold gr
  omega
theorem ents_le (w : Nat) (h : w ≤ 8) : ents w ≤ 511 := by
  have := gr_le w h
  unfold ents
  omega
theorem gr_e : ∀ w : Nat, w ≤ 8 → ((1 : Int32) <<< (nI w &&& 31)) - 1 = nI (gr w) := by
  intro w h
  have : ∀ w : Fin 9, ((1 : Int32) <<< (nI w.val &&& 31)) - 1 = nI (gr w.val) := by decide
  exact this ⟨w, by omega⟩
/-- the true value of an entry -/
def tv (n : Nat) : Int32 := nI (n * n / 4)
theorem tv_e {n : Nat} (h : n < 1024) : nI (n * n) / 4 = tv n := by
  have h1 : n * n ≤ 1023 * 1023 := Nat.mul_le_mul (by omega) (by omega)
  exact pk_div (a := n * n) (d := 4) (by omega) (by omega) (by omega)
-- Integer.bitCount, as the JDK has it
def bc1 (x : Int32) : Int32 := x - ((x.toUInt32 >>> (Int32.toUInt32 1 &&& Int32.toUInt32 31)).toInt32 &&& 1431655765)
def bc2 (x : Int32) : Int32 := (x &&& 858993459) + ((x.toUInt32 >>> (Int32.toUInt32 2 &&& Int32.toUInt32 31)).toInt32 &&& 858993459)
def bc3 (x : Int32) : Int32 := (x + (x.toUInt32 >>> (Int32.toUInt32 4 &&& Int32.toUInt32 31)).toInt32) &&& 252645135
def bc4 (x : Int32) : Int32 := x + (x.toUInt32 >>> (Int32.toUInt32 8 &&& Int32.toUInt32 31)).toInt32
def bc5 (x : Int32) : Int32 := x + (x.toUInt32 >>> (Int32.toUInt32 16 &&& Int32.toUInt32 31)).toInt32
def bc (x : Int32) : Int32 := bc5 (bc4 (bc3 (bc2 (bc1 x)))) &&& 63
/-- a sum of n numbers -/
def sI (f : Nat → Int32) : Nat → Int32
  | 0 => 0
  | n + 1 => sI f n + f n
/-- the entries' cells, true ones up to n -/
def fillT (f : Nat → Int32) (n : Nat) : Nat → Int32 := fun k => if k < n then tv k else f k
def fillC (f : Nat → Int32) (n : Nat) (x : Int32) : Nat → Int32 := fun k => if k < n then x else f k
theorem fillT_0 (f : Nat → Int32) : f = fillT f 0 := rfl
theorem fillT_s (f : Nat → Int32) (n : Nat) : upd (fillT f n) n (tv n) = fillT f (n + 1) := by
  funext k
  unfold upd fillT
  by_cases h : k = n
  · subst h; rw [if_pos rfl, if_pos (by omega)]
  · rw [if_neg h]
    by_cases h2 : k < n
    · rw [if_pos h2, if_pos (by omega)]
    · rw [if_neg h2, if_neg (by omega)]
theorem fillC_s (f : Nat → Int32) (n : Nat) (x : Int32) : upd (fillC f n x) n x = fillC f (n + 1) x := by
  funext k
  unfold upd fillC
  by_cases h : k = n
  · subst h; rw [if_pos rfl, if_pos (by omega)]
  · rw [if_neg h]
    by_cases h2 : k < n
    · rw [if_pos h2, if_pos (by omega)]
    · rw [if_neg h2, if_neg (by omega)]
/-- what an entry adds to a count: a wrong one, one that the parity finds, its wrong bits -/
def weF (fs : Nat → Int32) (k : Nat) : Int32 := if fs k = tv k then 0 else 1
abbrev hsP (fs : Nat → Int32) (k : Nat) : Prop := bc (fs k) &&& 1 = bc (tv k) &&& 1
def epF (fs : Nat → Int32) (k : Nat) : Int32 := if hsP fs k then 0 else 1
def wbF (fs : Nat → Int32) (k : Nat) : Int32 := bc (fs k ^^^ tv k)
def numF (w : Nat) (fc fs : Nat → Int32) (n : Nat) : Int32 :=
  if n = 0 then nI w else if n = 1 then nI (ents w) else if n = 2 then fc 0 else if n = 3 then fc 1 else if n = 4 then fc 2 else if n = 5 then sI (weF fs) (ents w) else if n = 6 then sI (epF fs) (ents w) else sI (wbF fs) (ents w)
/-- how far apart two operands are -/
def ad (a b : Nat) : Nat := (a - b) + (b - a)
theorem ad_e {a b : Nat} (ha : a ≤ 255) (hb : b ≤ 255) : (if 0 ≤ nI a - nI b then nI a - nI b else 0 - (nI a - nI b)) = nI (ad a b) := by
  unfold ad
  rcases Nat.lt_or_ge a b with h | h
  · have h1 : nI a - nI b < 0 := pk_sneg (by omega) h
    have h2 : ¬ 0 ≤ nI a - nI b := Int32.not_le.mpr h1
    rw [if_neg h2, show a - b + (b - a) = b - a by omega, ← pk_sub (Nat.le_of_lt h)]
    rw [Int32.zero_sub, Int32.neg_sub]
  · rw [pk_sub h, if_pos (nI_pos' (by omega)), show a - b + (b - a) = a - b by omega]
theorem ad_le {a b : Nat} (ha : a ≤ 255) (hb : b ≤ 255) : ad a b < 511 := by unfold ad; omega
/-- the product by a method -/
def prF (fs : Nat → Int32) (a b : Nat) (mt : Int32) : Int32 := if mt = 0 then fs (a + b) - fs (ad a b) else nI (a * b)
abbrev wpP (fs : Nat → Int32) (a b : Nat) : Prop := ¬ fs (a + b) - fs (ad a b) = nI (a * b)
/-- the place of the highest bit of x among the first n + 1 -/
def hiF (x : Int32) : Nat → Int32
  | 0 => 0
  | k + 1 => if (x >>> (nI (k + 1) &&& 31)) &&& 1 = 1 then nI (k + 1) else hiF x k
def ppF (fc : Nat → Int32) (x : Int32) : Int32 := bc x * fc 1 + hiF x 8 * fc 2
def pcF (fc : Nat → Int32) (b : Nat) (mt : Int32) : Int32 := if mt = 0 then 2 * fc 0 + 3 * fc 1 else if mt = 1 then ppF fc (nI b) else ppF fc (nI b ^^^ (nI b <<< (1 &&& 31)))
-- a statement's sign
def moF (sg : Int32) : Int32 := if sg = 42 then 0 else if sg = 120 then 1 else 2
def mnF (b : Nat) : Int32 := if 31 < nI b then 31 else nI b
def xrF (fs : Nat → Int32) (a : Nat) (sg : Int32) (b : Nat) : Int32 := if sg = 43 then nI a + nI b else if sg = 45 then nI a - nI b else if sg = 62 then nI a >>> (mnF b &&& 31) else prF fs a b (moF sg)
def xcF (fc : Nat → Int32) (sg : Int32) (b : Nat) : Int32 := if sg = 43 then fc 1 else if sg = 45 then fc 1 else if sg = 62 then mnF b * fc 2 else pcF fc b (moF sg)
/-- the first wrong pair -/
def fwF (fs : Nat → Int32) (G : Nat) : Int32 := ((List.range (G + 1)).findSome? (fun a => ((List.range (G + 1)).find? (fun b => decide (wpP fs a b))).map (fun b => nI (1000 * a + b)))).getD (-1)
theorem fwF_none {fs : Nat → Int32} {G : Nat} (h : ∀ a, a ≤ G → ∀ b, b ≤ G → ¬ wpP fs a b) : fwF fs G = -1 := by
  unfold fwF
  have : (List.range (G + 1)).findSome? (fun a => ((List.range (G + 1)).find? (fun b => decide (wpP fs a b))).map (fun b => nI (1000 * a + b))) = none := by
    rw [List.findSome?_eq_none_iff]
    intro a ha
    rw [Option.map_eq_none_iff, List.find?_eq_none]
    intro b hb
    rw [List.mem_range] at ha hb
    simpa using h a (by omega) b (by omega)
  rw [this]
  rfl
theorem range_split {n a : Nat} (h : a < n) : List.range n = List.range a ++ a :: (List.range' (a + 1) (n - a - 1)) := by
  rw [List.range_eq_range', List.range_eq_range']
  have h1 : n = a + (n - a - 1 + 1) := by omega
  conv => lhs; rw [h1, ← List.range'_append_1 (s := 0) (m := a) (n := n - a - 1 + 1)]
  rw [Nat.zero_add, List.range'_succ]
theorem findSome_range {α : Type} {F : Nat → Option α} {n a : Nat} {y : α} (h : a < n) (h1 : ∀ x, x < a → F x = none) (h2 : F a = some y) : (List.range n).findSome? F = some y := by
  rw [range_split h, List.findSome?_append]
  have hn : (List.range a).findSome? F = none := by
    rw [List.findSome?_eq_none_iff]
    intro x hx
    exact h1 x (List.mem_range.mp hx)
  rw [hn, Option.none_or]
  simp only [List.findSome?_cons, h2]
theorem fwF_some {fs : Nat → Int32} {G a b : Nat} (ha : a ≤ G) (hb : b ≤ G) (hw : wpP fs a b) (h1 : ∀ a', a' < a → ∀ b', b' ≤ G → ¬ wpP fs a' b') (h2 : ∀ b', b' < b → ¬ wpP fs a b') : fwF fs G = nI (1000 * a + b) := by
  unfold fwF
  have hfa : (List.range (G + 1)).find? (fun b => decide (wpP fs a b)) = some b := by
    rw [range_split (show b < G + 1 by omega), List.find?_append]
    have : (List.range b).find? (fun b => decide (wpP fs a b)) = none := by
      rw [List.find?_eq_none]
      intro x hx
      rw [List.mem_range] at hx
      simpa using h2 x hx
    rw [this, Option.none_or, List.find?_cons_of_pos (by simpa using hw)]
  rw [findSome_range (a := a) (y := nI (1000 * a + b)) (show a < G + 1 by omega) ?_ ?_]
  · rfl
  · intro x hx
    rw [Option.map_eq_none_iff, List.find?_eq_none]
    intro y hy
    rw [List.mem_range] at hy
    simpa using h1 x hx y (by omega)
  · rw [hfa]
    rfl
/-- what a statement puts into its register, and what it costs; rv: what the registers hold -/
def xvF (w : Nat) (fs : Nat → Int32) (rv : Nat → Nat) (sg : Int32) (f sd : Nat) : Int32 := if sg = 61 then nI f &&& nI (gr w) else xrF fs (rv f) sg (rv sd) &&& nI (gr w)
def xkF (fc : Nat → Int32) (rv : Nat → Nat) (sg : Int32) (sd : Nat) : Int32 := if sg = 61 then 0 else xcF fc sg (rv sd)
-- the ring of saved states
def kcF (cnt : Nat) : Nat := if cnt < 4 then cnt + 1 else 4
def nnF (nx : Nat) : Nat := (nx + 1) % 4
def pnF (nx : Nat) : Nat := (nx + 3) % 4
theorem kc_e {cnt : Nat} (h : cnt ≤ 4) : (if 4 < nI (cnt + 1) then 4 else nI (cnt + 1)) = nI (kcF cnt) := by
  have : ∀ c : Fin 5, (if 4 < nI (c.val + 1) then 4 else nI (c.val + 1)) = nI (kcF c.val) := by decide
  exact this ⟨cnt, by omega⟩
theorem bz_d {P : Prop} [Decidable P] : (if P then (1 : Int32) else 0) = (if decide P = true then (1 : Int32) else 0) := by
  by_cases h : P
  · rw [if_pos h, if_pos (decide_eq_true h)]
  · rw [if_neg h, if_neg (fun q => h (of_decide_eq_true q))]
/-! the text's reader: what stands next, digits so far, target, sign, first, second, statements so far, their rows -/
abbrev PSt : Type := Nat × Nat × Int32 × Int32 × Int32 × Int32 × Nat × (Nat → Int32) × (Nat → Int32) × (Nat → Int32) × (Nat → Int32)
abbrev uPl (u : PSt) : Nat := u.1
abbrev uDg (u : PSt) : Nat := u.2.1
abbrev uTg (u : PSt) : Int32 := u.2.2.1
abbrev uSn (u : PSt) : Int32 := u.2.2.2.1
abbrev uFi (u : PSt) : Int32 := u.2.2.2.2.1
abbrev uSe (u : PSt) : Int32 := u.2.2.2.2.2.1
abbrev uNs (u : PSt) : Nat := u.2.2.2.2.2.2.1
abbrev uT (u : PSt) : Nat → Int32 := u.2.2.2.2.2.2.2.1
abbrev uG (u : PSt) : Nat → Int32 := u.2.2.2.2.2.2.2.2.1
abbrev uF (u : PSt) : Nat → Int32 := u.2.2.2.2.2.2.2.2.2.1
abbrev uE (u : PSt) : Nat → Int32 := u.2.2.2.2.2.2.2.2.2.2
abbrev isL (v : Int32) : Prop := 97 ≤ v ∧ v ≤ 104
abbrev isD (v : Int32) : Prop := 48 ≤ v ∧ v ≤ 57
abbrev isS (v : Int32) : Prop := v = 35 ∨ v = 42 ∨ v = 43 ∨ v = 45 ∨ v = 62 ∨ v = 120
def pTD (u : PSt) (v : Int32) : PSt × Bool := if uDg u < 3 then ((uPl u, uDg u + 1, uTg u, uSn u, 10 * uFi u + v - 48, uSe u, uNs u, uT u, uG u, uF u, uE u), true) else (u, false)
def pTS (u : PSt) (v : Int32) : PSt × Bool := if v = 59 ∧ uNs u < 25 then ((0, uDg u, uTg u, uSn u, uFi u, uSe u, uNs u + 1, upd (uT u) (uNs u) (uTg u), upd (uG u) (uNs u) (uSn u), upd (uF u) (uNs u) (uFi u), upd (uE u) (uNs u) (uSe u)), true) else (u, false)
def pTO (u : PSt) (v : Int32) : PSt × Bool := if isD v then pTD (3, 0, uTg u, 61, 0, 0, uNs u, uT u, uG u, uF u, uE u) v else ((4, uDg u, uTg u, uSn u, v - 97, uSe u, uNs u, uT u, uG u, uF u, uE u), decide (isL v))
def pT (u : PSt) (v : Int32) : PSt × Bool :=
  if uPl u = 0 then ((1, uDg u, v - 97, uSn u, uFi u, uSe u, uNs u, uT u, uG u, uF u, uE u), decide (isL v))
  else if uPl u = 1 then ((2, uDg u, uTg u, uSn u, uFi u, uSe u, uNs u, uT u, uG u, uF u, uE u), decide (v = 61))
  else if uPl u = 2 then pTO u v
  else if uPl u = 4 then ((5, uDg u, uTg u, v, uFi u, uSe u, uNs u, uT u, uG u, uF u, uE u), decide (isS v))
  else if uPl u = 5 then ((6, uDg u, uTg u, uSn u, uFi u, v - 97, uNs u, uT u, uG u, uF u, uE u), decide (isL v))
  else pTS u v
def pRd (u : PSt) (v : Int32) (at_ : Nat) : PSt × Int32 := ((pT u v).1, if (pT u v).2 = true then -1 else nI at_)
def pRN (u : PSt) (v : Int32) (at_ : Nat) : PSt × Int32 :=
  if isD v then ((pTD u v).1, if (pTD u v).2 = true then -1 else nI at_)
  else if 255 < uFi u then (u, nI at_ - nI (uDg u))
  else ((pTS u v).1, if (pTS u v).2 = true then -1 else nI at_)
def pEE (u : PSt) (len : Nat) : Int32 := if uPl u = 3 ∧ 255 < uFi u then nI len - nI (uDg u) else nI len
def pSt (tx : Nat → Int32) (at_ : Nat) (u : PSt) : PSt × Int32 := if uPl u = 3 then pRN u (tx at_) at_ else pRd u (tx at_) at_
/-- the last n bytes of a text of len -/
def pP (tx : Nat → Int32) (len : Nat) : Nat → PSt → PSt × Int32
  | 0, u => (u, if uPl u = 0 then -1 else pEE u len)
  | n + 1, u => if (pSt tx (len - (n + 1)) u).2 = -1 then pP tx len n (pSt tx (len - (n + 1)) u).1 else pSt tx (len - (n + 1)) u
/-! what the calls ask of their arguments; the Nat of a number -/
abbrev okR (lo hi x : Int32) : Prop := lo ≤ x ∧ x ≤ hi
abbrev okG (x : Int32) : Prop := 0 ≤ x ∧ x < 8
abbrev okE (w : Nat) (x : Int32) : Prop := 0 ≤ x ∧ x < nI (ents w)
def tn (x : Int32) : Nat := x.toNatClampNeg
theorem tn_nI {n : Nat} (h : n < 2 ^ 31) : tn (nI n) = n := nI_clamp h
theorem rN_of {n : Nat} {x : Int32} (hn : n < 2 ^ 31) (h : 0 ≤ x ∧ x ≤ nI n) : ∃ k, k ≤ n ∧ x = nI k := nI_of2 (nI_toInt hn) (Int32.not_lt.mpr h.1) h.2
theorem op_of {w : Nat} {x : Int32} (hw8 : w ≤ 8) (h : okR 0 (nI (gr w)) x) : ∃ k, k ≤ gr w ∧ x = nI k := rN_of (by have := gr_le w hw8; omega) h
theorem en_of {w : Nat} {x : Int32} (hw8 : w ≤ 8) (h : okE w x) : ∃ k, k < ents w ∧ x = nI k := by
  have h1 := ents_le w hw8
  obtain ⟨j, hj, rfl⟩ := nI_of (Int32.not_lt.mpr h.1)
  exact ⟨j, (nI_ltI hj (by omega)).mp h.2, rfl⟩
theorem rg_of {x : Int32} (h : okG x) : ∃ k, k < 8 ∧ x = nI k := by
  obtain ⟨j, hj, rfl⟩ := nI_of (Int32.not_lt.mpr h.1)
  exact ⟨j, (nI_ltI (a := j) (b := 8) hj (by omega)).mp h.2, rfl⟩
def chB (fc : Nat → Int32) (b : Nat) : Int32 := if pcF fc b 2 < pcF fc b 1 then 2 else 1
def chF (fc fs : Nat → Int32) (a b : Nat) : Int32 := if pcF fc b 0 ≤ pcF fc b (chB fc b) ∧ ¬ wpP fs a b then 0 else chB fc b
def roF (p k wy : Int32) : Int32 :=
  if wy = 0 ∨ 2 * (p - (p >>> (k &&& 31)) * ((1 : Int32) <<< (k &&& 31))) < (1 : Int32) <<< (k &&& 31) then p >>> (k &&& 31)
  else if wy = 1 ∨ (1 : Int32) <<< (k &&& 31) < 2 * (p - (p >>> (k &&& 31)) * ((1 : Int32) <<< (k &&& 31))) then p >>> (k &&& 31) + 1
  else p >>> (k &&& 31) + (p >>> (k &&& 31) &&& 1)
def erF (a b : Nat) (kp wy : Int32) : UInt64 := FP.dsub (FP.i2d (roF (nI (a * b)) kp wy)) (FP.ddiv (FP.i2d (nI (a * b))) (FP.i2d ((1 : Int32) <<< (kp &&& 31))))
def enF (fs : Nat → Int32) (n wh : Nat) : Int32 := if wh = 0 then fs n else if wh = 1 then tv n else if wh = 2 then bc (tv n) &&& 1 else if wh = 3 then (if hsP fs n then 1 else 0) else wbF fs n
def cpF (fc : Nat → Int32) (G : Nat) (mt mo : Int32) (b : Nat) : Int32 := if pcF fc b mo ≤ pcF fc b mt then 0 else nI (G + 1)
/-- a hash goes on over n numbers -/
def dI (F : Nat → Int32) (h : Int64) : Nat → Int64
  | 0 => h
  | n + 1 => 31 * dI F h n + Int32.toInt64 (F n)
def dgF (w : Nat) (ac : Int64) (fc fs fr : Nat → Int32) (len cnt : Nat) : Int64 :=
  31 * (31 * dI fs (dI fr (31 * dI (numF w fc fs) (118823 + Int32.toInt64 (nI len)) 8 + ac) 8) (ents w) + Int32.toInt64 (fwF fs (gr w))) + Int32.toInt64 (nI cnt)
/-! repairing by the parity -/
def rpF (fs : Nat → Int32) (n : Nat) : Nat → Int32 := fun k => if k < n ∧ ¬ hsP fs k then tv k else fs k
theorem rp_0 {fs : Nat → Int32} : fs = rpF fs 0 := by
  funext k
  unfold rpF
  rw [if_neg (fun h => absurd h.1 (Nat.not_lt_zero _))]
theorem rp_self (fs : Nat → Int32) (i : Nat) : rpF fs i i = fs i := by
  unfold rpF
  rw [if_neg (fun h => absurd h.1 (Nat.lt_irrefl _))]
theorem rp_t {fs : Nat → Int32} {i : Nat} (h : hsP (rpF fs i) i) : hsP fs i := by
  unfold hsP at h ⊢
  rw [rp_self] at h
  exact h
theorem rp_b {fs : Nat → Int32} {i : Nat} (h : hsP fs i) : hsP (rpF fs i) i := by
  unfold hsP at h ⊢
  rw [rp_self]
  exact h
theorem rp_keep {fs : Nat → Int32} {i : Nat} (h : hsP fs i) : rpF fs i = rpF fs (i + 1) := by
  funext k
  unfold rpF
  by_cases hk : k = i
  · subst hk
    rw [if_neg (fun q => q.2 h), if_neg (fun q => q.2 h)]
  · by_cases h2 : k < i ∧ ¬ hsP fs k
    · rw [if_pos h2, if_pos ⟨by omega, h2.2⟩]
    · rw [if_neg h2, if_neg (fun q => h2 ⟨by omega, q.2⟩)]
theorem rp_put {fs : Nat → Int32} {i : Nat} (h : ¬ hsP fs i) : upd (rpF fs i) i (tv i) = rpF fs (i + 1) := by
  funext k
  unfold upd rpF
  by_cases hk : k = i
  · subst hk
    rw [if_pos rfl, if_pos ⟨by omega, h⟩]
  · rw [if_neg hk]
    by_cases h2 : k < i ∧ ¬ hsP fs k
    · rw [if_pos h2, if_pos ⟨by omega, h2.2⟩]
    · rw [if_neg h2, if_neg (fun q => h2 ⟨by omega, q.2⟩)]
/-! the count of wrong pairs, and of those that read an entry: as the class goes through them -/
def cwT (fs : Nat → Int32) (a b : Nat) (q : Int32 × (Nat → Int32)) : Int32 × (Nat → Int32) :=
  if wpP fs a b then
    (q.1 + (if a = b then 1 else 2), upd (upd q.2 (a + b) (q.2 (a + b) + (if a = b then 1 else 2))) (a - b) (upd q.2 (a + b) (q.2 (a + b) + (if a = b then 1 else 2)) (a - b) + (if a = b then 1 else 2)))
  else q
def cwR (fs : Nat → Int32) (a : Nat) : Nat → Int32 × (Nat → Int32) → Int32 × (Nat → Int32)
  | 0, q => q
  | b + 1, q => cwT fs a b (cwR fs a b q)
def cwA (fs : Nat → Int32) : Nat → Int32 × (Nat → Int32) → Int32 × (Nat → Int32)
  | 0, q => q
  | a + 1, q => cwR fs a (a + 1) (cwA fs a q)
def cwF (fs : Nat → Int32) (w : Nat) : Int32 × (Nat → Int32) := cwA fs (gr w + 1) (0, fun _ => 0)
/-- the entry with the most, and how many -/
def suF (F : Nat → Int32) : Nat → Int32 × Int32
  | 0 => (-1, 0)
  | n + 1 => if F n ≤ (suF F n).2 then suF F n else (nI n, F n)
/-! the statements of a text, one after the other: the registers, the cost -/
def exS (w : Nat) (fc fs : Nat → Int32) (u : PSt) (k : Nat) (q : (Nat → Int32) × Int32) : (Nat → Int32) × Int32 :=
  (upd q.1 (tn (uT u k)) (xvF w fs (fun j => tn (q.1 j)) (uG u k) (tn (uF u k)) (tn (uE u k))), q.2 + xkF fc (fun j => tn (q.1 j)) (uG u k) (tn (uE u k)))
def exF (w : Nat) (fc fs : Nat → Int32) (u : PSt) (fr : Nat → Int32) : Nat → (Nat → Int32) × Int32
  | 0 => (fr, 0)
  | k + 1 => exS w fc fs u k (exF w fc fs u fr k)
def rowOK (u : PSt) (k : Nat) : Prop := (∃ t, t < 8 ∧ uT u k = nI t) ∧ (∃ f, f < 2 ^ 31 ∧ uF u k = nI f ∧ (¬ uG u k = 61 → f < 8)) ∧ ∃ sd, sd < 8 ∧ uE u k = nI sd
def regOK (w : Nat) (fr : Nat → Int32) : Prop := ∀ j, j < 8 → fr j = nI (tn (fr j)) ∧ tn (fr j) ≤ gr w
theorem exS_e {w : Nat} {fc fs : Nat → Int32} {u : PSt} {k : Nat} {q : (Nat → Int32) × Int32} {t f sd : Nat} (hT : uT u k = nI t) (hF : uF u k = nI f) (hE : uE u k = nI sd) (ht : t < 2 ^ 31) (hf : f < 2 ^ 31) (hs : sd < 2 ^ 31) :
    exS w fc fs u k q = (upd q.1 t (xvF w fs (fun j => tn (q.1 j)) (uG u k) f sd), q.2 + xkF fc (fun j => tn (q.1 j)) (uG u k) sd) := by
  unfold exS
  rw [show uT u k = nI t from hT, show uF u k = nI f from hF, show uE u k = nI sd from hE, tn_nI ht, tn_nI hf, tn_nI hs]
