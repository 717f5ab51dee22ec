/-! PURE: facts of the words of 08 -/
theorem fw_zero {fs : Nat → Int32} {w : Nat} (hw8 : w ≤ 8) (h : sI (weF fs) (ents w) = 0) : fwF fs (gr w) = -1 := by
  sorry
theorem pTD_b (u : PSt) (v : Int32) (h1 : uPl u ≤ 6) (h2 : uDg u ≤ 3) (h3 : uNs u ≤ 25) : uPl (pTD u v).1 ≤ 6 ∧ uDg (pTD u v).1 ≤ 3 ∧ uNs (pTD u v).1 ≤ 25 := by
  unfold pTD
  split
  · exact ⟨h1, by show uDg u + 1 ≤ 3; omega, h3⟩
  · exact ⟨h1, h2, h3⟩
theorem pTS_b (u : PSt) (v : Int32) (h1 : uPl u ≤ 6) (h2 : uDg u ≤ 3) (h3 : uNs u ≤ 25) : uPl (pTS u v).1 ≤ 6 ∧ uDg (pTS u v).1 ≤ 3 ∧ uNs (pTS u v).1 ≤ 25 := by
  unfold pTS
  split
  · rename_i h
    exact ⟨Nat.zero_le _, h2, by show uNs u + 1 ≤ 25; omega⟩
  · exact ⟨h1, h2, h3⟩
theorem pTO_b (u : PSt) (v : Int32) (h2 : uDg u ≤ 3) (h3 : uNs u ≤ 25) : uPl (pTO u v).1 ≤ 6 ∧ uDg (pTO u v).1 ≤ 3 ∧ uNs (pTO u v).1 ≤ 25 := by
  unfold pTO
  split
  · exact pTD_b _ v (by show 3 ≤ 6; omega) (by show 0 ≤ 3; omega) h3
  · exact ⟨by show 4 ≤ 6; omega, h2, h3⟩
theorem pT_b (u : PSt) (v : Int32) (h1 : uPl u ≤ 6) (h2 : uDg u ≤ 3) (h3 : uNs u ≤ 25) : uPl (pT u v).1 ≤ 6 ∧ uDg (pT u v).1 ≤ 3 ∧ uNs (pT u v).1 ≤ 25 := by
  unfold pT
  split
  · exact ⟨by show 1 ≤ 6; omega, h2, h3⟩
  split
  · exact ⟨by show 2 ≤ 6; omega, h2, h3⟩
  split
  · exact pTO_b u v h2 h3
  split
  · exact ⟨by show 5 ≤ 6; omega, h2, h3⟩
  split
  · exact ⟨by show 6 ≤ 6; omega, h2, h3⟩
  · exact pTS_b u v h1 h2 h3
theorem pSt_b (tx : Nat → Int32) (at_ : Nat) (u : PSt) (h1 : uPl u ≤ 6) (h2 : uDg u ≤ 3) (h3 : uNs u ≤ 25) : uPl (pSt tx at_ u).1 ≤ 6 ∧ uDg (pSt tx at_ u).1 ≤ 3 ∧ uNs (pSt tx at_ u).1 ≤ 25 := by
  unfold pSt
  split
  · unfold pRN
    split
    · exact pTD_b u _ h1 h2 h3
    split
    · exact ⟨h1, h2, h3⟩
    · exact pTS_b u _ h1 h2 h3
  · exact pT_b u _ h1 h2 h3
theorem pP_s {tx : Nat → Int32} {len at_ : Nat} {u : PSt} {q : PSt × Int32} (h : at_ < len) (e : pSt tx at_ u = q) (hq : q.2 = -1) : pP tx len (len - at_) u = pP tx len (len - (at_ + 1)) q.1 := by
  obtain ⟨n, hn⟩ : ∃ n, len - at_ = n + 1 := ⟨len - at_ - 1, by omega⟩
  have h1 : len - (n + 1) = at_ := by omega
  rw [hn, show len - (at_ + 1) = n by omega, pP, h1, e, if_pos hq]
theorem pP_x {tx : Nat → Int32} {len at_ : Nat} {u : PSt} {q : PSt × Int32} (h : at_ < len) (e : pSt tx at_ u = q) (hq : ¬ q.2 = -1) : pP tx len (len - at_) u = q := by
  obtain ⟨n, hn⟩ : ∃ n, len - at_ = n + 1 := ⟨len - at_ - 1, by omega⟩
  have h1 : len - (n + 1) = at_ := by omega
  rw [hn, pP, h1, e, if_neg hq]
theorem er_nan1 {x kp : Int32} (h : okR 0 16 kp) : vf_n64 (FP.ddiv (FP.i2d x) (FP.i2d ((1 : Int32) <<< (kp &&& 31)))) := by
  sorry
theorem er_nan2 {x y kp : Int32} (h : okR 0 16 kp) : vf_n64 (FP.dsub (FP.i2d y) (FP.ddiv (FP.i2d x) (FP.i2d ((1 : Int32) <<< (kp &&& 31))))) := by
  sorry
theorem cw_zero {fs : Nat → Int32} {w : Nat} (hw8 : w ≤ 8) (h : sI (weF fs) (ents w) = 0) : cwF fs w = (0, fun _ => 0) := by
  sorry
theorem exS_ok {w : Nat} {fc fs : Nat → Int32} {u : PSt} {k : Nat} {q : (Nat → Int32) × Int32} (hw8 : w ≤ 8) (h : regOK w q.1) (hr : rowOK u k) : regOK w (exS w fc fs u k q).1 := by
  sorry
