/-! RUNNING A TEXT: the class's rows, the reference's text -/
theorem nuS_v {tx : Nat → Int32} {ln : Nat} : ∀ (n a m : Nat), n ≤ 3 → (m + 1) * 10 ^ n ≤ 1000 → ∃ k, k < 1000 ∧ (nuS tx ln n a (nI m)).1 = nI k
  | 0, a, m, _, h => ⟨m, by rw [Nat.pow_zero] at h; omega, rfl⟩
  | n + 1, a, m, hn, h => by
    rw [nuS]
    by_cases hs : seP tx ln a 48 57
    · rw [if_pos hs]
      obtain ⟨d, hd, e⟩ := rN_of (x := tx a) (n := 57) (by omega) ⟨Int32.le_trans (by decide) hs.2.1, hs.2.2⟩
      have h48 : 48 ≤ d := by
        have h1 := hs.2.1
        rw [e] at h1
        exact (nI_leI (a := 48) (b := d) (by omega) (by omega)).mp h1
      have e2 : 10 * nI m + tx a - 48 = nI (10 * m + (d - 48)) := by
        rw [e, show (10 : Int32) = nI 10 from rfl, pk_mul, nI_add, show (48 : Int32) = nI 48 from rfl, pk_sub (by omega), show 10 * m + d - 48 = 10 * m + (d - 48) by omega]
      rw [e2]
      refine nuS_v n (a + 1) (10 * m + (d - 48)) (by omega) ?_
      have h3 : (10 * m + (d - 48) + 1) ≤ (m + 1) * 10 := by omega
      have h4 : (10 * m + (d - 48) + 1) * 10 ^ n ≤ (m + 1) * 10 * 10 ^ n := Nat.mul_le_mul_right _ h3
      rw [Nat.pow_succ, Nat.mul_comm (10 ^ n) 10, ← Nat.mul_assoc] at h
      exact Nat.le_trans h4 h
    · rw [if_neg hs]
      have hp : 1 ≤ 10 ^ (n + 1) := Nat.le_trans Nat.one_le_two_pow (Nat.pow_le_pow_left (by omega) (n + 1))
      have h4 : (m + 1) * 1 ≤ (m + 1) * 10 ^ (n + 1) := Nat.mul_le_mul_left _ hp
      have h5 := Nat.le_trans h4 h
      exact ⟨m, by omega, rfl⟩
theorem nu3 (tx : Nat → Int32) (ln a : Nat) : ∃ k, k < 1000 ∧ (nuS tx ln 3 a 0).1 = nI k := nuS_v (tx := tx) (ln := ln) 3 a 0 (Nat.le_refl _) (by decide)
theorem lt_97 {x : Int32} (h : okR 97 104 x) : x - 97 = nI (lx x) ∧ lx x < 8 := by
  obtain ⟨e, h8⟩ := lx_e h
  refine ⟨?_, h8⟩
  generalize lx x = k at e h8 ⊢
  rw [e, show (97 : Int32) = nI 97 from rfl, pk_sub (by omega), show 97 + k - 97 = k by omega]
/-- a good statement's row is one that can run -/
theorem st_ok {tx : Nat → Int32} {ln a : Nat} (hl : ln ≤ 100) (ha : a < ln) (h : (foF tx ln a).1 = -1) : (∃ t, t < 8 ∧ tx a - 97 = nI t) ∧ (∃ f, f < 2 ^ 31 ∧ stF tx ln a = nI f ∧ (¬ stG tx ln a = 61 → f < 8)) ∧ ∃ sd, sd < 8 ∧ stE tx ln a = nI sd := by
  obtain ⟨h1, h2⟩ := foF_ok hl ha h
  refine ⟨⟨lx (tx a), (lt_97 h1.2).2, (lt_97 h1.2).1⟩, ?_⟩
  unfold stF stG stE
  rcases h2 with q | q
  · rw [if_pos q.1, if_pos q.1, if_pos q.1]
    obtain ⟨k, hk, e⟩ := nu3 tx ln (a + 2)
    exact ⟨⟨k, by omega, e, fun z => absurd rfl z⟩, 0, by omega, rfl⟩
  · rw [if_neg q.1, if_neg q.1, if_neg q.1]
    have k1 := lt_97 q.2.1.2
    have k2 := lt_97 q.2.2.2.1.2
    exact ⟨⟨lx (tx (a + 2)), by omega, k1.1, fun _ => k1.2⟩, lx (tx (a + 4)), k2.2, k2.1⟩
theorem mn_mx (b : Nat) : mnF b = mxF b := by
  unfold mnF mxF
  by_cases h : (31 : Int32) < nI b
  · rw [if_pos h, if_neg (Int32.not_le.mpr h)]
  · rw [if_neg h, if_pos (Int32.not_lt.mp h)]
theorem is_of {v : Int32} (h : isS v) : ¬ v = 61 := by
  rcases h with h | h | h | h | h | h <;> rw [h] <;> decide
section Runs
variable {w : Nat} {ac ma : Int64} {fc fs fr rw : Nat → Int32}
theorem rel_xr (h : StRel w ac fc fs fr rw ma) {a b : Nat} {sg : Int32} (ha : a ≤ gr w) (hb : b ≤ gr w) (hs : isS sg) : xrF fs a sg b = byF rw a sg b := by
  have r0 := rel_pr h ha hb (mt := 0) ⟨by decide, by decide⟩
  have r1 := rel_pr h ha hb (mt := 1) ⟨by decide, by decide⟩
  have r2 := rel_pr h ha hb (mt := 2) ⟨by decide, by decide⟩
  unfold xrF byF
  rw [mn_mx]
  rcases hs with rfl | rfl | rfl | rfl | rfl | rfl
  · exact r2
  · exact r0
  · rfl
  · rfl
  · rfl
  · exact r1
theorem rel_xc (h : StRel w ac fc fs fr rw ma) {b : Nat} {sg : Int32} (hb : b ≤ gr w) (hs : isS sg) : xcF fc sg b = pbF rw sg b := by
  have hg := gr_le w h.w8
  have r0 := rel_pc h (b := b) (mt := 0) (by omega) ⟨by decide, by decide⟩
  have r1 := rel_pc h (b := b) (mt := 1) (by omega) ⟨by decide, by decide⟩
  have r2 := rel_pc h (b := b) (mt := 2) (by omega) ⟨by decide, by decide⟩
  have c1 := h.rc 1 (by omega)
  have c2 := h.rc 2 (by omega)
  unfold xcF pbF moF
  rw [mn_mx]
  rcases hs with rfl | rfl | rfl | rfl | rfl | rfl
  · rw [if_neg (show ¬ (35 : Int32) = 43 by decide), if_neg (show ¬ (35 : Int32) = 45 by decide), if_neg (show ¬ (35 : Int32) = 62 by decide), if_neg (show ¬ (35 : Int32) = 42 by decide), if_neg (show ¬ (35 : Int32) = 120 by decide), if_pos rfl]
    exact r2
  · rw [if_neg (show ¬ (42 : Int32) = 43 by decide), if_neg (show ¬ (42 : Int32) = 45 by decide), if_neg (show ¬ (42 : Int32) = 62 by decide), if_pos rfl, if_neg (show ¬ (42 : Int32) = 35 by decide), if_pos rfl]
    exact r0
  · rw [if_pos rfl, if_neg (show ¬ (43 : Int32) = 35 by decide), if_neg (show ¬ (43 : Int32) = 42 by decide), if_pos rfl]
    exact c1.symm
  · rw [if_neg (show ¬ (45 : Int32) = 43 by decide), if_pos rfl, if_neg (show ¬ (45 : Int32) = 35 by decide), if_neg (show ¬ (45 : Int32) = 42 by decide), if_neg (show ¬ (45 : Int32) = 43 by decide), if_pos rfl]
    exact c1.symm
  · rw [if_neg (show ¬ (62 : Int32) = 43 by decide), if_neg (show ¬ (62 : Int32) = 45 by decide), if_pos rfl, if_neg (show ¬ (62 : Int32) = 35 by decide), if_neg (show ¬ (62 : Int32) = 42 by decide), if_neg (show ¬ (62 : Int32) = 43 by decide), if_neg (show ¬ (62 : Int32) = 45 by decide), if_neg (show ¬ (62 : Int32) = 120 by decide)]
    rw [Int32.mul_comm, ← c2]
  · rw [if_neg (show ¬ (120 : Int32) = 43 by decide), if_neg (show ¬ (120 : Int32) = 45 by decide), if_neg (show ¬ (120 : Int32) = 62 by decide), if_neg (show ¬ (120 : Int32) = 42 by decide), if_pos rfl, if_neg (show ¬ (120 : Int32) = 35 by decide), if_neg (show ¬ (120 : Int32) = 42 by decide), if_neg (show ¬ (120 : Int32) = 43 by decide), if_neg (show ¬ (120 : Int32) = 45 by decide), if_pos rfl]
    exact r1
theorem and_ok {w : Nat} (hw8 : w ≤ 8) (v : Int32) : okR 0 (nI (gr w)) (v &&& nI (gr w)) := by
  have h1 := gr_le w hw8
  obtain ⟨k, hk, e⟩ := and_gr hw8 v
  rw [e]
  exact ⟨nI_pos' (by omega), nI_le hk (by omega)⟩
/-- one statement: the class's and the reference's -/
theorem rel_ex (h : StRel w ac fc fs fr rw ma) {tx : Nat → Int32} {ln a k : Nat} {u : PSt} {co : Int32} (hl : ln ≤ 100) (ha : a < ln) (hf : (foF tx ln a).1 = -1) (eT : uT u k = tx a - 97) (eG : uG u k = stG tx ln a) (eF : uF u k = stF tx ln a) (eE : uE u k = stE tx ln a) :
    StRel w ac fc fs (exS w fc fs u k (fr, co)).1 (roX rw w tx ln a).1 ma ∧ (exS w fc fs u k (fr, co)).2 = co + (roX rw w tx ln a).2.1 := by
  obtain ⟨h1, h2⟩ := foF_ok hl ha hf
  have t1 := lt_97 h1.2
  have hg := gr_le w h.w8
  have hreg : ∀ j, j < 8 → rw (4 + j) = fr j ∧ tn (fr j) ≤ gr w := fun j hj => ⟨h.rr j hj, (h.rg j hj).2⟩
  have eT' : uT u k = nI (lx (tx a)) := eT.trans t1.1
  rcases h2 with q | q
  · obtain ⟨f, hfk, ef⟩ := nu3 tx ln (a + 2)
    have eG' : uG u k = 61 := by rw [eG]; exact if_pos q.1
    have eF' : uF u k = nI f := by rw [eF]; exact (if_pos q.1).trans ef
    have eE' : uE u k = nI 0 := by rw [eE]; exact if_pos q.1
    rw [exS_e eT' eF' eE' (by omega) (by omega) (by omega), roX_n q.1, eG', ef]
    unfold xvF xkF
    rw [if_pos rfl, if_pos rfl]
    exact ⟨wr_reg h t1.2 (and_ok h.w8 _), rfl⟩
  · have k1 := lt_97 q.2.1.2
    have k2 := lt_97 q.2.2.2.1.2
    have eG' : uG u k = tx (a + 2 + 1) := by rw [eG]; exact if_neg q.1
    have eF' : uF u k = nI (lx (tx (a + 2))) := by rw [eF]; exact (if_neg q.1).trans k1.1
    have eE' : uE u k = nI (lx (tx (a + 2 + 2))) := by rw [eE]; exact (if_neg q.1).trans k2.1
    have n61 := is_of q.2.2.1.2
    obtain ⟨ra, ba⟩ := hreg _ k1.2
    obtain ⟨rb, bb⟩ := hreg _ k2.2
    have x1 := rel_xr h ba bb q.2.2.1.2
    have x2 := rel_xc h bb q.2.2.1.2
    rw [exS_e eT' eF' eE' (by omega) (by omega) (by omega), roX_l q.1, eG', ra, rb]
    unfold xvF xkF
    rw [if_neg n61, if_neg n61]
    refine ⟨?_, ?_⟩
    · show StRel w ac fc fs (upd fr (lx (tx a)) (xrF fs (tn (fr (lx (tx (a + 2))))) (tx (a + 2 + 1)) (tn (fr (lx (tx (a + 2 + 2))))) &&& nI (gr w))) (upd rw (4 + lx (tx a)) (byF rw (tn (fr (lx (tx (a + 2))))) (tx (a + 2 + 1)) (tn (fr (lx (tx (a + 2 + 2))))) &&& nI (gr w))) ma
      rw [x1]
      exact wr_reg h t1.2 (and_ok h.w8 _)
    · show co + xcF fc (tx (a + 2 + 1)) (tn (fr (lx (tx (a + 2 + 2))))) = co + pbF rw (tx (a + 2 + 1)) (tn (fr (lx (tx (a + 2 + 2)))))
      rw [x2]
/-- at the text's end -/
theorem rel_textE {tx : Nat → Int32} {ln n a : Nat} {u : PSt} (ha : ln - a = 0) (h0 : uPl u = 0) :
    (faS tx ln n a).1 = (pP tx ln (ln - a) u).2 ∧
    ((pP tx ln (ln - a) u).2 = -1 → uNs u ≤ uNs (pP tx ln (ln - a) u).1 ∧ (∀ k, k < uNs u → uT (pP tx ln (ln - a) u).1 k = uT u k ∧ uG (pP tx ln (ln - a) u).1 k = uG u k ∧ uF (pP tx ln (ln - a) u).1 k = uF u k ∧ uE (pP tx ln (ln - a) u).1 k = uE u k) ∧
      ((∀ k, k < uNs u → rowOK u k) → ∀ k, k < uNs (pP tx ln (ln - a) u).1 → rowOK (pP tx ln (ln - a) u).1 k) ∧
      ∀ (w : Nat) (ac ma : Int64) (fc fs fr rw : Nat → Int32) (f0 : Nat → Int32) (co : Int32), exF w fc fs (pP tx ln (ln - a) u).1 f0 (uNs u) = (fr, co) → StRel w ac fc fs fr rw ma →
        StRel w ac fc fs (exF w fc fs (pP tx ln (ln - a) u).1 f0 (uNs (pP tx ln (ln - a) u).1)).1 (ruS w tx ln n (rw, co, a)).1 ma ∧ (exF w fc fs (pP tx ln (ln - a) u).1 f0 (uNs (pP tx ln (ln - a) u).1)).2 = (ruS w tx ln n (rw, co, a)).2.1) := by
  have g : ¬ a < ln := by omega
  have e : pP tx ln (ln - a) u = (u, -1) := by rw [ha, pP, if_pos h0]
  rw [e, faS_e g]
  refine ⟨rfl, fun _ => ⟨Nat.le_refl _, fun k _ => ⟨rfl, rfl, rfl, rfl⟩, fun h => h, fun w ac ma fc fs fr rw f0 co hex hrel => ?_⟩⟩
  have hru : ruS w tx ln n (rw, co, a) = (rw, co, a) := by
    cases n with
    | zero => rfl
    | succ n => rw [ruS, if_neg g]
  rw [hru]
  show StRel w ac fc fs (exF w fc fs u f0 (uNs u)).1 rw ma ∧ (exF w fc fs u f0 (uNs u)).2 = co
  rw [hex]
  exact ⟨hrel, rfl⟩
/-- the whole text, from a good place on: read so far uNs u statements of it -/
theorem rel_text {tx : Nat → Int32} {ln : Nat} (hl : ln ≤ 100) : ∀ (n a : Nat) (u : PSt), ln - a ≤ n → a ≤ ln → uPl u = 0 → uDg u ≤ 3 → 4 * uNs u ≤ a →
    (faS tx ln n a).1 = (pP tx ln (ln - a) u).2 ∧
    ((pP tx ln (ln - a) u).2 = -1 → uNs u ≤ uNs (pP tx ln (ln - a) u).1 ∧ (∀ k, k < uNs u → uT (pP tx ln (ln - a) u).1 k = uT u k ∧ uG (pP tx ln (ln - a) u).1 k = uG u k ∧ uF (pP tx ln (ln - a) u).1 k = uF u k ∧ uE (pP tx ln (ln - a) u).1 k = uE u k) ∧
      ((∀ k, k < uNs u → rowOK u k) → ∀ k, k < uNs (pP tx ln (ln - a) u).1 → rowOK (pP tx ln (ln - a) u).1 k) ∧
      ∀ (w : Nat) (ac ma : Int64) (fc fs fr rw : Nat → Int32) (f0 : Nat → Int32) (co : Int32), exF w fc fs (pP tx ln (ln - a) u).1 f0 (uNs u) = (fr, co) → StRel w ac fc fs fr rw ma →
        StRel w ac fc fs (exF w fc fs (pP tx ln (ln - a) u).1 f0 (uNs (pP tx ln (ln - a) u).1)).1 (ruS w tx ln n (rw, co, a)).1 ma ∧ (exF w fc fs (pP tx ln (ln - a) u).1 f0 (uNs (pP tx ln (ln - a) u).1)).2 = (ruS w tx ln n (rw, co, a)).2.1) := by
  intro n
  induction n with
  | zero => intro a u hn ha h0 h3 h4; exact rel_textE (by omega) h0
  | succ n ih =>
    intro a u hn ha h0 h3 h4
    rcases Nat.lt_or_ge a ln with g | g
    · obtain ⟨s1, s2⟩ := pa_stm hl g h0 h3 h4
      rw [faS, if_pos g]
      by_cases hf : (foF tx ln a).1 = -1
      · obtain ⟨q, e, q0, q3, qn, qT, qG, qF, qE⟩ := s1 hf
        have hb := foF_b (tx := tx) g hl
        have hlt := hb.2.2 hf
        have hok := st_ok hl g hf
        rw [if_pos hf, e]
        -- four bytes at least
        have h44 : a + 4 ≤ (foF tx ln a).2 := by
          rcases (foF_ok hl g hf).2 with z | z
          · have l2 := z.1.1
            have en : nuS tx ln 3 (a + 2) 0 = nuS tx ln 2 (a + 2 + 1) (10 * 0 + tx (a + 2) - 48) := by rw [nuS, if_pos z.1]
            have hb2 := nuS_b (tx := tx) (ln := ln) 2 (a + 2 + 1) (10 * 0 + tx (a + 2) - 48) (by omega)
            rw [← en] at hb2
            omega
          · omega
        obtain ⟨i1, i2⟩ := ih (foF tx ln a).2 q (by omega) hb.2.1 q0 q3 (by omega)
        refine ⟨i1, fun hz => ?_⟩
        obtain ⟨j1, j2, j3, j4⟩ := i2 hz
        have hk : uNs u < uNs q := by omega
        have rowU : ∀ k, k < uNs u → uT q k = uT u k ∧ uG q k = uG u k ∧ uF q k = uF u k ∧ uE q k = uE u k := fun k hk => by
          rw [qT, qG, qF, qE]
          unfold upd
          rw [if_neg (by omega), if_neg (by omega), if_neg (by omega), if_neg (by omega)]
          exact ⟨rfl, rfl, rfl, rfl⟩
        have rowN : uT q (uNs u) = tx a - 97 ∧ uG q (uNs u) = stG tx ln a ∧ uF q (uNs u) = stF tx ln a ∧ uE q (uNs u) = stE tx ln a := by
          rw [qT, qG, qF, qE]
          unfold upd
          rw [if_pos rfl, if_pos rfl, if_pos rfl, if_pos rfl]
          exact ⟨rfl, rfl, rfl, rfl⟩
        refine ⟨by omega, fun k hk => ?_, fun hr => j3 (fun k hk => ?_), fun w ac ma fc fs fr rw f0 co hex hrel => ?_⟩
        · obtain ⟨a1, a2, a3, a4⟩ := j2 k (by omega)
          obtain ⟨b1, b2, b3, b4⟩ := rowU k hk
          exact ⟨a1.trans b1, a2.trans b2, a3.trans b3, a4.trans b4⟩
        · rcases Nat.lt_or_ge k (uNs u) with z | z
          · obtain ⟨b1, b2, b3, b4⟩ := rowU k z
            have := hr k z
            unfold rowOK at this ⊢
            rw [b1, b2, b3, b4]
            exact this
          · have : k = uNs u := by omega
            subst this
            unfold rowOK
            rw [rowN.1, rowN.2.1, rowN.2.2.1, rowN.2.2.2]
            exact hok
        · obtain ⟨a1, a2, a3, a4⟩ := j2 (uNs u) hk
          have hx := rel_ex (u := (pP tx ln (ln - (foF tx ln a).2) q).1) (k := uNs u) (co := co) hrel hl g hf (a1.trans rowN.1) (a2.trans rowN.2.1) (a3.trans rowN.2.2.1) (a4.trans rowN.2.2.2)
          have hst0 : exF w fc fs (pP tx ln (ln - (foF tx ln a).2) q).1 f0 (uNs q) = exS w fc fs (pP tx ln (ln - (foF tx ln a).2) q).1 (uNs u) (fr, co) := by
            rw [qn, exF, hex]
          have hstep : exF w fc fs (pP tx ln (ln - (foF tx ln a).2) q).1 f0 (uNs q) = ((exS w fc fs (pP tx ln (ln - (foF tx ln a).2) q).1 (uNs u) (fr, co)).1, (exS w fc fs (pP tx ln (ln - (foF tx ln a).2) q).1 (uNs u) (fr, co)).2) := hst0
          have hro : (roX rw w tx ln a).2.2 = (foF tx ln a).2 := foF_ro hl g hf
          have hru : ruS w tx ln (n + 1) (rw, co, a) = ruS w tx ln n ((roX rw w tx ln a).1, co + (roX rw w tx ln a).2.1, (foF tx ln a).2) := by
            rw [ruS, if_pos g, hro]
          rw [hru, ← hx.2]
          exact j4 w ac ma fc fs _ _ f0 _ hstep hx.1
      · rw [if_neg hf]
        exact ⟨(s2 hf).symm, fun hz => absurd ((s2 hf).symm.trans hz) hf⟩
    · exact rel_textE (by omega) h0
/-- what run needs, and what it gives -/
theorem rel_run (h : StRel w ac fc fs fr rw ma) {tx : Nat → Int32} {len : Nat} (hl : len ≤ 100) {u : PSt} {qq : PSt × Int32} (hd : uDg u ≤ 3) (hq : pP tx len len (0, uDg u, uTg u, uSn u, uFi u, uSe u, 0, uT u, uG u, uF u, uE u) = qq) :
    (faS tx len len 0).1 = qq.2 ∧ uNs qq.1 ≤ 25 ∧ uDg qq.1 ≤ 3 ∧ (qq.2 = -1 → ∀ k, k < uNs qq.1 → rowOK qq.1 k) ∧
    (qq.2 = -1 → StRel w ac fc fs (exF w fc fs qq.1 fr (uNs qq.1)).1 (ruS w tx len len (rw, 0, 0)).1 ma ∧ (exF w fc fs qq.1 fr (uNs qq.1)).2 = (ruS w tx len len (rw, 0, 0)).2.1) := by
  have hbd : ∀ (n : Nat) (v : PSt), uPl v ≤ 6 → uDg v ≤ 3 → uNs v ≤ 25 → uDg (pP tx len n v).1 ≤ 3 ∧ uNs (pP tx len n v).1 ≤ 25 := by
    intro n
    induction n with
    | zero => intro v _ h2 h3; exact ⟨h2, h3⟩
    | succ n ih =>
      intro v h1 h2 h3
      obtain ⟨b1, b2, b3⟩ := pSt_b tx (len - (n + 1)) v h1 h2 h3
      rw [pP]
      by_cases hz : (pSt tx (len - (n + 1)) v).2 = -1
      · rw [if_pos hz]
        exact ih _ b1 b2 b3
      · rw [if_neg hz]
        exact ⟨b2, b3⟩
  obtain ⟨k1, k2⟩ := rel_text (tx := tx) hl len 0 (0, uDg u, uTg u, uSn u, uFi u, uSe u, 0, uT u, uG u, uF u, uE u) (by omega) (Nat.zero_le _) rfl hd (Nat.le_refl _)
  have hb2 := hbd len (0, uDg u, uTg u, uSn u, uFi u, uSe u, 0, uT u, uG u, uF u, uE u) (Nat.zero_le _) hd (Nat.zero_le _)
  rw [Nat.sub_zero, hq] at k1 k2
  rw [hq] at hb2
  refine ⟨k1, hb2.2, hb2.1, fun hz => (k2 hz).2.2.1 (fun k hk => absurd hk (Nat.not_lt_zero _)), fun hz => (k2 hz).2.2.2 w ac ma fc fs fr rw fr 0 rfl h⟩
end Runs
