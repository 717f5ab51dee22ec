/-! THE TEXT: the class reads it byte by byte, the reference statement by statement -/
section Text
variable {tx : Nat → Int32} {ln : Nat}
theorem pa_go {a : Nat} {u q : PSt} (h : a < ln) (h3 : ¬ uPl u = 3) (e : pT u (tx a) = (q, true)) : pP tx ln (ln - a) u = pP tx ln (ln - (a + 1)) q := by
  have e1 : pSt tx a u = (q, -1) := by
    unfold pSt
    rw [if_neg h3]
    unfold pRd
    rw [e]
    rfl
  exact pP_s h e1 rfl
theorem pa_no {a : Nat} {u : PSt} (h : a ≤ ln) (hl : ln ≤ 100) (h0 : a < ln ∨ ¬ uPl u = 0) (h3 : ¬ uPl u = 3) (e : a < ln → (pT u (tx a)).2 = false) : (pP tx ln (ln - a) u).2 = nI a := by
  rcases Nat.lt_or_ge a ln with g | g
  · have e1 : (pSt tx a u).2 = nI a := by
      unfold pSt
      rw [if_neg h3]
      unfold pRd
      rw [e g]
      rfl
    have h2 := pP_x (tx := tx) (u := u) g rfl (by rw [e1]; exact nI_m1 (by omega))
    rw [h2, e1]
  · have e2 : ln - a = 0 := by omega
    have e3 : ln = a := by omega
    rw [e2, pP, if_neg (by rcases h0 with q | q; exact absurd q (by omega); exact q)]
    show pEE u ln = nI a
    unfold pEE
    rw [if_neg (fun q => h3 q.1), e3]
/-- a byte that isn't a digit, behind a number -/
theorem pa_stop {a dg ns : Nat} {tg sn v se : Int32} {T G F E : Nat → Int32} (hl : ln ≤ 100) (ha : a ≤ ln) (hdg : dg ≤ a) (hns : 4 * ns + 3 ≤ a) (hd : ¬ seP tx ln a 48 57) :
    (255 < v → (pP tx ln (ln - a) (3, dg, tg, sn, v, se, ns, T, G, F, E)).2 = nI (a - dg)) ∧
    (¬ 255 < v → seP tx ln a 59 59 → pP tx ln (ln - a) (3, dg, tg, sn, v, se, ns, T, G, F, E) = pP tx ln (ln - (a + 1)) (0, dg, tg, sn, v, se, ns + 1, upd T ns tg, upd G ns sn, upd F ns v, upd E ns se)) ∧
    (¬ 255 < v → ¬ seP tx ln a 59 59 → (pP tx ln (ln - a) (3, dg, tg, sn, v, se, ns, T, G, F, E)).2 = nI a) := by
  have hsub : nI a - nI dg = nI (a - dg) := pk_sub hdg
  rcases Nat.lt_or_ge a ln with g | g
  · have hnd : ¬ isD (tx a) := fun q => hd ⟨g, q⟩
    have hst : pSt tx a (3, dg, tg, sn, v, se, ns, T, G, F, E) = pRN (3, dg, tg, sn, v, se, ns, T, G, F, E) (tx a) a := if_pos rfl
    have hrn : pRN (3, dg, tg, sn, v, se, ns, T, G, F, E) (tx a) a = if 255 < v then ((3, dg, tg, sn, v, se, ns, T, G, F, E), nI a - nI dg) else ((pTS (3, dg, tg, sn, v, se, ns, T, G, F, E) (tx a)).1, if (pTS (3, dg, tg, sn, v, se, ns, T, G, F, E) (tx a)).2 = true then -1 else nI a) := if_neg hnd
    rw [hrn] at hst
    refine ⟨fun hv => ?_, fun hv hs => ?_, fun hv hs => ?_⟩
    · rw [if_pos hv, hsub] at hst
      rw [pP_x g hst (nI_m1 (by omega))]
    · have e : tx a = 59 := Int32.le_antisymm hs.2.2 hs.2.1
      have hts : pTS (3, dg, tg, sn, v, se, ns, T, G, F, E) (tx a) = ((0, dg, tg, sn, v, se, ns + 1, upd T ns tg, upd G ns sn, upd F ns v, upd E ns se), true) := if_pos ⟨e, by show ns < 25; omega⟩
      rw [if_neg hv, hts] at hst
      exact pP_s g hst rfl
    · have hne : ¬ (tx a = 59 ∧ ns < 25) := fun q => hs ⟨g, by rw [q.1]; exact Int32.le_refl _, by rw [q.1]; exact Int32.le_refl _⟩
      have hts : pTS (3, dg, tg, sn, v, se, ns, T, G, F, E) (tx a) = ((3, dg, tg, sn, v, se, ns, T, G, F, E), false) := if_neg hne
      rw [if_neg hv, hts] at hst
      have hst2 : pSt tx a (3, dg, tg, sn, v, se, ns, T, G, F, E) = ((3, dg, tg, sn, v, se, ns, T, G, F, E), nI a) := hst
      rw [pP_x g hst2 (nI_m1 (by omega))]
  · have e2 : ln - a = 0 := by omega
    have e3 : ln = a := by omega
    have h0 : pP tx ln (ln - a) (3, dg, tg, sn, v, se, ns, T, G, F, E) = ((3, dg, tg, sn, v, se, ns, T, G, F, E), pEE (3, dg, tg, sn, v, se, ns, T, G, F, E) ln) := by
      rw [e2, pP, if_neg (show ¬ (3 : Nat) = 0 by omega)]
    rw [h0]
    refine ⟨fun hv => ?_, fun hv hs => absurd hs.1 (by omega), fun hv hs => ?_⟩
    · have e4 : pEE (3, dg, tg, sn, v, se, ns, T, G, F, E) ln = nI ln - nI dg := if_pos ⟨rfl, hv⟩
      show pEE (3, dg, tg, sn, v, se, ns, T, G, F, E) ln = _
      rw [e4, e3]
      exact hsub
    · have e4 : pEE (3, dg, tg, sn, v, se, ns, T, G, F, E) ln = nI ln := if_neg (fun q => hv q.2)
      show pEE (3, dg, tg, sn, v, se, ns, T, G, F, E) ln = _
      rw [e4, e3]
theorem semi_nd {a : Nat} (h : seP tx ln a 59 59) : ¬ seP tx ln a 48 57 := by
  intro q
  have e : tx a = 59 := Int32.le_antisymm h.2.2 h.2.1
  have h1 := q.2.2
  rw [e] at h1
  exact absurd h1 (by decide)
/-- a number, behind dg of its digits: no further one -/
theorem pa_numX (hl : ln ≤ 100) {n a dg : Nat} {v : Int32} {tg sn se : Int32} {ns : Nat} {T G F E : Nat → Int32} (hn : dg ≤ 3) (ha : a ≤ ln) (hdg : dg ≤ a) (hns : 4 * ns + 3 ≤ a) (hd : ¬ seP tx ln a 48 57) :
    ((¬ (nuS tx ln n a v).1 ≤ 255 ∧ ¬ seP tx ln (nuS tx ln n a v).2 48 57) → (pP tx ln (ln - a) (3, dg, tg, sn, v, se, ns, T, G, F, E)).2 = nI (a - dg)) ∧
    (¬ (¬ (nuS tx ln n a v).1 ≤ 255 ∧ ¬ seP tx ln (nuS tx ln n a v).2 48 57) → seP tx ln (nuS tx ln n a v).2 59 59 → ∃ dg', dg' ≤ 3 ∧ pP tx ln (ln - a) (3, dg, tg, sn, v, se, ns, T, G, F, E) = pP tx ln (ln - ((nuS tx ln n a v).2 + 1)) (0, dg', tg, sn, (nuS tx ln n a v).1, se, ns + 1, upd T ns tg, upd G ns sn, upd F ns (nuS tx ln n a v).1, upd E ns se)) ∧
    (¬ (¬ (nuS tx ln n a v).1 ≤ 255 ∧ ¬ seP tx ln (nuS tx ln n a v).2 48 57) → ¬ seP tx ln (nuS tx ln n a v).2 59 59 → (pP tx ln (ln - a) (3, dg, tg, sn, v, se, ns, T, G, F, E)).2 = nI (nuS tx ln n a v).2) := by
  have e : (nuS tx ln n a v) = (v, a) := nuS_x hd
  rw [e]
  obtain ⟨h1, h2, h3⟩ := pa_stop (tg := tg) (sn := sn) (v := v) (se := se) (T := T) (G := G) (F := F) (E := E) hl ha hdg hns hd
  refine ⟨fun q => h1 (Int32.not_le.mp q.1), fun q hs => ?_, fun q hs => ?_⟩
  · have hv : ¬ 255 < v := fun k => q ⟨Int32.not_le.mpr k, hd⟩
    exact ⟨dg, hn, h2 hv hs⟩
  · have hv : ¬ 255 < v := fun k => q ⟨Int32.not_le.mpr k, hd⟩
    exact h3 hv hs
/-- a number, behind dg of its digits -/
theorem pa_num (hl : ln ≤ 100) (tg sn se : Int32) (ns : Nat) (T G F E : Nat → Int32) : ∀ (n a dg : Nat) (v : Int32), n + dg = 3 → a ≤ ln → dg ≤ a → 4 * ns + 3 ≤ a →
    ((¬ (nuS tx ln n a v).1 ≤ 255 ∧ ¬ seP tx ln (nuS tx ln n a v).2 48 57) → (pP tx ln (ln - a) (3, dg, tg, sn, v, se, ns, T, G, F, E)).2 = nI (a - dg)) ∧
    (¬ (¬ (nuS tx ln n a v).1 ≤ 255 ∧ ¬ seP tx ln (nuS tx ln n a v).2 48 57) → seP tx ln (nuS tx ln n a v).2 59 59 → ∃ dg', dg' ≤ 3 ∧ pP tx ln (ln - a) (3, dg, tg, sn, v, se, ns, T, G, F, E) = pP tx ln (ln - ((nuS tx ln n a v).2 + 1)) (0, dg', tg, sn, (nuS tx ln n a v).1, se, ns + 1, upd T ns tg, upd G ns sn, upd F ns (nuS tx ln n a v).1, upd E ns se)) ∧
    (¬ (¬ (nuS tx ln n a v).1 ≤ 255 ∧ ¬ seP tx ln (nuS tx ln n a v).2 48 57) → ¬ seP tx ln (nuS tx ln n a v).2 59 59 → (pP tx ln (ln - a) (3, dg, tg, sn, v, se, ns, T, G, F, E)).2 = nI (nuS tx ln n a v).2) := by
  intro n
  induction n with
  | zero =>
    intro a dg v hn ha hdg hns
    by_cases hd : seP tx ln a 48 57
    · have g : a < ln := hd.1
      have hst : pSt tx a (3, dg, tg, sn, v, se, ns, T, G, F, E) = pRN (3, dg, tg, sn, v, se, ns, T, G, F, E) (tx a) a := if_pos rfl
      have hrn : pRN (3, dg, tg, sn, v, se, ns, T, G, F, E) (tx a) a = ((pTD (3, dg, tg, sn, v, se, ns, T, G, F, E) (tx a)).1, if (pTD (3, dg, tg, sn, v, se, ns, T, G, F, E) (tx a)).2 = true then -1 else nI a) := if_pos hd.2
      have htd : pTD (3, dg, tg, sn, v, se, ns, T, G, F, E) (tx a) = ((3, dg, tg, sn, v, se, ns, T, G, F, E), false) := if_neg (by show ¬ dg < 3; omega)
      rw [hrn, htd] at hst
      have hst2 : pSt tx a (3, dg, tg, sn, v, se, ns, T, G, F, E) = ((3, dg, tg, sn, v, se, ns, T, G, F, E), nI a) := hst
      have e : (nuS tx ln 0 a v) = (v, a) := rfl
      rw [e, pP_x g hst2 (nI_m1 (by omega))]
      exact ⟨fun q => absurd hd q.2, fun _ q => absurd hd (semi_nd q), fun _ _ => rfl⟩
    · exact pa_numX hl (by omega) ha hdg hns hd
  | succ n ih =>
    intro a dg v hn ha hdg hns
    by_cases hd : seP tx ln a 48 57
    · have g : a < ln := hd.1
      have hst : pSt tx a (3, dg, tg, sn, v, se, ns, T, G, F, E) = pRN (3, dg, tg, sn, v, se, ns, T, G, F, E) (tx a) a := if_pos rfl
      have hrn : pRN (3, dg, tg, sn, v, se, ns, T, G, F, E) (tx a) a = ((pTD (3, dg, tg, sn, v, se, ns, T, G, F, E) (tx a)).1, if (pTD (3, dg, tg, sn, v, se, ns, T, G, F, E) (tx a)).2 = true then -1 else nI a) := if_pos hd.2
      have htd : pTD (3, dg, tg, sn, v, se, ns, T, G, F, E) (tx a) = ((3, dg + 1, tg, sn, 10 * v + tx a - 48, se, ns, T, G, F, E), true) := if_pos (by show dg < 3; omega)
      rw [hrn, htd] at hst
      have e : (nuS tx ln (n + 1) a v) = nuS tx ln n (a + 1) (10 * v + tx a - 48) := by rw [nuS, if_pos hd]
      have k := ih (a + 1) (dg + 1) (10 * v + tx a - 48) (by omega) (by omega) (by omega) (by omega)
      rw [show a + 1 - (dg + 1) = a - dg by omega] at k
      rw [e, pP_s g hst rfl]
      exact k
    · exact pa_numX hl (by omega) ha hdg hns hd
/-- the row of a good statement: sign, first, second -/
def stG (tx : Nat → Int32) (ln a : Nat) : Int32 := if seP tx ln (a + 2) 48 57 then 61 else tx (a + 3)
def stF (tx : Nat → Int32) (ln a : Nat) : Int32 := if seP tx ln (a + 2) 48 57 then (nuS tx ln 3 (a + 2) 0).1 else tx (a + 2) - 97
def stE (tx : Nat → Int32) (ln a : Nat) : Int32 := if seP tx ln (a + 2) 48 57 then 0 else tx (a + 4) - 97
abbrev goU (tx : Nat → Int32) (ln a : Nat) (u q : PSt) : Prop := uPl q = 0 ∧ uDg q ≤ 3 ∧ uNs q = uNs u + 1 ∧ uT q = upd (uT u) (uNs u) (tx a - 97) ∧ uG q = upd (uG u) (uNs u) (stG tx ln a) ∧ uF q = upd (uF u) (uNs u) (stF tx ln a) ∧ uE q = upd (uE u) (uNs u) (stE tx ln a)
theorem pa_stm (hl : ln ≤ 100) {a : Nat} (ha : a < ln) : ∀ {u : PSt}, uPl u = 0 → uDg u ≤ 3 → 4 * uNs u ≤ a →
    ((foF tx ln a).1 = -1 → ∃ q, pP tx ln (ln - a) u = pP tx ln (ln - (foF tx ln a).2) q ∧ goU tx ln a u q) ∧ (¬ (foF tx ln a).1 = -1 → (pP tx ln (ln - a) u).2 = (foF tx ln a).1)
  | (pl, dg, tg, sn, fi, se, ns, T, G, F, E), h0, h3, h4 => by
    have h0' : pl = 0 := h0
    have h3' : dg ≤ 3 := h3
    have h4' : 4 * ns ≤ a := h4
    subst h0'
    unfold foF
    by_cases g1 : seP tx ln a 97 104
    · have s1 : pP tx ln (ln - a) (0, dg, tg, sn, fi, se, ns, T, G, F, E) = pP tx ln (ln - (a + 1)) (1, dg, tx a - 97, sn, fi, se, ns, T, G, F, E) := pa_go ha (by show ¬ (0 : Nat) = 3; omega) (by
        show ((1, dg, tx a - 97, sn, fi, se, ns, T, G, F, E), decide (isL (tx a))) = ((1, dg, tx a - 97, sn, fi, se, ns, T, G, F, E), true)
        rw [decide_eq_true g1.2])
      rw [if_pos g1, s1]
      have l1 : a + 1 ≤ ln := g1.1
      by_cases g2 : seP tx ln (a + 1) 61 61
      · have e2 : tx (a + 1) = 61 := Int32.le_antisymm g2.2.2 g2.2.1
        have s2 : pP tx ln (ln - (a + 1)) (1, dg, tx a - 97, sn, fi, se, ns, T, G, F, E) = pP tx ln (ln - (a + 1 + 1)) (2, dg, tx a - 97, sn, fi, se, ns, T, G, F, E) := pa_go g2.1 (by show ¬ (1 : Nat) = 3; omega) (by
          show ((2, dg, tx a - 97, sn, fi, se, ns, T, G, F, E), decide (tx (a + 1) = 61)) = ((2, dg, tx a - 97, sn, fi, se, ns, T, G, F, E), true)
          rw [decide_eq_true e2])
        rw [if_pos g2, s2]
        have l2 : a + 1 + 1 ≤ ln := g2.1
        by_cases g3 : seP tx ln (a + 1 + 1) 48 57
        · have s3 : pP tx ln (ln - (a + 1 + 1)) (2, dg, tx a - 97, sn, fi, se, ns, T, G, F, E) = pP tx ln (ln - (a + 1 + 1 + 1)) (3, 1, tx a - 97, 61, 10 * 0 + tx (a + 1 + 1) - 48, 0, ns, T, G, F, E) := pa_go g3.1 (by show ¬ (2 : Nat) = 3; omega) (by
            show pTO (2, dg, tx a - 97, sn, fi, se, ns, T, G, F, E) (tx (a + 1 + 1)) = _
            unfold pTO
            rw [if_pos g3.2]
            rfl)
          have l3 : a + 1 + 1 + 1 ≤ ln := g3.1
          have en : nuS tx ln 3 (a + 1 + 1) 0 = nuS tx ln 2 (a + 1 + 1 + 1) (10 * 0 + tx (a + 1 + 1) - 48) := by rw [nuS, if_pos g3]
          obtain ⟨n1, n2, n3⟩ := pa_num hl (tx a - 97) 61 0 ns T G F E 2 (a + 1 + 1 + 1) 1 (10 * 0 + tx (a + 1 + 1) - 48) rfl l3 (by omega) (by omega)
          rw [← en] at n1 n2 n3
          have hb := nuS_b (tx := tx) (ln := ln) 3 (a + 1 + 1) 0 (by omega)
          rw [if_pos g3, s3]
          by_cases g4 : ¬ (nuS tx ln 3 (a + 1 + 1) 0).1 ≤ 255 ∧ ¬ seP tx ln (nuS tx ln 3 (a + 1 + 1) 0).2 48 57
          · rw [if_pos g4]
            exact ⟨fun q => absurd q (nI_m1 (by omega)), fun _ => n1 g4⟩
          · rw [if_neg g4]
            by_cases g5 : seP tx ln (nuS tx ln 3 (a + 1 + 1) 0).2 59 59
            · rw [if_pos g5]
              obtain ⟨dg', hd', s4⟩ := n2 g4 g5
              refine ⟨fun _ => ⟨_, s4, rfl, hd', rfl, rfl, ?_, ?_, ?_⟩, fun q => absurd rfl q⟩
              · show upd G ns 61 = upd G ns (stG tx ln a)
                unfold stG
                rw [if_pos g3]
              · show upd F ns (nuS tx ln 3 (a + 1 + 1) 0).1 = upd F ns (stF tx ln a)
                unfold stF
                rw [if_pos g3]
              · show upd E ns 0 = upd E ns (stE tx ln a)
                unfold stE
                rw [if_pos g3]
            · rw [if_neg g5]
              exact ⟨fun q => absurd q (nI_m1 (by omega)), fun _ => n3 g4 g5⟩
        · rw [if_neg g3]
          by_cases g4 : seP tx ln (a + 1 + 1) 97 104
          · have nd : ¬ isD (tx (a + 1 + 1)) := fun q => g3 ⟨g4.1, q⟩
            have s3 : pP tx ln (ln - (a + 1 + 1)) (2, dg, tx a - 97, sn, fi, se, ns, T, G, F, E) = pP tx ln (ln - (a + 1 + 1 + 1)) (4, dg, tx a - 97, sn, tx (a + 1 + 1) - 97, se, ns, T, G, F, E) := pa_go g4.1 (by show ¬ (2 : Nat) = 3; omega) (by
              show pTO (2, dg, tx a - 97, sn, fi, se, ns, T, G, F, E) (tx (a + 1 + 1)) = _
              unfold pTO
              rw [if_neg nd, decide_eq_true g4.2])
            rw [if_pos g4, s3]
            have l3 : a + 1 + 1 + 1 ≤ ln := g4.1
            by_cases g5 : siP tx ln (a + 1 + 1 + 1)
            · have s4 : pP tx ln (ln - (a + 1 + 1 + 1)) (4, dg, tx a - 97, sn, tx (a + 1 + 1) - 97, se, ns, T, G, F, E) = pP tx ln (ln - (a + 1 + 1 + 1 + 1)) (5, dg, tx a - 97, tx (a + 1 + 1 + 1), tx (a + 1 + 1) - 97, se, ns, T, G, F, E) := pa_go g5.1 (by show ¬ (4 : Nat) = 3; omega) (by
                show ((5, dg, tx a - 97, tx (a + 1 + 1 + 1), tx (a + 1 + 1) - 97, se, ns, T, G, F, E), decide (isS (tx (a + 1 + 1 + 1)))) = ((5, dg, tx a - 97, tx (a + 1 + 1 + 1), tx (a + 1 + 1) - 97, se, ns, T, G, F, E), true)
                rw [decide_eq_true g5.2])
              rw [if_pos g5, s4]
              have l4 : a + 1 + 1 + 1 + 1 ≤ ln := g5.1
              by_cases g6 : seP tx ln (a + 1 + 1 + 1 + 1) 97 104
              · have s5 : pP tx ln (ln - (a + 1 + 1 + 1 + 1)) (5, dg, tx a - 97, tx (a + 1 + 1 + 1), tx (a + 1 + 1) - 97, se, ns, T, G, F, E) = pP tx ln (ln - (a + 1 + 1 + 1 + 1 + 1)) (6, dg, tx a - 97, tx (a + 1 + 1 + 1), tx (a + 1 + 1) - 97, tx (a + 1 + 1 + 1 + 1) - 97, ns, T, G, F, E) := pa_go g6.1 (by show ¬ (5 : Nat) = 3; omega) (by
                  show ((6, dg, tx a - 97, tx (a + 1 + 1 + 1), tx (a + 1 + 1) - 97, tx (a + 1 + 1 + 1 + 1) - 97, ns, T, G, F, E), decide (isL (tx (a + 1 + 1 + 1 + 1)))) = ((6, dg, tx a - 97, tx (a + 1 + 1 + 1), tx (a + 1 + 1) - 97, tx (a + 1 + 1 + 1 + 1) - 97, ns, T, G, F, E), true)
                  rw [decide_eq_true g6.2])
                rw [if_pos g6, s5]
                have l5 : a + 1 + 1 + 1 + 1 + 1 ≤ ln := g6.1
                by_cases g7 : seP tx ln (a + 1 + 1 + 1 + 1 + 1) 59 59
                · have e7 : tx (a + 1 + 1 + 1 + 1 + 1) = 59 := Int32.le_antisymm g7.2.2 g7.2.1
                  have l6 : a + 1 + 1 + 1 + 1 + 1 + 1 ≤ ln := g7.1
                  have s6 : pP tx ln (ln - (a + 1 + 1 + 1 + 1 + 1)) (6, dg, tx a - 97, tx (a + 1 + 1 + 1), tx (a + 1 + 1) - 97, tx (a + 1 + 1 + 1 + 1) - 97, ns, T, G, F, E) = pP tx ln (ln - (a + 1 + 1 + 1 + 1 + 1 + 1)) (0, dg, tx a - 97, tx (a + 1 + 1 + 1), tx (a + 1 + 1) - 97, tx (a + 1 + 1 + 1 + 1) - 97, ns + 1, upd T ns (tx a - 97), upd G ns (tx (a + 1 + 1 + 1)), upd F ns (tx (a + 1 + 1) - 97), upd E ns (tx (a + 1 + 1 + 1 + 1) - 97)) := pa_go g7.1 (by show ¬ (6 : Nat) = 3; omega) (by
                    show pTS (6, dg, tx a - 97, tx (a + 1 + 1 + 1), tx (a + 1 + 1) - 97, tx (a + 1 + 1 + 1 + 1) - 97, ns, T, G, F, E) (tx (a + 1 + 1 + 1 + 1 + 1)) = _
                    exact if_pos ⟨e7, by show ns < 25; omega⟩)
                  rw [if_pos g7]
                  refine ⟨fun _ => ⟨_, s6, rfl, h3', rfl, rfl, ?_, ?_, ?_⟩, fun q => absurd rfl q⟩
                  · show upd G ns (tx (a + 1 + 1 + 1)) = upd G ns (stG tx ln a)
                    unfold stG
                    rw [if_neg g3]
                  · show upd F ns (tx (a + 1 + 1) - 97) = upd F ns (stF tx ln a)
                    unfold stF
                    rw [if_neg g3]
                  · show upd E ns (tx (a + 1 + 1 + 1 + 1) - 97) = upd E ns (stE tx ln a)
                    unfold stE
                    rw [if_neg g3]
                · rw [if_neg g7]
                  refine ⟨fun q => absurd q (nI_m1 (by omega)), fun _ => pa_no l5 hl (Or.inr (by show ¬ (6 : Nat) = 0; omega)) (by show ¬ (6 : Nat) = 3; omega) (fun hlt => ?_)⟩
                  show (pTS (6, dg, tx a - 97, tx (a + 1 + 1 + 1), tx (a + 1 + 1) - 97, tx (a + 1 + 1 + 1 + 1) - 97, ns, T, G, F, E) (tx (a + 1 + 1 + 1 + 1 + 1))).2 = false
                  unfold pTS
                  rw [if_neg (fun q => g7 ⟨hlt, by rw [q.1]; exact Int32.le_refl _, by rw [q.1]; exact Int32.le_refl _⟩)]
              · rw [if_neg g6]
                refine ⟨fun q => absurd q (nI_m1 (by omega)), fun _ => pa_no l4 hl (Or.inr (by show ¬ (5 : Nat) = 0; omega)) (by show ¬ (5 : Nat) = 3; omega) (fun hlt => ?_)⟩
                show decide (isL (tx (a + 1 + 1 + 1 + 1))) = false
                exact decide_eq_false (fun q => g6 ⟨hlt, q⟩)
            · rw [if_neg g5]
              refine ⟨fun q => absurd q (nI_m1 (by omega)), fun _ => pa_no l3 hl (Or.inr (by show ¬ (4 : Nat) = 0; omega)) (by show ¬ (4 : Nat) = 3; omega) (fun hlt => ?_)⟩
              show decide (isS (tx (a + 1 + 1 + 1))) = false
              exact decide_eq_false (fun q => g5 ⟨hlt, q⟩)
          · rw [if_neg g4]
            refine ⟨fun q => absurd q (nI_m1 (by omega)), fun _ => pa_no l2 hl (Or.inr (by show ¬ (2 : Nat) = 0; omega)) (by show ¬ (2 : Nat) = 3; omega) (fun hlt => ?_)⟩
            show (pTO (2, dg, tx a - 97, sn, fi, se, ns, T, G, F, E) (tx (a + 1 + 1))).2 = false
            unfold pTO
            rw [if_neg (fun q => g3 ⟨hlt, q⟩)]
            exact decide_eq_false (fun q => g4 ⟨hlt, q⟩)
      · rw [if_neg g2]
        refine ⟨fun q => absurd q (nI_m1 (by omega)), fun _ => pa_no l1 hl (Or.inr (by show ¬ (1 : Nat) = 0; omega)) (by show ¬ (1 : Nat) = 3; omega) (fun hlt => ?_)⟩
        show decide (tx (a + 1) = 61) = false
        exact decide_eq_false (fun q => g2 ⟨hlt, by rw [q]; exact Int32.le_refl _, by rw [q]; exact Int32.le_refl _⟩)
    · rw [if_neg g1]
      refine ⟨fun q => absurd q (nI_m1 (by omega)), fun _ => pa_no (Nat.le_of_lt ha) hl (Or.inl ha) (by show ¬ (0 : Nat) = 3; omega) (fun hlt => ?_)⟩
      show decide (isL (tx a)) = false
      exact decide_eq_false (fun q => g1 ⟨hlt, q⟩)
end Text
