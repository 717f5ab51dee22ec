/-! THE DIGEST -/
theorem dI_congr {F F' : Nat → Int32} {h h' : Int64} (e : h = h') : ∀ n, (∀ k, k < n → F k = F' k) → dI F h n = dI F' h' n
  | 0, _ => e
  | n + 1, hk => by rw [dI, dI, dI_congr e n (fun k q => hk k (by omega)), hk n (by omega)]
theorem rel_dg {w : Nat} {ac ma : Int64} {fc fs fr rw : Nat → Int32} (h : StRel w ac fc fs fr rw ma) {len cnt : Nat} : dgF w ac fc fs fr len cnt = dgM rw w ma len cnt := by
  unfold dgF dgM
  have e0 : (118823 : Int64) + Int32.toInt64 (nI len) = 31 * 3833 + Int32.toInt64 (nI len) := congrArg (fun x => x + Int32.toInt64 (nI len)) (by decide)
  have e1 := dI_congr e0 8 (F := numF w fc fs) (F' := mkF rw w) (fun k _ => rel_num h)
  have e2 := dI_congr (congrArg (fun x => 31 * x + ac) e1) 8 (F := fr) (F' := mG rw) (fun k hk => (h.rr k hk).symm)
  have e3 := dI_congr e2 (ents w) (F := fs) (F' := mS rw) (fun k hk => (h.rs k hk).symm)
  rw [e3, rel_fw h, h.ea]
