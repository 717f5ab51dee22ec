/-! BITS: counting them as the JDK does and one by one -/
theorem an_and (a b : Nat) : nI a &&& nI b = nI (a &&& b) := by
  refine Int32.toBitVec_inj.1 ?_
  show BitVec.ofNat 32 a &&& BitVec.ofNat 32 b = BitVec.ofNat 32 (a &&& b)
  refine BitVec.eq_of_getLsbD_eq (fun i hi => ?_)
  simp [hi]
theorem an_xor (a b : Nat) : nI a ^^^ nI b = nI (a ^^^ b) := by
  refine Int32.toBitVec_inj.1 ?_
  show BitVec.ofNat 32 a ^^^ BitVec.ofNat 32 b = BitVec.ofNat 32 (a ^^^ b)
  refine BitVec.eq_of_getLsbD_eq (fun i hi => ?_)
  simp [hi]
theorem land_split {k a b x y : Nat} (ha : a < 2 ^ k) (hb : b < 2 ^ k) : (a + 2 ^ k * x) &&& (b + 2 ^ k * y) = (a &&& b) + 2 ^ k * (x &&& y) := by
  have hp : 0 < 2 ^ k := Nat.two_pow_pos k
  have h1 : ((a + 2 ^ k * x) &&& (b + 2 ^ k * y)) / 2 ^ k = x &&& y := by
    rw [Nat.and_div_two_pow, Nat.add_mul_div_left _ _ hp, Nat.add_mul_div_left _ _ hp, Nat.div_eq_of_lt ha, Nat.div_eq_of_lt hb, Nat.zero_add, Nat.zero_add]
  have h2 : ((a + 2 ^ k * x) &&& (b + 2 ^ k * y)) % 2 ^ k = a &&& b := by
    rw [Nat.and_mod_two_pow, Nat.add_mul_mod_self_left, Nat.add_mul_mod_self_left, Nat.mod_eq_of_lt ha, Nat.mod_eq_of_lt hb]
  rw [← Nat.mod_add_div ((a + 2 ^ k * x) &&& (b + 2 ^ k * y)) (2 ^ k), h1, h2]
theorem land3 {a0 a1 a2 m0 m1 m2 : Nat} (h0 : a0 < 256) (h1 : a1 < 256) (g0 : m0 < 256) (g1 : m1 < 256) : (a0 + 256 * (a1 + 256 * a2)) &&& (m0 + 256 * (m1 + 256 * m2)) = (a0 &&& m0) + 256 * ((a1 &&& m1) + 256 * (a2 &&& m2)) := by
  have e1 := land_split (k := 8) (a := a0) (b := m0) (x := a1 + 256 * a2) (y := m1 + 256 * m2) h0 g0
  have e2 := land_split (k := 8) (a := a1) (b := m1) (x := a2) (y := m2) h1 g1
  simp only [Nat.reducePow] at e1 e2
  rw [e1, e2]
def u1 (l : Nat) : Nat := l - ((l / 2) &&& 85)
def u2 (l : Nat) : Nat := (u1 l &&& 51) + ((u1 l / 4) &&& 51)
def u3 (l : Nat) : Nat := (u2 l + u2 l / 16) &&& 15
def pop8 (l : Nat) : Nat := l % 2 + l / 2 % 2 + l / 4 % 2 + l / 8 % 2 + l / 16 % 2 + l / 32 % 2 + l / 64 % 2 + l / 128 % 2
theorem u3_pop : ∀ l, l < 256 → u3 l = pop8 l := by decide +kernel
theorem u1_b : ∀ l, l < 256 → u1 l < 256 ∧ ((l / 2) &&& 85) ≤ l := by decide +kernel
theorem u2_b : ∀ l, l < 256 → u2 l < 69 := by decide +kernel
theorem u2_c : ∀ l, l < 256 → u2 l + u2 l / 16 < 256 := by decide +kernel
theorem u1_x : ∀ l, l < 256 → ∀ q, q < 2 → (l / 2 + 128 * q) &&& 85 = (l / 2) &&& 85 := by decide +kernel
theorem u2_x : ∀ l, l < 256 → ∀ q, q < 4 → (l / 4 + 64 * q) &&& 51 = (l / 4) &&& 51 := by decide +kernel
theorem u2_n : ∀ l, l < 256 → u2 l % 16 ≤ 4 ∧ u2 l / 16 ≤ 4 := by decide +kernel
theorem u3_x : ∀ l, l < 69 → ∀ q, q < 5 → (l + l / 16 + 16 * q) &&& 15 = (l + l / 16) &&& 15 := by decide +kernel
theorem pop8_le {l : Nat} : pop8 l ≤ 8 := by unfold pop8; omega
/-- the JDK's count, over naturals of three bytes -/
def B1 (n : Nat) : Nat := n - ((n / 2) &&& 1431655765)
def B2 (n : Nat) : Nat := (n &&& 858993459) + ((n / 4) &&& 858993459)
def B3 (n : Nat) : Nat := (n + n / 16) &&& 252645135
def B4 (n : Nat) : Nat := n + n / 256
def B5 (n : Nat) : Nat := n + n / 65536
def BC (n : Nat) : Nat := B5 (B4 (B3 (B2 (B1 n)))) &&& 63
theorem B1_e {a b c : Nat} (ha : a < 256) (hb : b < 256) (hc : c < 256) : B1 (a + 256 * (b + 256 * c)) = u1 a + 256 * (u1 b + 256 * u1 c) := by
  have e : (a + 256 * (b + 256 * c)) / 2 = (a / 2 + 128 * (b % 2)) + 256 * ((b / 2 + 128 * (c % 2)) + 256 * (c / 2)) := by omega
  have k1 := u1_x a ha (b % 2) (by omega)
  have k2 := u1_x b hb (c % 2) (by omega)
  have k3 := (u1_b a ha).2
  have k4 := (u1_b b hb).2
  have k5 := (u1_b c hc).2
  unfold B1
  rw [e, show (1431655765 : Nat) = 85 + 256 * (85 + 256 * (85 + 256 * 85)) from rfl, land3 (by omega) (by omega) (by omega) (by omega), k1, k2]
  have k6 := land_split (k := 8) (a := c / 2) (b := 85) (x := 0) (y := 85) (by omega) (by omega)
  simp only [Nat.reducePow, Nat.mul_zero, Nat.add_zero, Nat.zero_and] at k6
  rw [k6]
  unfold u1
  omega
theorem B2_e {a b c : Nat} (ha : a < 256) (hb : b < 256) (hc : c < 256) : B2 (a + 256 * (b + 256 * c)) = ((a &&& 51) + ((a / 4) &&& 51)) + 256 * (((b &&& 51) + ((b / 4) &&& 51)) + 256 * ((c &&& 51) + ((c / 4) &&& 51))) := by
  have e : (a + 256 * (b + 256 * c)) / 4 = (a / 4 + 64 * (b % 4)) + 256 * ((b / 4 + 64 * (c % 4)) + 256 * (c / 4)) := by omega
  have k1 := u2_x a ha (b % 4) (by omega)
  have k2 := u2_x b hb (c % 4) (by omega)
  unfold B2
  rw [e, show (858993459 : Nat) = 51 + 256 * (51 + 256 * (51 + 256 * 51)) from rfl, land3 ha hb (by omega) (by omega), land3 (by omega) (by omega) (by omega) (by omega), k1, k2]
  have k6 := land_split (k := 8) (a := c / 4) (b := 51) (x := 0) (y := 51) (by omega) (by omega)
  have k7 := land_split (k := 8) (a := c) (b := 51) (x := 0) (y := 51) (by omega) (by omega)
  simp only [Nat.reducePow, Nat.mul_zero, Nat.add_zero, Nat.zero_and] at k6 k7
  rw [k6, k7]
  omega
theorem B3_e {a b c : Nat} (ha : a % 16 ≤ 4 ∧ a / 16 ≤ 4) (hb : b % 16 ≤ 4 ∧ b / 16 ≤ 4) (hc : c % 16 ≤ 4 ∧ c / 16 ≤ 4) : B3 (a + 256 * (b + 256 * c)) = ((a + a / 16) &&& 15) + 256 * (((b + b / 16) &&& 15) + 256 * ((c + c / 16) &&& 15)) := by
  have e : (a + 256 * (b + 256 * c)) + (a + 256 * (b + 256 * c)) / 16 = (a + a / 16 + 16 * (b % 16)) + 256 * ((b + b / 16 + 16 * (c % 16)) + 256 * (c + c / 16)) := by omega
  have k1 := u3_x a (by omega) (b % 16) (by omega)
  have k2 := u3_x b (by omega) (c % 16) (by omega)
  unfold B3
  rw [e, show (252645135 : Nat) = 15 + 256 * (15 + 256 * (15 + 256 * 15)) from rfl, land3 (by omega) (by omega) (by omega) (by omega), k1, k2]
  have k6 := land_split (k := 8) (a := c + c / 16) (b := 15) (x := 0) (y := 15) (by omega) (by omega)
  simp only [Nat.reducePow, Nat.mul_zero, Nat.add_zero, Nat.zero_and] at k6
  rw [k6]
theorem BC_e {a b c : Nat} (ha : a < 256) (hb : b < 256) (hc : c < 256) : BC (a + 256 * (b + 256 * c)) = pop8 a + pop8 b + pop8 c := by
  have h1 := B1_e ha hb hc
  have h2 := B2_e (u1_b a ha).1 (u1_b b hb).1 (u1_b c hc).1
  have h3 := B3_e (u2_n a ha) (u2_n b hb) (u2_n c hc)
  have pa := pop8_le (l := a)
  have pb := pop8_le (l := b)
  have pc := pop8_le (l := c)
  unfold BC
  rw [h1, h2]
  show B5 (B4 (B3 (u2 a + 256 * (u2 b + 256 * u2 c)))) &&& 63 = _
  rw [h3]
  show B5 (B4 (u3 a + 256 * (u3 b + 256 * u3 c))) &&& 63 = _
  rw [u3_pop a ha, u3_pop b hb, u3_pop c hc, show (63 : Nat) = 2 ^ 6 - 1 from rfl, Nat.and_two_pow_sub_one_eq_mod]
  generalize pop8 a = x at pa ⊢
  generalize pop8 b = y at pb ⊢
  generalize pop8 c = z at pc ⊢
  have e4 : B4 (x + 256 * (y + 256 * z)) = (x + y) + 256 * (y + z) + 65536 * z := by
    unfold B4
    omega
  have e5 : B5 ((x + y) + 256 * (y + z) + 65536 * z) = (x + y + z) + 256 * (y + z) + 65536 * z := by
    unfold B5
    omega
  rw [e4, e5]
  omega
/-- the JDK's count of a number of three bytes -/
theorem bc_N {n : Nat} (h : n < 2 ^ 24) : bc (nI n) = nI (BC n) := by
  have hu : ∀ (m : Nat) (k : Nat), m < 2 ^ 32 → ∀ s : Int32, ((s.toUInt32 &&& Int32.toUInt32 31).toBitVec % 32).toNat = k → ((nI m).toUInt32 >>> (s.toUInt32 &&& Int32.toUInt32 31)).toInt32 = nI (m / 2 ^ k) := fun m k hm s hs => pk_ushrN hm s k hs
  have e : n = n % 256 + 256 * (n / 256 % 256 + 256 * (n / 65536)) := by omega
  have hc : n / 65536 < 256 := by omega
  generalize ha' : n % 256 = a at e
  generalize hb' : n / 256 % 256 = b at e
  generalize hc' : n / 65536 = c at e hc
  have ha : a < 256 := by omega
  have hb : b < 256 := by omega
  have h1 := B1_e ha hb hc
  have h2 := B2_e (u1_b a ha).1 (u1_b b hb).1 (u1_b c hc).1
  have h3 := B3_e (u2_n a ha) (u2_n b hb) (u2_n c hc)
  have q1 : bc1 (nI n) = nI (B1 n) := by
    unfold bc1 B1
    rw [hu n 1 (by omega) 1 (by decide), show (1431655765 : Int32) = nI 1431655765 from rfl, an_and, pk_sub (Nat.le_trans Nat.and_le_left (Nat.div_le_self _ _))]
  have b1 : B1 n < 2 ^ 24 := by rw [e, h1]; have := (u1_b a ha).1; have := (u1_b b hb).1; have := (u1_b c hc).1; omega
  have q2 : bc2 (nI (B1 n)) = nI (B2 (B1 n)) := by
    unfold bc2 B2
    rw [hu (B1 n) 2 (by omega) 2 (by decide), show (858993459 : Int32) = nI 858993459 from rfl, an_and, an_and, nI_add]
  have b2 : B2 (B1 n) < 2 ^ 24 := by
    rw [e, h1, h2]
    show u2 a + 256 * (u2 b + 256 * u2 c) < 2 ^ 24
    have := u2_b a ha; have := u2_b b hb; have := u2_b c hc; omega
  have q3 : bc3 (nI (B2 (B1 n))) = nI (B3 (B2 (B1 n))) := by
    unfold bc3 B3
    rw [hu (B2 (B1 n)) 4 (by omega) 4 (by decide), nI_add, show (252645135 : Int32) = nI 252645135 from rfl, an_and]
  have b3 : B3 (B2 (B1 n)) < 2 ^ 25 := by
    have : B3 (B2 (B1 n)) ≤ B2 (B1 n) + B2 (B1 n) / 16 := Nat.and_le_left
    omega
  have q4 : bc4 (nI (B3 (B2 (B1 n)))) = nI (B4 (B3 (B2 (B1 n)))) := by
    unfold bc4 B4
    rw [hu _ 8 (by omega) 8 (by decide), nI_add]
  have b4 : B4 (B3 (B2 (B1 n))) < 2 ^ 26 := by unfold B4; omega
  have q5 : bc5 (nI (B4 (B3 (B2 (B1 n))))) = nI (B5 (B4 (B3 (B2 (B1 n))))) := by
    unfold bc5 B5
    rw [hu _ 16 (by omega) 16 (by decide), nI_add]
  unfold bc BC
  rw [q1, q2, q3, q4, q5, show (63 : Int32) = nI 63 from rfl, an_and]
/-- bit by bit -/
theorem bt_N {n k : Nat} (h : n < 2 ^ 31) (hk : k < 31) : btF (nI n) k = nI (n / 2 ^ k % 2) := by
  unfold btF
  have hs : ∀ k, k < 32 → ((nI k &&& 31).toBitVec.smod 32).toNat = k := by decide +kernel
  rw [pk_shrN h (nI k &&& 31) k (hs k (by omega)), show (1 : Int32) = nI 1 from rfl, an_and, show (1 : Nat) = 2 ^ 1 - 1 from rfl, Nat.and_two_pow_sub_one_eq_mod]
def sN (f : Nat → Nat) : Nat → Nat
  | 0 => 0
  | n + 1 => sN f n + f n
theorem sI_N {f : Nat → Int32} {g : Nat → Nat} : ∀ n, (∀ k, k < n → f k = nI (g k)) → sI f n = nI (sN g n)
  | 0, _ => rfl
  | n + 1, h => by
    rw [sI, sN, sI_N n (fun k hk => h k (by omega)), h n (by omega), nI_add]
theorem s17a0 (n : Nat) : n % 256 % 2 = n / 1 % 2 := by omega
theorem s17a1 (n : Nat) : n % 256 / 2 % 2 = n / 2 % 2 := by omega
theorem s17a2 (n : Nat) : n % 256 / 4 % 2 = n / 4 % 2 := by omega
theorem s17a3 (n : Nat) : n % 256 / 8 % 2 = n / 8 % 2 := by omega
theorem s17a4 (n : Nat) : n % 256 / 16 % 2 = n / 16 % 2 := by omega
theorem s17a5 (n : Nat) : n % 256 / 32 % 2 = n / 32 % 2 := by omega
theorem s17a6 (n : Nat) : n % 256 / 64 % 2 = n / 64 % 2 := by omega
theorem s17a7 (n : Nat) : n % 256 / 128 % 2 = n / 128 % 2 := by omega
theorem s17b0 (n : Nat) : n / 256 % 256 % 2 = n / 256 % 2 := by omega
theorem s17b1 (n : Nat) : n / 256 % 256 / 2 % 2 = n / 512 % 2 := by omega
theorem s17b2 (n : Nat) : n / 256 % 256 / 4 % 2 = n / 1024 % 2 := by omega
theorem s17b3 (n : Nat) : n / 256 % 256 / 8 % 2 = n / 2048 % 2 := by omega
theorem s17b4 (n : Nat) : n / 256 % 256 / 16 % 2 = n / 4096 % 2 := by omega
theorem s17b5 (n : Nat) : n / 256 % 256 / 32 % 2 = n / 8192 % 2 := by omega
theorem s17b6 (n : Nat) : n / 256 % 256 / 64 % 2 = n / 16384 % 2 := by omega
theorem s17b7 (n : Nat) : n / 256 % 256 / 128 % 2 = n / 32768 % 2 := by omega
theorem s17c1 (n : Nat) (h : n < 131072) : n / 65536 / 2 % 2 = 0 := by omega
theorem s17c2 (n : Nat) (h : n < 131072) : n / 65536 / 4 % 2 = 0 := by omega
theorem s17c3 (n : Nat) (h : n < 131072) : n / 65536 / 8 % 2 = 0 := by omega
theorem s17c4 (n : Nat) (h : n < 131072) : n / 65536 / 16 % 2 = 0 := by omega
theorem s17c5 (n : Nat) (h : n < 131072) : n / 65536 / 32 % 2 = 0 := by omega
theorem s17c6 (n : Nat) (h : n < 131072) : n / 65536 / 64 % 2 = 0 := by omega
theorem s17c7 (n : Nat) (h : n < 131072) : n / 65536 / 128 % 2 = 0 := by omega
theorem sum17 {n : Nat} (h : n < 131072) : sN (fun k => n / 2 ^ k % 2) 17 = pop8 (n % 256) + pop8 (n / 256 % 256) + pop8 (n / 65536) := by
  unfold pop8
  rw [s17a0 n, s17a1 n, s17a2 n, s17a3 n, s17a4 n, s17a5 n, s17a6 n, s17a7 n, s17b0 n, s17b1 n, s17b2 n, s17b3 n, s17b4 n, s17b5 n, s17b6 n, s17b7 n, s17c1 n h, s17c2 n h, s17c3 n h, s17c4 n h, s17c5 n h, s17c6 n h, s17c7 n h]
  simp only [sN, Nat.reducePow, Nat.zero_add, Nat.add_zero, Nat.add_assoc]
theorem on_N {n : Nat} (h : n < 2 ^ 17) : onF (nI n) = nI (BC n) := by
  have e : n = n % 256 + 256 * (n / 256 % 256 + 256 * (n / 65536)) := by omega
  have h1 : BC n = pop8 (n % 256) + pop8 (n / 256 % 256) + pop8 (n / 65536) := (congrArg BC e).trans (BC_e (by omega) (by omega) (by omega))
  refine (sI_N (g := fun k => n / 2 ^ k % 2) 17 (fun k hk => bt_N (by omega) (by omega))).trans ?_
  rw [h1, sum17 h]
theorem bc_on {n : Nat} (h : n < 2 ^ 17) : bc (nI n) = onF (nI n) := by rw [on_N h, bc_N (by omega)]
