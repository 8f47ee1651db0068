/-! Integer.bitCount is the number of bits, for sets of 24 -/
section BITS
def q_T (x : Int32) : Nat := x.toBitVec.toNat
theorem q_T_inj {x y : Int32} (h : q_T x = q_T y) : x = y := Int32.toBitVec_inj.mp (BitVec.eq_of_toNat_eq h)
theorem q_T_lt (x : Int32) : q_T x < 4294967296 := x.toBitVec.isLt
theorem q_T_and {x y : Int32} : q_T (x &&& y) = q_T x &&& q_T y := by unfold q_T; rw [Int32.toBitVec_and, BitVec.toNat_and]
theorem q_T_add {x y : Int32} (h : q_T x + q_T y < 4294967296) : q_T (x + y) = q_T x + q_T y := by
  unfold q_T at *; rw [Int32.toBitVec_add, BitVec.toNat_add]; exact Nat.mod_eq_of_lt h
theorem q_T_sub {x y : Int32} (h : q_T y ≤ q_T x) : q_T (x - y) = q_T x - q_T y := by
  have hx := q_T_lt x
  unfold q_T at *
  rw [Int32.toBitVec_sub, BitVec.toNat_sub, show (2 : Nat) ^ 32 = 4294967296 from rfl]
  omega
theorem q_T_us {x a : Int32} {k : Nat} (ha : (a.toUInt32 &&& Int32.toUInt32 31).toNat = k) (hk : k < 32) : q_T (q_us x a) = q_T x / 2 ^ k := by
  unfold q_T q_us
  show (x.toUInt32 >>> (a.toUInt32 &&& Int32.toUInt32 31)).toNat = _
  rw [UInt32.toNat_shiftRight, ha, Nat.mod_eq_of_lt hk, Nat.shiftRight_eq_div_pow]
  rfl
/-- a conjunction, byte by byte -/
theorem q_and8 {x y m k : Nat} (hx : x < 256) (hm : m < 256) : (x + 256 * y) &&& (m + 256 * k) = (x &&& m) + 256 * (y &&& k) := by
  have e1 : ((x + 256 * y) &&& (m + 256 * k)) % 256 = x &&& m := by
    have := Nat.and_mod_two_pow (a := x + 256 * y) (b := m + 256 * k) (n := 8)
    rw [show (2 : Nat) ^ 8 = 256 from rfl] at this
    rw [this, show (x + 256 * y) % 256 = x by omega, show (m + 256 * k) % 256 = m by omega]
  have e2 : ((x + 256 * y) &&& (m + 256 * k)) / 256 = y &&& k := by
    have := Nat.and_div_two_pow (a := x + 256 * y) (b := m + 256 * k) (n := 8)
    rw [show (2 : Nat) ^ 8 = 256 from rfl] at this
    rw [this, show (x + 256 * y) / 256 = y by omega, show (m + 256 * k) / 256 = k by omega]
  have := Nat.div_add_mod ((x + 256 * y) &&& (m + 256 * k)) 256
  rw [e1, e2] at this
  omega
theorem q_and24 {x y z p q r t : Nat} (hx : x < 256) (hy : y < 256) (hp : p < 256) (hq : q < 256) (hz : z < 256) (hr : r < 256) : (x + 256 * y + 65536 * z) &&& (p + 256 * q + 65536 * r + 16777216 * t) = (x &&& p) + 256 * (y &&& q) + 65536 * (z &&& r) := by
  rw [show x + 256 * y + 65536 * z = x + 256 * (y + 256 * (z + 256 * 0)) by omega, show p + 256 * q + 65536 * r + 16777216 * t = p + 256 * (q + 256 * (r + 256 * t)) by omega, q_and8 hx hp, q_and8 hy hq, q_and8 hz hr, Nat.zero_and]
  omega
def g_1 (a : Nat) : Nat := a - ((a / 2) &&& 85)
def g_2 (a : Nat) : Nat := (a &&& 51) + ((a / 4) &&& 51)
def g_3 (a : Nat) : Nat := (a + a / 16) &&& 15
def g_b (a : Nat) : Nat := a % 2 + a / 2 % 2 + a / 4 % 2 + a / 8 % 2 + a / 16 % 2 + a / 32 % 2 + a / 64 % 2 + a / 128 % 2
theorem g_f1 : ∀ a, a < 256 → ((a / 2 + 128) &&& 85) = ((a / 2) &&& 85) ∧ ((a / 2) &&& 85) ≤ a ∧ g_1 a < 256 := by decide +kernel
theorem g_f2 : ∀ a, a < 256 → (∀ d, d < 4 → ((a / 4 + 64 * d) &&& 51) = ((a / 4) &&& 51)) ∧ g_2 (g_1 a) ≤ 68 := by decide +kernel
theorem g_f3 : ∀ a, a < 69 → ∀ d, d < 16 → d ≤ 4 → ((a + a / 16 + 16 * d) &&& 15) = ((a + a / 16) &&& 15) := by decide +kernel
theorem g_f4 : ∀ a, a < 256 → g_3 (g_2 (g_1 a)) = g_b a ∧ g_b a ≤ 8 ∧ g_2 (g_1 a) % 16 ≤ 4 := by decide +kernel
theorem q_bc_bytes {s : Int32} {a b c : Nat} (ha : a < 256) (hb : b < 256) (hc : c < 256) (h : q_T s = a + 256 * b + 65536 * c) : q_T (q_bc s) = g_b a + g_b b + g_b c := by
  have fa := g_f1 a ha
  have fb := g_f1 b hb
  have fc := g_f1 c hc
  -- first step
  have h1 : q_T (q_bc1 s) = g_1 a + 256 * g_1 b + 65536 * g_1 c := by
    have e1 : q_T (q_us s 1 &&& 1431655765) = ((a / 2) &&& 85) + 256 * ((b / 2) &&& 85) + 65536 * ((c / 2) &&& 85) := by
      rw [q_T_and, q_T_us (k := 1) (by decide) (by decide), h, show q_T 1431655765 = 85 + 256 * 85 + 65536 * 85 + 16777216 * 85 from by decide, show (a + 256 * b + 65536 * c) / 2 ^ 1 = (a / 2 + 128 * (b % 2)) + 256 * (b / 2 + 128 * (c % 2)) + 65536 * (c / 2) by omega, q_and24 (by omega) (by omega) (by decide) (by decide) (by omega) (by decide)]
      have k1 : ((a / 2 + 128 * (b % 2)) &&& 85) = ((a / 2) &&& 85) := by
        rcases Nat.mod_two_eq_zero_or_one b with e | e
        · rw [e]; rfl
        · rw [e]; exact fa.1
      have k2 : ((b / 2 + 128 * (c % 2)) &&& 85) = ((b / 2) &&& 85) := by
        rcases Nat.mod_two_eq_zero_or_one c with e | e
        · rw [e]; rfl
        · rw [e]; exact fb.1
      rw [k1, k2]
    have := fa.2.1; have := fb.2.1; have := fc.2.1
    unfold q_bc1
    rw [q_T_sub (by rw [e1, h]; omega), e1, h]
    unfold g_1
    omega
  have ga := fa.2.2; have gb := fb.2.2; have gc := fc.2.2
  have f2a := g_f2 (g_1 a) ga
  have f2b := g_f2 (g_1 b) gb
  have f2c := g_f2 (g_1 c) gc
  have z2a := (g_f2 a ha).2
  have z2b := (g_f2 b hb).2
  have z2c := (g_f2 c hc).2
  have h2 : q_T (q_bc2 (q_bc1 s)) = g_2 (g_1 a) + 256 * g_2 (g_1 b) + 65536 * g_2 (g_1 c) := by
    have e1 : q_T (q_bc1 s &&& 858993459) = (g_1 a &&& 51) + 256 * (g_1 b &&& 51) + 65536 * (g_1 c &&& 51) := by
      rw [q_T_and, h1, show q_T 858993459 = 51 + 256 * 51 + 65536 * 51 + 16777216 * 51 from by decide, q_and24 ga gb (by decide) (by decide) gc (by decide)]
    have e2 : q_T (q_us (q_bc1 s) 2 &&& 858993459) = ((g_1 a / 4) &&& 51) + 256 * ((g_1 b / 4) &&& 51) + 65536 * ((g_1 c / 4) &&& 51) := by
      rw [q_T_and, q_T_us (k := 2) (by decide) (by decide), h1, show q_T 858993459 = 51 + 256 * 51 + 65536 * 51 + 16777216 * 51 from by decide, show (g_1 a + 256 * g_1 b + 65536 * g_1 c) / 2 ^ 2 = (g_1 a / 4 + 64 * (g_1 b % 4)) + 256 * (g_1 b / 4 + 64 * (g_1 c % 4)) + 65536 * (g_1 c / 4) by omega, q_and24 (by omega) (by omega) (by decide) (by decide) (by omega) (by decide)]
      rw [f2a.1 _ (by omega), f2b.1 _ (by omega)]
    unfold q_bc2
    have := z2a; have := z2b; have := z2c
    unfold g_2 at *
    rw [q_T_add (by rw [e1, e2]; omega), e1, e2]
    omega
  have wa := g_f4 a ha
  have wb := g_f4 b hb
  have wc := g_f4 c hc
  have h3 : q_T (q_bc3 (q_bc2 (q_bc1 s))) = g_b a + 256 * g_b b + 65536 * g_b c := by
    have e1 : q_T (q_us (q_bc2 (q_bc1 s)) 4) = (g_2 (g_1 a) / 16 + 16 * (g_2 (g_1 b) % 16)) + 256 * (g_2 (g_1 b) / 16 + 16 * (g_2 (g_1 c) % 16)) + 65536 * (g_2 (g_1 c) / 16) := by
      rw [q_T_us (k := 4) (by decide) (by decide), h2]; omega
    unfold q_bc3
    have := wb.2.2; have := wc.2.2
    rw [q_T_and, q_T_add (by rw [e1, h2]; omega), e1, h2, show q_T 252645135 = 15 + 256 * 15 + 65536 * 15 + 16777216 * 15 from by decide]
    rw [show g_2 (g_1 a) + 256 * g_2 (g_1 b) + 65536 * g_2 (g_1 c) + (g_2 (g_1 a) / 16 + 16 * (g_2 (g_1 b) % 16) + 256 * (g_2 (g_1 b) / 16 + 16 * (g_2 (g_1 c) % 16)) + 65536 * (g_2 (g_1 c) / 16)) = (g_2 (g_1 a) + g_2 (g_1 a) / 16 + 16 * (g_2 (g_1 b) % 16)) + 256 * (g_2 (g_1 b) + g_2 (g_1 b) / 16 + 16 * (g_2 (g_1 c) % 16)) + 65536 * (g_2 (g_1 c) + g_2 (g_1 c) / 16) by omega]
    rw [q_and24 (by omega) (by omega) (by decide) (by decide) (by omega) (by decide), g_f3 _ (by omega) _ (by omega) (by omega), g_f3 _ (by omega) _ (by omega) (by omega)]
    have ka := wa.1; have kb := wb.1; have kc := wc.1
    unfold g_3 at ka kb kc
    rw [ka, kb, kc]
  have na := wa.2.1; have nb := wb.2.1; have nc := wc.2.1
  have h4 : q_T (q_bc4 (q_bc3 (q_bc2 (q_bc1 s)))) = (g_b a + g_b b) + 256 * (g_b b + g_b c) + 65536 * g_b c := by
    have e1 : q_T (q_us (q_bc3 (q_bc2 (q_bc1 s))) 8) = g_b b + 256 * g_b c := by
      rw [q_T_us (k := 8) (by decide) (by decide), h3]; omega
    unfold q_bc4
    rw [q_T_add (by rw [e1, h3]; omega), e1, h3]; omega
  have h5 : q_T (q_bc5 (q_bc4 (q_bc3 (q_bc2 (q_bc1 s))))) = (g_b a + g_b b + g_b c) + 256 * (g_b b + g_b c) + 65536 * g_b c := by
    have e1 : q_T (q_us (q_bc4 (q_bc3 (q_bc2 (q_bc1 s)))) 16) = g_b c := by
      rw [q_T_us (k := 16) (by decide) (by decide), h4]; omega
    unfold q_bc5
    rw [q_T_add (by rw [e1, h4]; omega), e1, h4]; omega
  unfold q_bc
  rw [q_T_and, h5, show q_T 63 = 2 ^ 6 - 1 from by decide, Nat.and_two_pow_sub_one_eq_mod]
  omega
/-- a bit as a number -/
theorem q_bit_n {s : Int32} {k : Nat} (hk : k < 32) : (s >>> (nI k &&& 31)) &&& 1 = nI (q_T s / 2 ^ k % 2) := by
  have h1 : q_bit s k = s.toBitVec.getLsbD k := q_bitv hk
  have h2 : s.toBitVec.getLsbD k = decide (q_T s / 2 ^ k % 2 = 1) := by
    rw [BitVec.getLsbD, Nat.testBit_eq_decide_div_mod_eq]; rfl
  rcases Nat.mod_two_eq_zero_or_one (q_T s / 2 ^ k) with e | e
  · rw [e] at h2 ⊢
    have h3 : ¬ ((s >>> (nI k &&& 31)) &&& 1 = 1) := of_decide_eq_false (h1.trans h2)
    have h4 : ∀ y : Int32, y &&& 1 = 0 ∨ y &&& 1 = 1 := fun y => by
      have k1 : q_T (y &&& 1) = q_T y % 2 := by rw [q_T_and, show q_T 1 = 2 ^ 1 - 1 from by decide, Nat.and_two_pow_sub_one_eq_mod]
      rcases Nat.mod_two_eq_zero_or_one (q_T y) with e | e
      · exact Or.inl (q_T_inj (by rw [k1, e]; decide))
      · exact Or.inr (q_T_inj (by rw [k1, e]; decide))
    exact (h4 _).resolve_right h3
  · rw [e] at h2 ⊢
    exact of_decide_eq_true (h1.trans h2)
theorem q_ac_nI {f : Nat → Int32} {g : Nat → Nat} {i : Int32} {j n : Nat} (hi : i = nI j) (h : ∀ k, k < n → f k = nI (g k)) : q_ac i f n = nI (j + ((List.range n).map g).sum) := by
  induction n with
  | zero => rw [hi]; rfl
  | succ n ih => rw [q_ac, ih (fun k hk => h k (by omega)), h n (by omega), nI_add, List.range_succ, List.map_append, List.sum_append]; congr 1; simp; omega
theorem r_ty_n {s : Int32} : r_ty s 24 = nI (((List.range 24).map (fun k => q_T s / 2 ^ k % 2)).sum) := by
  exact (q_ac_nI (j := 0) (g := fun k => q_T s / 2 ^ k % 2) rfl (fun k hk => q_bit_n (by omega))).trans (by rw [Nat.zero_add])
theorem q_lo {x y : Nat} (j : Nat) (hj : j < 8) : (x + 256 * y) / 2 ^ j % 2 = x / 2 ^ j % 2 := by
  have e : (256 : Nat) = 2 ^ j * (2 * 2 ^ (7 - j)) := (by decide : ∀ j, j < 8 → (256 : Nat) = 2 ^ j * (2 * 2 ^ (7 - j))) j hj
  rw [e, Nat.mul_assoc, Nat.add_mul_div_left _ _ (Nat.two_pow_pos j), Nat.mul_assoc, Nat.add_mul_mod_self_left]
/-- the two counts of bits -/
theorem q_bc_ty {s : Int32} (h : q_T s < 16777216) : q_bc s = r_ty s 24 := by
  obtain ⟨a, ea⟩ : ∃ a, a = q_T s % 256 := ⟨_, rfl⟩
  obtain ⟨b, eb⟩ : ∃ b, b = q_T s / 256 % 256 := ⟨_, rfl⟩
  obtain ⟨c, ec⟩ : ∃ c, c = q_T s / 65536 := ⟨_, rfl⟩
  have e : q_T s = a + 256 * b + 65536 * c := by omega
  have h1 := q_bc_bytes (s := s) (a := a) (b := b) (c := c) (by omega) (by omega) (by omega) e
  have ha8 : a < 256 := by omega
  have hb8 : b < 256 := by omega
  have hc8 : c < 256 := by omega
  clear h1
  have h1 := q_bc_bytes (s := s) (a := a) (b := b) (c := c) ha8 hb8 hc8 e
  have hl : ((List.range 24).map (fun k => q_T s / 2 ^ k % 2)).sum = g_b a + g_b b + g_b c := by
    rw [e]
    clear e ea eb ec h1 h
    have hN : a + 256 * b + 65536 * c = a + 256 * (b + 256 * c) := by omega
    have h1 : (a + 256 * (b + 256 * c)) / 256 = b + 256 * c := by omega
    have h2 : (b + 256 * c) / 256 = c := by omega
    have e0 : (a + 256 * b + 65536 * c) / 2 ^ 0 % 2 = a / 2 ^ 0 % 2 := by
      rw [hN]
      exact q_lo 0 (by decide)
    have e1 : (a + 256 * b + 65536 * c) / 2 ^ 1 % 2 = a / 2 ^ 1 % 2 := by
      rw [hN]
      exact q_lo 1 (by decide)
    have e2 : (a + 256 * b + 65536 * c) / 2 ^ 2 % 2 = a / 2 ^ 2 % 2 := by
      rw [hN]
      exact q_lo 2 (by decide)
    have e3 : (a + 256 * b + 65536 * c) / 2 ^ 3 % 2 = a / 2 ^ 3 % 2 := by
      rw [hN]
      exact q_lo 3 (by decide)
    have e4 : (a + 256 * b + 65536 * c) / 2 ^ 4 % 2 = a / 2 ^ 4 % 2 := by
      rw [hN]
      exact q_lo 4 (by decide)
    have e5 : (a + 256 * b + 65536 * c) / 2 ^ 5 % 2 = a / 2 ^ 5 % 2 := by
      rw [hN]
      exact q_lo 5 (by decide)
    have e6 : (a + 256 * b + 65536 * c) / 2 ^ 6 % 2 = a / 2 ^ 6 % 2 := by
      rw [hN]
      exact q_lo 6 (by decide)
    have e7 : (a + 256 * b + 65536 * c) / 2 ^ 7 % 2 = a / 2 ^ 7 % 2 := by
      rw [hN]
      exact q_lo 7 (by decide)
    have e8 : (a + 256 * b + 65536 * c) / 2 ^ 8 % 2 = b / 2 ^ 0 % 2 := by
      rw [hN, show (2 : Nat) ^ 8 = 256 * 2 ^ 0 from by decide, ← Nat.div_div_eq_div_mul, h1]
      exact q_lo 0 (by decide)
    have e9 : (a + 256 * b + 65536 * c) / 2 ^ 9 % 2 = b / 2 ^ 1 % 2 := by
      rw [hN, show (2 : Nat) ^ 9 = 256 * 2 ^ 1 from by decide, ← Nat.div_div_eq_div_mul, h1]
      exact q_lo 1 (by decide)
    have e10 : (a + 256 * b + 65536 * c) / 2 ^ 10 % 2 = b / 2 ^ 2 % 2 := by
      rw [hN, show (2 : Nat) ^ 10 = 256 * 2 ^ 2 from by decide, ← Nat.div_div_eq_div_mul, h1]
      exact q_lo 2 (by decide)
    have e11 : (a + 256 * b + 65536 * c) / 2 ^ 11 % 2 = b / 2 ^ 3 % 2 := by
      rw [hN, show (2 : Nat) ^ 11 = 256 * 2 ^ 3 from by decide, ← Nat.div_div_eq_div_mul, h1]
      exact q_lo 3 (by decide)
    have e12 : (a + 256 * b + 65536 * c) / 2 ^ 12 % 2 = b / 2 ^ 4 % 2 := by
      rw [hN, show (2 : Nat) ^ 12 = 256 * 2 ^ 4 from by decide, ← Nat.div_div_eq_div_mul, h1]
      exact q_lo 4 (by decide)
    have e13 : (a + 256 * b + 65536 * c) / 2 ^ 13 % 2 = b / 2 ^ 5 % 2 := by
      rw [hN, show (2 : Nat) ^ 13 = 256 * 2 ^ 5 from by decide, ← Nat.div_div_eq_div_mul, h1]
      exact q_lo 5 (by decide)
    have e14 : (a + 256 * b + 65536 * c) / 2 ^ 14 % 2 = b / 2 ^ 6 % 2 := by
      rw [hN, show (2 : Nat) ^ 14 = 256 * 2 ^ 6 from by decide, ← Nat.div_div_eq_div_mul, h1]
      exact q_lo 6 (by decide)
    have e15 : (a + 256 * b + 65536 * c) / 2 ^ 15 % 2 = b / 2 ^ 7 % 2 := by
      rw [hN, show (2 : Nat) ^ 15 = 256 * 2 ^ 7 from by decide, ← Nat.div_div_eq_div_mul, h1]
      exact q_lo 7 (by decide)
    have e16 : (a + 256 * b + 65536 * c) / 2 ^ 16 % 2 = c / 2 ^ 0 % 2 := by
      rw [hN, show (2 : Nat) ^ 16 = 256 * 2 ^ 8 from by decide, ← Nat.div_div_eq_div_mul, h1, show (2 : Nat) ^ 8 = 256 * 2 ^ 0 from by decide, ← Nat.div_div_eq_div_mul, h2]
    have e17 : (a + 256 * b + 65536 * c) / 2 ^ 17 % 2 = c / 2 ^ 1 % 2 := by
      rw [hN, show (2 : Nat) ^ 17 = 256 * 2 ^ 9 from by decide, ← Nat.div_div_eq_div_mul, h1, show (2 : Nat) ^ 9 = 256 * 2 ^ 1 from by decide, ← Nat.div_div_eq_div_mul, h2]
    have e18 : (a + 256 * b + 65536 * c) / 2 ^ 18 % 2 = c / 2 ^ 2 % 2 := by
      rw [hN, show (2 : Nat) ^ 18 = 256 * 2 ^ 10 from by decide, ← Nat.div_div_eq_div_mul, h1, show (2 : Nat) ^ 10 = 256 * 2 ^ 2 from by decide, ← Nat.div_div_eq_div_mul, h2]
    have e19 : (a + 256 * b + 65536 * c) / 2 ^ 19 % 2 = c / 2 ^ 3 % 2 := by
      rw [hN, show (2 : Nat) ^ 19 = 256 * 2 ^ 11 from by decide, ← Nat.div_div_eq_div_mul, h1, show (2 : Nat) ^ 11 = 256 * 2 ^ 3 from by decide, ← Nat.div_div_eq_div_mul, h2]
    have e20 : (a + 256 * b + 65536 * c) / 2 ^ 20 % 2 = c / 2 ^ 4 % 2 := by
      rw [hN, show (2 : Nat) ^ 20 = 256 * 2 ^ 12 from by decide, ← Nat.div_div_eq_div_mul, h1, show (2 : Nat) ^ 12 = 256 * 2 ^ 4 from by decide, ← Nat.div_div_eq_div_mul, h2]
    have e21 : (a + 256 * b + 65536 * c) / 2 ^ 21 % 2 = c / 2 ^ 5 % 2 := by
      rw [hN, show (2 : Nat) ^ 21 = 256 * 2 ^ 13 from by decide, ← Nat.div_div_eq_div_mul, h1, show (2 : Nat) ^ 13 = 256 * 2 ^ 5 from by decide, ← Nat.div_div_eq_div_mul, h2]
    have e22 : (a + 256 * b + 65536 * c) / 2 ^ 22 % 2 = c / 2 ^ 6 % 2 := by
      rw [hN, show (2 : Nat) ^ 22 = 256 * 2 ^ 14 from by decide, ← Nat.div_div_eq_div_mul, h1, show (2 : Nat) ^ 14 = 256 * 2 ^ 6 from by decide, ← Nat.div_div_eq_div_mul, h2]
    have e23 : (a + 256 * b + 65536 * c) / 2 ^ 23 % 2 = c / 2 ^ 7 % 2 := by
      rw [hN, show (2 : Nat) ^ 23 = 256 * 2 ^ 15 from by decide, ← Nat.div_div_eq_div_mul, h1, show (2 : Nat) ^ 15 = 256 * 2 ^ 7 from by decide, ← Nat.div_div_eq_div_mul, h2]
    simp only [List.range, List.range.loop, List.map, List.sum_cons, List.sum_nil]
    rw [e0, e1, e2, e3, e4, e5, e6, e7, e8, e9, e10, e11, e12, e13, e14, e15, e16, e17, e18, e19, e20, e21, e22, e23]
    unfold g_b
    simp only [Nat.add_assoc, Nat.add_zero, Nat.pow_zero, Nat.div_one, Nat.reducePow]
  have wa := (g_f4 a ha8).2.1
  have wb := (g_f4 b hb8).2.1
  have wc := (g_f4 c hc8).2.1
  refine q_T_inj ?_
  rw [h1, r_ty_n, hl]
  show _ = (BitVec.ofNat 32 (g_b a + g_b b + g_b c)).toNat
  rw [BitVec.toNat_ofNat]
  exact (Nat.mod_eq_of_lt (by omega)).symm
theorem q_bit_01 {s : Int32} {k : Nat} (hk : k < 32) : (s >>> (nI k &&& 31)) &&& 1 = if q_bit s k = true then 1 else 0 := by
  by_cases e : q_bit s k = true
  · rw [if_pos e]; exact of_decide_eq_true e
  · rw [if_neg e]
    have h1 := q_bit_n (s := s) hk
    rcases Nat.mod_two_eq_zero_or_one (q_T s / 2 ^ k) with e2 | e2
    · rw [h1, e2]; rfl
    · rw [e2] at h1; exact absurd (decide_eq_true h1) e
theorem q_ac_c {f g : Nat → Int32} {i : Int32} {n : Nat} (h : ∀ k, k < n → f k = g k) : q_ac i f n = q_ac i g n := by
  induction n with
  | zero => rfl
  | succ n ih => rw [q_ac, q_ac, ih (fun k hk => h k (by omega)), h n (by omega)]
theorem r_ty_c {s : Int32} {d : Nat → Bool} (h : ∀ k, k < 24 → q_bit s k = d k) : r_ty s 24 = q_ac 0 (fun k => if d k = true then 1 else 0) 24 :=
  q_ac_c (fun k hk => (q_bit_01 (by omega)).trans (by rw [h k hk]))
theorem b_set_v {b : q_Bk} {t : Int32} {n i : Nat} (hn : n ≤ 32) (hi : i < 32) : (b_set b t n).toBitVec.getLsbD i = (decide (i < n) && b_plf b i t) := by
  induction n with
  | zero => rw [b_set]; simp
  | succ n ih =>
    rw [b_set]
    by_cases q : b_plf b n t = true
    · rw [if_pos q, Int32.toBitVec_or, BitVec.getLsbD_or, ih (by omega), q_shv (by omega) hi]
      by_cases e : i = n
      · subst e; simp [q]
      · have e2 : (decide (i < n + 1)) = decide (i < n) := decide_eq_decide.mpr (by omega)
        rw [e2, decide_eq_false e, Bool.or_false]
    · rw [if_neg q, ih (by omega)]
      by_cases e : i = n
      · subst e; simp [q]
      · have e2 : (decide (i < n + 1)) = decide (i < n) := decide_eq_decide.mpr (by omega)
        rw [e2]
theorem q_T_24 {s : Int32} (h : ∀ i, 24 ≤ i → i < 32 → s.toBitVec.getLsbD i = false) : q_T s < 16777216 := by
  refine Nat.lt_pow_two_of_testBit (n := 24) _ (fun i hi => ?_)
  by_cases e : i < 32
  · exact h i hi e
  · exact Nat.testBit_lt_two_pow (Nat.lt_of_lt_of_le (q_T_lt s) (Nat.pow_le_pow_right (n := 2) (i := 32) (by decide) (by omega)))
theorem b_set_24 {b : q_Bk} {t : Int32} : q_T (b_set b t 24) < 16777216 := q_T_24 (fun i h1 h2 => by rw [b_set_v (by decide) h2, decide_eq_false (by omega)]; rfl)
theorem r_set_24 {r : Nat → Int64} {t n : Nat} (hn : n ≤ 24) : q_T (r_set r t n) < 16777216 := q_T_24 (fun i h1 h2 => by rw [r_set_v (by omega) h2, decide_eq_false (by omega)]; rfl)
/-- a team's number of players in the class's books -/
theorem b_set_n {b : q_Bk} {t : Int32} : q_bc (b_set b t 24) = q_ac 0 (fun k => if p_t (b_p b k) = t then 1 else 0) 24 := by
  rw [q_bc_ty b_set_24, r_ty_c (d := fun k => b_plf b k t) (fun k hk => by rw [q_bitv (by omega), b_set_v (by decide) (by omega), decide_eq_true hk, Bool.true_and])]
  exact q_ac_c (fun k hk => by
    unfold b_plf
    by_cases e : p_t (b_p b k) = t
    · rw [if_pos (decide_eq_true e), if_pos e]
    · rw [if_neg (fun z => e (of_decide_eq_true z)), if_neg e])
end BITS
