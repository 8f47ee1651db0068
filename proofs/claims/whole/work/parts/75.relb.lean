/-! The sets of a team's players in rising order -/
section RELB
/-- the bits of k laid into the places of A -/
def s_d : Nat → Nat → Nat → Nat
  | 0, _, _ => 0
  | f + 1, A, k => if A % 2 = 1 then k % 2 + 2 * s_d f (A / 2) (k / 2) else 2 * s_d f (A / 2) k
/-- the number of places -/
def s_c : Nat → Nat → Nat
  | 0, _ => 0
  | f + 1, A => A % 2 + s_c f (A / 2)
theorem s_d_lt : ∀ f A k, s_d f A k < 2 ^ f
  | 0, _, _ => Nat.one_pos
  | f + 1, A, k => by
    have h1 := s_d_lt f (A / 2) (k / 2)
    have h2 := s_d_lt f (A / 2) k
    rw [s_d, Nat.pow_succ]
    split <;> omega
theorem s_d_z : ∀ f A, s_d f A 0 = 0
  | 0, _ => rfl
  | f + 1, A => by
    rw [s_d]
    have h1 := s_d_z f (A / 2)
    split
    · rw [show 0 / 2 = 0 from rfl, h1]
    · rw [h1]
theorem s_d_e : ∀ f A, s_d f A (2 ^ s_c f A) = 0
  | 0, _ => rfl
  | f + 1, A => by
    have h1 := s_d_e f (A / 2)
    rw [s_d, s_c]
    by_cases e : A % 2 = 1
    · rw [if_pos e, e, Nat.add_comm 1, Nat.pow_succ, Nat.mul_mod_left, Nat.mul_div_cancel _ (by decide), h1]
    · rw [if_neg e, show A % 2 = 0 from by omega, Nat.zero_add, h1]
theorem s_d_n : ∀ f A k, 0 < k → k < 2 ^ s_c f A → 0 < s_d f A k
  | 0, _, k, h1, h2 => by rw [s_c] at h2; omega
  | f + 1, A, k, h1, h2 => by
    rw [s_d]
    rw [s_c] at h2
    by_cases e : A % 2 = 1
    · rw [if_pos e]
      rw [e, Nat.add_comm 1, Nat.pow_succ] at h2
      by_cases q : k % 2 = 1
      · omega
      · have := s_d_n f (A / 2) (k / 2) (by omega) (by omega)
        omega
    · rw [if_neg e]
      rw [show A % 2 = 0 from by omega, Nat.zero_add] at h2
      have := s_d_n f (A / 2) k h1 h2
      omega
theorem q_or2 (x y : Nat) : x ||| y = 2 * ((x / 2) ||| (y / 2)) + (x % 2 ||| y % 2) := by
  have h1 : (x ||| y) / 2 = (x / 2) ||| (y / 2) := Nat.or_div_two
  have h2 : (x ||| y) % 2 ^ 1 = x % 2 ^ 1 ||| y % 2 ^ 1 := Nat.or_mod_two_pow
  rw [← h1]
  rw [show 2 ^ 1 = 2 from rfl] at h2
  rw [← h2]; omega
theorem q_and2 (x y : Nat) : x &&& y = 2 * ((x / 2) &&& (y / 2)) + (x % 2 &&& y % 2) := by
  have h1 : (x &&& y) / 2 = (x / 2) &&& (y / 2) := Nat.and_div_two
  have h2 : (x &&& y) % 2 ^ 1 = x % 2 ^ 1 &&& y % 2 ^ 1 := Nat.and_mod_two_pow
  rw [← h1]
  rw [show 2 ^ 1 = 2 from rfl] at h2
  rw [← h2]; omega
theorem s_d_sub : ∀ f A k, s_d f A k &&& A = s_d f A k
  | 0, A, _ => Nat.zero_and A
  | f + 1, A, k => by
    have h1 := s_d_sub f (A / 2) (k / 2)
    have h2 := s_d_sub f (A / 2) k
    rw [q_and2, s_d]
    by_cases e : A % 2 = 1
    · rw [if_pos e, e, show (k % 2 + 2 * s_d f (A / 2) (k / 2)) / 2 = s_d f (A / 2) (k / 2) from by omega, show (k % 2 + 2 * s_d f (A / 2) (k / 2)) % 2 = k % 2 from by omega, h1]
      rcases Nat.mod_two_eq_zero_or_one k with q | q
      · rw [q, Nat.zero_and]; omega
      · rw [q, show 1 &&& 1 = 1 from rfl]; omega
    · rw [if_neg e, show A % 2 = 0 from by omega, Nat.and_zero, show 2 * s_d f (A / 2) k / 2 = s_d f (A / 2) k from by omega, h2]; rfl
theorem q_cmp {f A : Nat} (h : A < 2 ^ f) : (2 ^ f - 1 - A) &&& A = 0 := by
  refine Nat.eq_of_testBit_eq (fun i => ?_)
  rw [Nat.testBit_and, show 2 ^ f - 1 - A = 2 ^ f - (A + 1) from by omega, Nat.testBit_two_pow_sub_succ h, Nat.zero_testBit]
  cases A.testBit i <;> simp
/-- the next set in the order -/
def s_nx (f A s : Nat) : Nat := ((s ||| (2 ^ f - 1 - A)) + 1) % 2 ^ f &&& A
theorem q_or_lt {x y f : Nat} (hx : x < 2 ^ f) (hy : y < 2 ^ f) : x ||| y < 2 ^ f := Nat.or_lt_two_pow hx hy
theorem s_nx_d : ∀ f A k, A < 2 ^ f → s_nx f A (s_d f A k) = s_d f A (k + 1)
  | 0, A, k, h => by
    have : A = 0 := by rw [Nat.pow_zero] at h; omega
    subst this; exact Nat.and_zero _
  | f + 1, A, k, h => by
    rw [Nat.pow_succ] at h
    have hp := Nat.two_pow_pos f
    have hA : A / 2 < 2 ^ f := by omega
    have i1 := s_nx_d f (A / 2) (k / 2) hA
    have i2 := s_nx_d f (A / 2) k hA
    unfold s_nx at i1 i2 ⊢
    have d1 := s_d_lt f (A / 2) (k / 2)
    have d2 := s_d_lt f (A / 2) k
    rw [q_or2, q_and2, Nat.pow_succ, s_d, s_d]
    by_cases e : A % 2 = 1
    · have x1 : (2 ^ f * 2 - 1 - A) / 2 = 2 ^ f - 1 - A / 2 := by omega
      have x2 : (2 ^ f * 2 - 1 - A) % 2 = 0 := by omega
      have o1 : s_d f (A / 2) (k / 2) ||| (2 ^ f - 1 - A / 2) < 2 ^ f := q_or_lt d1 (by omega)
      have s1 : (s_d f (A / 2) (k / 2) ||| (2 ^ f - 1 - A / 2)) &&& (A / 2) = s_d f (A / 2) (k / 2) := by
        rw [Nat.and_or_distrib_right, q_cmp hA, Nat.or_zero, s_d_sub]
      rw [if_pos e, if_pos e, x1, x2, e, show (k % 2 + 2 * s_d f (A / 2) (k / 2)) / 2 = s_d f (A / 2) (k / 2) from by omega, show (k % 2 + 2 * s_d f (A / 2) (k / 2)) % 2 = k % 2 from by omega, Nat.or_zero]
      rcases Nat.mod_two_eq_zero_or_one k with q | q
      · rw [q, Nat.add_zero, Nat.mod_eq_of_lt (show 2 * (s_d f (A / 2) (k / 2) ||| (2 ^ f - 1 - A / 2)) + 1 < 2 ^ f * 2 from by omega)]
        rw [show (2 * (s_d f (A / 2) (k / 2) ||| (2 ^ f - 1 - A / 2)) + 1) / 2 = s_d f (A / 2) (k / 2) ||| (2 ^ f - 1 - A / 2) from by omega, s1, show (2 * (s_d f (A / 2) (k / 2) ||| (2 ^ f - 1 - A / 2)) + 1) % 2 = 1 from by omega]
        rw [show (k + 1) / 2 = k / 2 from by omega, show (k + 1) % 2 = 1 from by omega, show 1 &&& 1 = 1 from rfl]; omega
      · rw [q, show 2 * (s_d f (A / 2) (k / 2) ||| (2 ^ f - 1 - A / 2)) + 1 + 1 = ((s_d f (A / 2) (k / 2) ||| (2 ^ f - 1 - A / 2)) + 1) * 2 from by omega, Nat.mul_mod_mul_right, Nat.mul_div_cancel _ (by decide), i1, Nat.mul_mod_left, Nat.zero_and]
        rw [show (k + 1) / 2 = k / 2 + 1 from by omega, show (k + 1) % 2 = 0 from by omega]; omega
    · have x1 : (2 ^ f * 2 - 1 - A) / 2 = 2 ^ f - 1 - A / 2 := by omega
      have x2 : (2 ^ f * 2 - 1 - A) % 2 = 1 := by omega
      rw [if_neg e, if_neg e, x1, x2, show A % 2 = 0 from by omega, Nat.and_zero, show 2 * s_d f (A / 2) k / 2 = s_d f (A / 2) k from by omega, show 2 * s_d f (A / 2) k % 2 = 0 from by omega, Nat.zero_or]
      rw [show 2 * (s_d f (A / 2) k ||| (2 ^ f - 1 - A / 2)) + 1 + 1 = ((s_d f (A / 2) k ||| (2 ^ f - 1 - A / 2)) + 1) * 2 from by omega, Nat.mul_mod_mul_right, Nat.mul_div_cancel _ (by decide), i2]
      omega
theorem q_T_nxs {all s : Int32} : q_T (r_nxs all s) = s_nx 32 (q_T all) (q_T s) := by
  unfold r_nxs s_nx q_T
  rw [Int32.toBitVec_and, BitVec.toNat_and, Int32.toBitVec_add, BitVec.toNat_add, Int32.toBitVec_or, BitVec.toNat_or, Int32.toBitVec_xor]
  rw [show Int32.toBitVec (-1) = BitVec.allOnes 32 from by decide, BitVec.xor_allOnes, BitVec.toNat_not]; rfl
theorem q_T_it {all : Int32} (k : Nat) : q_T (r_it all k) = s_d 32 (q_T all) k := by
  induction k with
  | zero => rw [s_d_z]; rfl
  | succ k ih => rw [r_it, q_T_nxs, ih, s_nx_d _ _ _ (q_T_lt all)]
/-- the walk ends after every set -/
theorem r_it_N {all : Int32} : 0 < 2 ^ s_c 32 (q_T all) ∧ (∀ i, 0 < i → i < 2 ^ s_c 32 (q_T all) → ¬ r_it all i = 0) ∧ r_it all (2 ^ s_c 32 (q_T all)) = 0 := by
  refine ⟨Nat.two_pow_pos _, fun i h1 h2 e => ?_, q_T_inj (by rw [q_T_it, s_d_e]; rfl)⟩
  have h3 := s_d_n 32 (q_T all) i h1 h2
  rw [← q_T_it, e] at h3
  exact absurd h3 (by decide)
end RELB
