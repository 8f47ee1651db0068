/-! Sets of places and sets of players -/
section RELG
/-- how many players of a set stand below -/
def s_n (A : Nat) : Nat → Nat
  | 0 => 0
  | m + 1 => s_n A m + (if A.testBit m = true then 1 else 0)
theorem s_n_s {A : Nat} (m : Nat) : s_n A (m + 1) = A % 2 + s_n (A / 2) m := by
  induction m with
  | zero =>
    rw [s_n, s_n, s_n, Nat.testBit_zero]
    rcases Nat.mod_two_eq_zero_or_one A with e | e
    · rw [e]; rfl
    · rw [e]; rfl
  | succ m ih =>
    rw [s_n, ih, s_n, Nat.testBit_succ]; omega
theorem s_c_n : ∀ f A, s_c f A = s_n A f
  | 0, _ => rfl
  | f + 1, A => by rw [s_c, s_n_s, s_c_n f]
theorem s_n_mono {A m k : Nat} (h : m ≤ k) : s_n A m ≤ s_n A k := by
  induction k with
  | zero => have : m = 0 := by omega
            rw [this]; exact Nat.le_refl _
  | succ k ih =>
    by_cases e : m = k + 1
    · rw [e]; exact Nat.le_refl _
    · have := ih (by omega)
      rw [s_n]; omega
/-- a set's players by its places -/
theorem s_d_bit : ∀ f A k m, (s_d f A k).testBit m = (decide (m < f) && A.testBit m && k.testBit (s_n A m))
  | 0, A, k, m => by rw [s_d, Nat.zero_testBit, decide_eq_false (by omega)]; rfl
  | f + 1, A, k, 0 => by
    rw [s_d, s_n, decide_eq_true (by omega), Bool.true_and, Nat.testBit_zero, Nat.testBit_zero, Nat.testBit_zero]
    by_cases e : A % 2 = 1
    · rw [if_pos e, show (k % 2 + 2 * s_d f (A / 2) (k / 2)) % 2 = k % 2 from by omega, decide_eq_true e, Bool.true_and]
    · rw [if_neg e, show 2 * s_d f (A / 2) k % 2 = 0 from by omega, decide_eq_false e, Bool.false_and]; rfl
  | f + 1, A, k, m + 1 => by
    have h1 := s_d_bit f (A / 2) (k / 2) m
    have h2 := s_d_bit f (A / 2) k m
    have hd : decide (m + 1 < f + 1) = decide (m < f) := decide_eq_decide.mpr (by omega)
    rw [s_d, s_n_s, hd, Nat.testBit_succ (A)]
    by_cases e : A % 2 = 1
    · rw [if_pos e, Nat.testBit_succ, show (k % 2 + 2 * s_d f (A / 2) (k / 2)) / 2 = s_d f (A / 2) (k / 2) from by omega, h1, e, Nat.add_comm 1, Nat.testBit_succ k]
    · rw [if_neg e, Nat.testBit_succ, show 2 * s_d f (A / 2) k / 2 = s_d f (A / 2) k from by omega, h2, show A % 2 = 0 from by omega, Nat.zero_add]
theorem q_bit_T {s : Int32} {k : Nat} (hk : k < 32) : q_bit s k = (q_T s).testBit k := q_bitv hk
theorem nI_bit {k i : Nat} (hk : k < 4294967296) (hi : i < 32) : q_bit (nI k) i = k.testBit i := by
  rw [q_bit_T hi]
  have : q_T (nI k) = k := by
    unfold q_T
    show (BitVec.ofNat 32 k).toNat = k
    rw [BitVec.toNat_ofNat]; exact Nat.mod_eq_of_lt hk
  rw [this]
end RELG
