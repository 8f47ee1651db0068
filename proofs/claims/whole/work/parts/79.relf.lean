/-! The fewest releases: the greedy walk is best -/
section RELF
/-- a sum of integers -/
def s_i (f : Nat → Int) : Nat → Int
  | 0 => 0
  | k + 1 => s_i f k + f k
theorem s_i_le {f g : Nat → Int} {n : Nat} (h : ∀ k, k < n → f k ≤ g k) : s_i f n ≤ s_i g n := by
  induction n with
  | zero => exact Int.le_refl _
  | succ n ih =>
    have h1 := ih (fun k hk => h k (by omega))
    have h2 := h n (by omega)
    rw [s_i, s_i]; omega
theorem s_i_c {f g : Nat → Int} {n : Nat} (h : ∀ k, k < n → f k = g k) : s_i f n = s_i g n := by
  induction n with
  | zero => rfl
  | succ n ih => rw [s_i, s_i, ih (fun k hk => h k (by omega)), h n (by omega)]
theorem s_i_sub {f : Nat → Int} {b : Nat → Bool} {m : Int} {n : Nat} : s_i (fun k => if b k = true then f k - m else 0) n = s_i (fun k => if b k = true then f k else 0) n - m * s_i (fun k => if b k = true then 1 else 0) n := by
  induction n with
  | zero => show (0 : Int) = 0 - m * 0; omega
  | succ n ih =>
    rw [s_i, s_i, s_i, ih, Int.mul_add]
    cases b n
    · simp only [if_neg (show ¬ (false = true) from by decide), Int.mul_zero]; omega
    · simp only [if_pos, Int.mul_one]; omega
theorem s_i_one {f g : Nat → Int} {n j : Nat} {d : Int} (hj : j < n) (h1 : g j = f j + d) (h2 : ∀ k, k < n → ¬ k = j → g k = f k) : s_i g n = s_i f n + d := by
  induction n with
  | zero => omega
  | succ n ih =>
    rw [s_i, s_i]
    by_cases e : j = n
    · subst e
      rw [s_i_c (fun k hk => h2 k (by omega) (by omega)), h1]; omega
    · rw [ih (by omega) (fun k hk => h2 k (by omega)), h2 n (by omega) (fun z => e z.symm)]; omega
theorem s_i_bd {f : Nat → Int} {D : Int} {n : Nat} (h : ∀ k, k < n → -D ≤ f k ∧ f k ≤ D) : -(n * D) ≤ s_i f n ∧ s_i f n ≤ n * D := by
  induction n with
  | zero => show -((0 : Nat) * D) ≤ 0 ∧ 0 ≤ (0 : Nat) * D; simp
  | succ n ih =>
    have h1 := ih (fun k hk => h k (by omega))
    have h2 := h n (by omega)
    have e : ((n + 1 : Nat) : Int) * D = n * D + D := by push_cast; rw [Int.add_mul, Int.one_mul]
    rw [s_i, e]; omega
theorem q_ac_ti {f : Nat → Int32} {D : Int} {n : Nat} (hD : 0 ≤ D) (h : ∀ k, k < n → -D ≤ (f k).toInt ∧ (f k).toInt ≤ D) (hN : n * D < 2147483648) : (q_ac 0 f n).toInt = s_i (fun k => (f k).toInt) n := by
  induction n with
  | zero => rfl
  | succ n ih =>
    have e : ((n + 1 : Nat) : Int) * D = n * D + D := by push_cast; rw [Int.add_mul, Int.one_mul]
    rw [e] at hN
    have h1 := ih (fun k hk => h k (by omega)) (by omega)
    have h2 := h n (by omega)
    have h3 := s_i_bd (f := fun k => (f k).toInt) (D := D) (n := n) (fun k hk => h k (by omega))
    rw [q_ac, s_i, q_add_i (by rw [h1]; omega) (by rw [h1]; omega), h1]
theorem q_cn_i {s : Int32} (n : Nat) : (q_cn s n : Int) = s_i (fun k => if q_bit s k = true then 1 else 0) n := by
  induction n with
  | zero => rfl
  | succ n ih => rw [q_cn, s_i, ← ih]; split <;> push_cast <;> omega
section
variable {g : Nat → Int32} {n : Nat} {D : Int}
/-- what a set of places gains -/
def s_s (g : Nat → Int32) (n : Nat) (u : Int32) : Int := s_i (fun k => if q_bit u k = true then (g k).toInt else 0) n
theorem s_s_e (hD : 0 ≤ D) (hg : ∀ k, k < n → -D ≤ (g k).toInt ∧ (g k).toInt ≤ D) (hN : n * D < 2147483648) (u : Int32) : (rl_sum g n u).toInt = s_s g n u := by
  unfold rl_sum s_s
  rw [q_ac_ti hD (fun k hk => ?_) hN]
  · exact s_i_c (fun k hk => by split <;> rfl)
  · split
    · exact hg k hk
    · rw [show (0 : Int32).toInt = 0 from by decide]; omega
/-- the greedy set is at least as good as any set of its size -/
theorem s_top {u v : Int32} {m : Int} (h1 : ∀ k, k < n → q_bit u k = true → m ≤ (g k).toInt) (h2 : ∀ k, k < n → ¬ q_bit u k = true → (g k).toInt ≤ m) (hc : q_cn v n ≤ q_cn u n) (h0 : 0 ≤ m) : s_s g n v ≤ s_s g n u := by
  have a := s_i_sub (f := fun k => (g k).toInt) (b := fun k => q_bit u k) (m := m) (n := n)
  have b := s_i_sub (f := fun k => (g k).toInt) (b := fun k => q_bit v k) (m := m) (n := n)
  have c := s_i_le (f := fun k => if q_bit v k = true then (g k).toInt - m else 0) (g := fun k => if q_bit u k = true then (g k).toInt - m else 0) (n := n) (fun k hk => by
    show (if q_bit v k = true then (g k).toInt - m else 0) ≤ (if q_bit u k = true then (g k).toInt - m else 0)
    by_cases e : q_bit u k = true
    · have := h1 k hk e
      rw [if_pos e]; split <;> omega
    · have := h2 k hk e
      rw [if_neg e]; split <;> omega)
  rw [← q_cn_i] at a b
  have d : m * (q_cn v n : Int) ≤ m * (q_cn u n : Int) := Int.mul_le_mul_of_nonneg_left (by omega) h0
  unfold s_s
  omega
theorem q_or_bit {u : Int32} {j k : Nat} (hj : j < 32) (hk : k < 32) : q_bit (u ||| ((1 : Int32) <<< (nI j &&& 31))) k = (q_bit u k || decide (k = j)) := by
  rw [q_bitv hk, q_bitv hk, Int32.toBitVec_or, BitVec.getLsbD_or, q_shv hj hk]
theorem q_bit_z {u : Int32} {k : Nat} (hk : k < 32) : (u >>> (nI k &&& 31)) &&& 1 = 0 ↔ q_bit u k = false := by
  rw [q_bit_01 hk]
  cases q_bit u k
  · rw [if_neg (by decide)]; exact ⟨fun _ => rfl, fun _ => rfl⟩
  · rw [if_pos rfl]; exact ⟨fun z => absurd z (by decide), fun z => by cases z⟩
/-- the greatest gain that is left -/
theorem rl_gg_n {u : Int32} {m : Nat} (hm : m ≤ 32) (e : rl_gg g u m = none) : ∀ k, k < m → q_bit u k = false → g k ≤ 0 := by
  induction m with
  | zero => intro k hk; omega
  | succ m ih =>
    intro k hk hb
    rw [rl_gg] at e
    cases q : rl_gg g u m with
    | none =>
      rw [q] at e
      by_cases z : k = m
      · subst z
        by_cases y : (u >>> (nI k &&& 31)) &&& 1 = 0 ∧ ¬ g k ≤ 0
        · have e : (if (u >>> (nI k &&& 31)) &&& 1 = 0 ∧ ¬ g k ≤ 0 then some k else none) = none := e
          rw [if_pos y] at e
          cases e
        · exact Decidable.byContradiction (fun w => y ⟨(q_bit_z (by omega)).mpr hb, w⟩)
      · exact ih (by omega) q k (by omega) hb
    | some j =>
      rw [q] at e
      exact absurd e (by show ¬ (if _ then some m else some j) = none; split <;> exact fun z => by cases z)
theorem rl_gg_s {u : Int32} {m j : Nat} (hm : m ≤ 32) (e : rl_gg g u m = some j) : q_bit u j = false ∧ ¬ g j ≤ 0 ∧ ∀ k, k < m → q_bit u k = false → g k ≤ g j := by
  induction m generalizing j with
  | zero => cases e
  | succ m ih =>
    rw [rl_gg] at e
    cases q : rl_gg g u m with
    | none =>
      rw [q] at e
      have hn := rl_gg_n (show m ≤ 32 by omega) q
      by_cases y : (u >>> (nI m &&& 31)) &&& 1 = 0 ∧ ¬ g m ≤ 0
      · have e : (if (u >>> (nI m &&& 31)) &&& 1 = 0 ∧ ¬ g m ≤ 0 then some m else none) = some j := e
        rw [if_pos y] at e
        cases e
        refine ⟨(q_bit_z (by omega)).mp y.1, y.2, fun k hk hb => ?_⟩
        by_cases z : k = m
        · rw [z]; exact Int32.le_refl _
        · exact Int32.le_trans (hn k (by omega) hb) (Int32.le_of_lt (Int32.not_le.mp y.2))
      · have e : (if (u >>> (nI m &&& 31)) &&& 1 = 0 ∧ ¬ g m ≤ 0 then some m else none) = some j := e
        rw [if_neg y] at e
        cases e
    | some i =>
      rw [q] at e
      obtain ⟨i1, i2, i3⟩ := ih (by omega) q
      by_cases y : (u >>> (nI m &&& 31)) &&& 1 = 0 ∧ ¬ g m ≤ 0 ∧ ¬ g m ≤ g i
      · have e : (if (u >>> (nI m &&& 31)) &&& 1 = 0 ∧ ¬ g m ≤ 0 ∧ ¬ g m ≤ g i then some m else some i) = some j := e
        rw [if_pos y] at e
        cases e
        refine ⟨(q_bit_z (by omega)).mp y.1, y.2.1, fun k hk hb => ?_⟩
        by_cases z : k = m
        · rw [z]; exact Int32.le_refl _
        · exact Int32.le_trans (i3 k (by omega) hb) (Int32.le_of_lt (Int32.not_le.mp y.2.2))
      · have e : (if (u >>> (nI m &&& 31)) &&& 1 = 0 ∧ ¬ g m ≤ 0 ∧ ¬ g m ≤ g i then some m else some i) = some j := e
        rw [if_neg y] at e
        cases e
        refine ⟨i1, i2, fun k hk hb => ?_⟩
        by_cases z : k = m
        · subst z
          exact Decidable.byContradiction (fun w => y ⟨(q_bit_z (by omega)).mpr hb, fun w2 => i2 (Int32.le_trans (Int32.le_of_lt (Int32.not_le.mp w)) w2), w⟩)
        · exact i3 k (by omega) hb
/-- what the greedy walk answers -/
theorem rl_few_e {need : Int32} (hn : n ≤ 12) (hD : 0 ≤ D) (hg : ∀ k, k < n → -D ≤ (g k).toInt ∧ (g k).toInt ≤ D) (hN : n * D < 2147483648) : ∀ f i s u, i + f = n + 1 → s.toInt = s_s g n u → q_cn u n = i → (∀ k, n ≤ k → k < 32 → q_bit u k = false) →
    (∃ m : Int, 0 ≤ m ∧ (∀ k, k < n → q_bit u k = true → m ≤ (g k).toInt ∧ 0 < (g k).toInt) ∧ ∀ k, k < n → ¬ q_bit u k = true → (g k).toInt ≤ m) → (∀ v, q_cn v n < i → s_s g n v < need.toInt) →
    (rl_few g n need f i s u = -2 ∧ ∀ v, s_s g n v < need.toInt) ∨ ∃ t v, t ≤ n ∧ rl_few g n need f i s u = nI t ∧ q_cn v n = t ∧ (∀ k, n ≤ k → k < 32 → q_bit v k = false) ∧ need.toInt ≤ s_s g n v ∧ ∀ v, need.toInt ≤ s_s g n v → t ≤ q_cn v n := by
  intro f
  induction f with
  | zero => intro i s u hi _ hc; have := q_cn_le (s := u) n; omega
  | succ f ih =>
    intro i s u hi hs hc hz ⟨m, hm, m1, m2⟩ hv
    rw [rl_few]
    by_cases q : s < need
    · rw [if_pos q]
      have q' := Int32.lt_iff_toInt_lt.mp q
      have hv' : ∀ v, q_cn v n < i + 1 → s_s g n v < need.toInt := fun v hv => by
        have := s_top (g := g) (n := n) (u := u) (v := v) (m := m) (fun k hk e => (m1 k hk e).1) m2 (by omega) hm
        omega
      cases e : rl_gg g u n with
      | none =>
        refine Or.inl ⟨rfl, fun v => ?_⟩
        have hn0 := rl_gg_n (by omega) e
        have : s_s g n v ≤ s_s g n u := s_i_le (fun k hk => by
          by_cases b : q_bit u k = true
          · have := (m1 k hk b).2
            rw [if_pos b]; split <;> omega
          · have := Int32.le_iff_toInt_le.mp (hn0 k hk (by cases z : q_bit u k; rfl; exact absurd z b))
            rw [show (0 : Int32).toInt = 0 from by decide] at this
            rw [if_neg b]; split <;> omega)
        omega
      | some j =>
        obtain ⟨j1, j2, j3⟩ := rl_gg_s (by omega) e
        have hj := rl_gg_lt e
        have j2' := Int32.lt_iff_toInt_lt.mp (Int32.not_le.mp j2)
        rw [show (0 : Int32).toInt = 0 from by decide] at j2'
        have ob : ∀ k, k < 32 → q_bit (u ||| ((1 : Int32) <<< (nI j &&& 31))) k = (q_bit u k || decide (k = j)) := fun k hk => q_or_bit (by omega) hk
        have bs := s_i_bd (f := fun k => if q_bit u k = true then (g k).toInt else 0) (D := D) (n := n) (fun k hk => by have := hg k hk; show -D ≤ (if q_bit u k = true then (g k).toInt else 0) ∧ (if q_bit u k = true then (g k).toInt else 0) ≤ D; split <;> omega)
        have gj := hg j hj
        have e1 : s_s g n (u ||| ((1 : Int32) <<< (nI j &&& 31))) = s_s g n u + (g j).toInt := s_i_one hj (by
            show (if q_bit _ j = true then (g j).toInt else 0) = (if q_bit u j = true then (g j).toInt else 0) + (g j).toInt
            rw [ob j (by omega), j1, decide_eq_true rfl, if_pos (by rfl), if_neg (by decide)]; omega) (fun k hk h => by
            show (if q_bit _ k = true then (g k).toInt else 0) = (if q_bit u k = true then (g k).toInt else 0)
            rw [ob k (by omega), decide_eq_false h, Bool.or_false])
        have e2 : q_cn (u ||| ((1 : Int32) <<< (nI j &&& 31))) n = i + 1 := by
          have := q_cn_i (s := u ||| ((1 : Int32) <<< (nI j &&& 31))) n
          rw [s_i_one (f := fun k => if q_bit u k = true then 1 else 0) (d := 1) hj (by
            show (if q_bit _ j = true then (1 : Int) else 0) = (if q_bit u j = true then 1 else 0) + 1
            rw [ob j (by omega), j1, decide_eq_true rfl, if_pos (by rfl), if_neg (by decide)]; omega) (fun k hk h => by
            show (if q_bit _ k = true then (1 : Int) else 0) = (if q_bit u k = true then 1 else 0)
            rw [ob k (by omega), decide_eq_false h, Bool.or_false]), ← q_cn_i] at this
          omega
        have sb : s_s g n u ≤ n * D ∧ -(n * D) ≤ s_s g n u := ⟨bs.2, bs.1⟩
        have sb2 := s_i_bd (f := fun k => if q_bit (u ||| ((1 : Int32) <<< (nI j &&& 31))) k = true then (g k).toInt else 0) (D := D) (n := n) (fun k hk => by have := hg k hk; show -D ≤ (if q_bit (u ||| ((1 : Int32) <<< (nI j &&& 31))) k = true then (g k).toInt else 0) ∧ (if q_bit (u ||| ((1 : Int32) <<< (nI j &&& 31))) k = true then (g k).toInt else 0) ≤ D; split <;> omega)
        have sb3 : s_s g n (u ||| ((1 : Int32) <<< (nI j &&& 31))) ≤ n * D ∧ -(n * D) ≤ s_s g n (u ||| ((1 : Int32) <<< (nI j &&& 31))) := ⟨sb2.2, sb2.1⟩
        refine ih (i + 1) _ _ (by omega) ?_ e2 (fun k h1 h2 => by rw [ob k h2, hz k h1 h2, decide_eq_false (by omega)]; rfl) ⟨(g j).toInt, by omega, fun k hk hb => ?_, fun k hk hb => ?_⟩ hv'
        · rw [e1, ← hs, q_add_i (by omega) (by omega)]
        · rw [ob k (by omega)] at hb
          by_cases z : k = j
          · subst z; omega
          · rw [decide_eq_false z, Bool.or_false] at hb
            have := m1 k hk hb
            have := m2 j hj (by rw [j1]; decide)
            omega
        · rw [ob k (by omega)] at hb
          have z1 : q_bit u k = false := by cases z : q_bit u k; rfl; rw [z] at hb; exact absurd rfl hb
          exact Int32.le_iff_toInt_le.mp (j3 k hk z1)
    · rw [if_neg q]
      have q' : ¬ s.toInt < need.toInt := fun z => q (Int32.lt_iff_toInt_lt.mpr z)
      refine Or.inr ⟨i, u, by have := q_cn_le (s := u) n; omega, rfl, hc, hz, by omega, fun v h => ?_⟩
      refine Decidable.byContradiction (fun w => ?_)
      have := hv v (by omega)
      omega
end
end RELF
