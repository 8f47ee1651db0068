/-! Terms: caps, lines, taxes on both sides; bounds of sums -/
section REL2
def RE (T : q_Te) (M : q_Mo) (nt np nb : Nat) : Prop :=
  (1 ≤ nt ∧ nt ≤ 4) ∧ (1 ≤ np ∧ np ≤ 24) ∧ (1 ≤ nb ∧ nb ≤ 4) ∧ (te_t T = nI nt ∧ M.1 5 = nI nt ∧ te_p T = nI np ∧ M.1 6 = nI np ∧ te_n T = nI nb ∧ M.1 7 = nI nb) ∧
  (∀ k, k < 27 → te_c T k = (te_g (M.1 8) (M.1 10) k).toInt32 ∧ te_l T k = (te_g (M.1 9) (M.1 10) k).toInt32) ∧ te_m T = M.1 11 ∧ te_u T = M.1 12 ∧
  (∀ b, b < nb → te_s T b = M.2.2 3 b ∧ te_r T b = M.2.2 4 b ∧ 1 ≤ te_s T b ∧ 0 ≤ te_r T b ∧ te_r T b ≤ 900) ∧ (1 ≤ M.1 8 ∧ M.1 8 ≤ 999999) ∧ (1 ≤ M.1 9 ∧ M.1 9 ≤ 999999) ∧ (0 ≤ M.1 10 ∧ M.1 10 ≤ 200) ∧ (0 ≤ te_m T ∧ te_m T ≤ 99999) ∧ (1 ≤ te_u T ∧ te_u T ≤ 99999)
theorem q_i32 {a b : Int32} : (a ≤ b) ↔ a.toInt ≤ b.toInt := Int32.le_iff_toInt_le
theorem q_add_i {a b : Int32} (h1 : -2147483648 ≤ a.toInt + b.toInt) (h2 : a.toInt + b.toInt < 2147483648) : (a + b).toInt = a.toInt + b.toInt := by
  rw [Int32.toInt_add]; exact Int.bmod_eq_of_le (by omega) (by omega)
theorem q_sub_i {a b : Int32} (h1 : -2147483648 ≤ a.toInt - b.toInt) (h2 : a.toInt - b.toInt < 2147483648) : (a - b).toInt = a.toInt - b.toInt := by
  rw [Int32.toInt_sub]; exact Int.bmod_eq_of_le (by omega) (by omega)
/-- bounds of a sum -/
theorem q_ac_bd {f : Nat → Int32} {i : Int32} {A D : Int} {n : Nat} (hi : 0 ≤ i.toInt ∧ i.toInt ≤ A) (hf : ∀ k, k < n → 0 ≤ (f k).toInt ∧ (f k).toInt ≤ D) (hD : 0 ≤ D) (hN : A + n * D < 2147483648) : 0 ≤ (q_ac i f n).toInt ∧ (q_ac i f n).toInt ≤ A + n * D := by
  induction n with
  | zero => simpa [q_ac] using hi
  | succ n ih =>
    have e : ((n + 1 : Nat) : Int) * D = n * D + D := by push_cast; rw [Int.add_mul, Int.one_mul]
    rw [e] at hN ⊢
    have h1 := ih (fun k hk => hf k (by omega)) (by omega)
    have h2 := hf n (by omega)
    rw [q_ac, q_add_i (by omega) (by omega)]
    omega
/-- growth stays small -/
def g_bd : Nat → Nat
  | 0 => 999999
  | k + 1 => g_bd k * 1200 / 1000
theorem g_bd_lt : ∀ k, k < 27 → g_bd k < 150000000 := by decide
theorem te_g_bd {x g : Int32} (hx : 1 ≤ x.toInt ∧ x.toInt ≤ 999999) (hg : 0 ≤ g.toInt ∧ g.toInt ≤ 200) (k : Nat) (hk : k < 27) : 0 ≤ (te_g x g k).toInt ∧ (te_g x g k).toInt ≤ g_bd k := by
  induction k with
  | zero =>
    show 0 ≤ (x.toInt64).toInt ∧ (x.toInt64).toInt ≤ ((999999 : Nat) : Int)
    rw [Int32.toInt_toInt64]; omega
  | succ k ih =>
    have h1 := ih (by omega)
    have hb := g_bd_lt k (by omega)
    have e1 : (1000 + g : Int32).toInt = 1000 + g.toInt := by
      rw [q_add_i (by rw [show (1000 : Int32).toInt = 1000 from by decide]; omega) (by rw [show (1000 : Int32).toInt = 1000 from by decide]; omega)]; rfl
    have e2 : ((te_g x g k) * (1000 + g).toInt64).toInt = (te_g x g k).toInt * (1000 + g.toInt) := by
      rw [Int64.toInt_mul, Int32.toInt_toInt64, e1]
      have u1 : 0 ≤ (te_g x g k).toInt * (1000 + g.toInt) := Int.mul_nonneg h1.1 (by omega)
      have u2 : (te_g x g k).toInt * (1000 + g.toInt) ≤ 150000000 * 1200 := Int.mul_le_mul (by omega) (by omega) (by omega) (by omega)
      exact Int.bmod_eq_of_le (by omega) (by omega)
    have u1 : 0 ≤ (te_g x g k).toInt * (1000 + g.toInt) := Int.mul_nonneg h1.1 (by omega)
    have u2 : (te_g x g k).toInt * (1000 + g.toInt) ≤ (g_bd k : Int) * 1200 := Int.mul_le_mul h1.2 (by omega) (by omega) (by omega)
    have e3 : (te_g x g (k + 1)).toInt = ((te_g x g k).toInt * (1000 + g.toInt)) / 1000 := by
      show ((te_g x g k) * (1000 + g).toInt64 / 1000).toInt = _
      rw [Int64.toInt_div_of_ne_right _ _ (by decide), e2, show (1000 : Int64).toInt = 1000 from by decide, Int.tdiv_eq_ediv_of_nonneg u1]
    rw [e3]
    show 0 ≤ _ ∧ _ ≤ ((g_bd k * 1200 / 1000 : Nat) : Int)
    omega
theorem te_g_32 {x g : Int32} (hx : 1 ≤ x.toInt ∧ x.toInt ≤ 999999) (hg : 0 ≤ g.toInt ∧ g.toInt ≤ 200) {k : Nat} (hk : k < 27) : 0 ≤ ((te_g x g k).toInt32).toInt ∧ ((te_g x g k).toInt32).toInt < 150000000 := by
  have h1 := te_g_bd hx hg k hk
  have h2 := g_bd_lt k hk
  rw [Int64.toInt_toInt32, Int.bmod_eq_of_le (by omega) (by omega)]
  omega
section
variable {T : q_Te} {M : q_Mo} {nt np nb : Nat}
theorem RE.r8 (h : RE T M nt np nb) : (1 ≤ (M.1 8).toInt ∧ (M.1 8).toInt ≤ 999999) ∧ (1 ≤ (M.1 9).toInt ∧ (M.1 9).toInt ≤ 999999) ∧ (0 ≤ (M.1 10).toInt ∧ (M.1 10).toInt ≤ 200) := by
  obtain ⟨-, -, -, -, -, -, -, -, a, b, c, -, -⟩ := h
  rw [q_i32, q_i32] at a b c
  exact ⟨a, b, c⟩
theorem RE.cap (h : RE T M nt np nb) {w x : Nat} (hx : w + x < 27) : r_cap M.1 w x = te_ci T (nI w + nI x) := by
  unfold te_ci r_cap
  rw [nI_add, if_neg (fun z => z.elim (nI_pos (by omega)) (fun z => (nI_ge (a := w + x) (b := 27) hx (by decide)) z)), nI_clamp (by omega)]
  exact ((h.2.2.2.2.1 (w + x) hx).1).symm
theorem RE.line (h : RE T M nt np nb) {w x : Nat} (hx : w + x < 27) : r_ln M.1 w x = te_li T (nI w + nI x) := by
  unfold te_li r_ln
  rw [nI_add, if_neg (fun z => z.elim (nI_pos (by omega)) (fun z => (nI_ge (a := w + x) (b := 27) hx (by decide)) z)), nI_clamp (by omega)]
  exact ((h.2.2.2.2.1 (w + x) hx).2).symm
theorem RE.cap_bd (h : RE T M nt np nb) {w x : Nat} (hx : w + x < 27) : 0 ≤ (r_cap M.1 w x).toInt ∧ (r_cap M.1 w x).toInt < 150000000 := te_g_32 h.r8.1 h.r8.2.2 hx
theorem RE.ln_bd (h : RE T M nt np nb) {w x : Nat} (hx : w + x < 27) : 0 ≤ (r_ln M.1 w x).toInt ∧ (r_ln M.1 w x).toInt < 150000000 := te_g_32 h.r8.2.1 h.r8.2.2 hx
end
/-- a deal's salary and share are small -/
theorem d_sal_bd {d : q_Dl} (h : okD d) {k : Nat} (hk : k < 100) : 0 ≤ (d_sal d (nI k)).toInt ∧ (d_sal d (nI k)).toInt ≤ 200000 := by
  obtain ⟨l, g, el, hl1, hl5, eg, hg⟩ := okD_n h
  unfold d_sal
  by_cases q : nI k < 0 ∨ ¬ nI k < d_n d
  · rw [if_pos q]; decide
  · rw [if_neg q]
    rw [not_or, Classical.not_not] at q
    have hkl : k < l := by have := q.2; rw [el] at this; exact nI_lto (by omega) this
    have b1 := q_i32.mp h.1.1; have b2 := q_i32.mp h.1.2
    have r1 := q_i32.mp h.2.1.1; have r2 := q_i32.mp h.2.1.2
    rw [show (1 : Int32).toInt = 1 from by decide] at b1
    rw [show (99999 : Int32).toInt = 99999 from by decide] at b2
    rw [show (0 : Int32).toInt = 0 from by decide] at r1
    rw [show (20 : Int32).toInt = 20 from by decide] at r2
    have u1 : 0 ≤ (d_b d).toInt * (d_r d).toInt := Int.mul_nonneg (by omega) r1
    have u2 : (d_b d).toInt * (d_r d).toInt ≤ 99999 * 20 := Int.mul_le_mul b2 r2 r1 (by omega)
    have e1 : (d_b d * d_r d).toInt = (d_b d).toInt * (d_r d).toInt := by rw [Int32.toInt_mul]; exact Int.bmod_eq_of_le (by omega) (by omega)
    have ek : (nI k).toInt = k := nI_toInt (by omega)
    have v1 : 0 ≤ (d_b d).toInt * (d_r d).toInt * k := Int.mul_nonneg u1 (by omega)
    have v2 : (d_b d).toInt * (d_r d).toInt * k ≤ 99999 * 20 * 4 := Int.mul_le_mul u2 (by omega) (by omega) (by omega)
    have e2 : (d_b d * d_r d * nI k).toInt = (d_b d).toInt * (d_r d).toInt * k := by rw [Int32.toInt_mul, e1, ek]; exact Int.bmod_eq_of_le (by omega) (by omega)
    have e3 : (d_b d * d_r d * nI k / 100).toInt = ((d_b d).toInt * (d_r d).toInt * k) / 100 := by
      rw [Int32.toInt_div_of_ne_right _ _ (by decide), e2, show (100 : Int32).toInt = 100 from by decide, Int.tdiv_eq_ediv_of_nonneg v1]
    rw [q_add_i (by rw [e3]; omega) (by rw [e3]; omega), e3]
    omega
theorem q_part_bd {x : Int32} {l : Nat} (hx : 0 ≤ x.toInt ∧ x.toInt ≤ 1000000) (hl : 1 ≤ l) (hl2 : l < 100) (n : Int32) : 0 ≤ (q_part x (nI l) n).toInt ∧ (q_part x (nI l) n).toInt ≤ x.toInt + 1 := by
  have el : (nI l).toInt = l := nI_toInt (by omega)
  have hne : ¬ nI l = 0 := nI_ne0' (by omega) (by omega)
  have e1 : (x / nI l).toInt = x.toInt / l := by
    rw [Int32.toInt_div_of_ne_right _ _ (fun z => by have := nI_neg1 (k := l) (by omega); exact this z), el, Int.tdiv_eq_ediv_of_nonneg hx.1]
  have h1 : 0 ≤ x.toInt / (l : Int) := Int.ediv_nonneg hx.1 (by omega)
  have h2 : x.toInt / (l : Int) ≤ x.toInt := Int.ediv_le_self _ hx.1
  unfold q_part
  split
  · rw [Int32.add_zero, e1]; omega
  · rw [q_add_i (by rw [e1, show (1 : Int32).toInt = 1 from by decide]; omega) (by rw [e1, show (1 : Int32).toInt = 1 from by decide]; omega), e1, show (1 : Int32).toInt = 1 from by decide]; omega
theorem d_shr_bd {d : q_Dl} (h : okD d) (k : Nat) : 0 ≤ (d_shr d (nI k)).toInt ∧ (d_shr d (nI k)).toInt ≤ 100000 := by
  obtain ⟨l, g, el, hl1, hl5, eg, hg⟩ := okD_n h
  have b1 := q_i32.mp h.2.2.2.1.1; have b2 := q_i32.mp h.2.2.2.1.2
  rw [show (0 : Int32).toInt = 0 from by decide] at b1
  rw [show (99999 : Int32).toInt = 99999 from by decide] at b2
  unfold d_shr
  split
  · decide
  · rw [el]
    have := q_part_bd (x := d_s d) (l := l) (by omega) hl1 (by omega) (nI k)
    omega
theorem RP.cost_bd {P : q_Pl} {r : Nat → Int64} {i w nt np : Nat} (h : RP P r i w nt np) (hw15 : w ≤ 15) {y : Nat} (hy : y < 12) : 0 ≤ (pl_cost P (nI w + nI y)).toInt ∧ (pl_cost P (nI w + nI y)).toInt ≤ 300000 := by
  unfold pl_cost
  cases hh : pl_has P
  · rw [if_neg (by decide)]; decide
  · rw [if_pos rfl]
    obtain ⟨-, -, -, -, hd, s, l, es, el, hs, hwl, hl5⟩ := h.2.2.2 hh
    rw [es, nI_wy w y s hs]
    have h1 := d_sal_bd hd (k := w - s + y) (by omega)
    have h2 := d_shr_bd hd (w - s + y)
    rw [q_add_i (by omega) (by omega)]
    omega
section
variable {B : q_Bk} {r : Nat → Int64} {w nt np c : Nat}
/-- a team's charge is small -/
theorem RB.ch_bd (h : RB B r w nt np c) (hc : c ≤ 600) {t x : Nat} (ht : t < 4) (hx : x < 12) : 0 ≤ (b_ch B t (nI w + nI x)).toInt ∧ (b_ch B t (nI w + nI x)).toInt ≤ 800000000 := by
  have hw15 := h.1.1
  have h1 : 0 ≤ (t_in (b_t B t) (nI w + nI x)).toInt ∧ (t_in (b_t B t) (nI w + nI x)).toInt ≤ 780000000 := by
    unfold t_in
    rw [nI_add, if_neg (fun z => z.elim (nI_pos (by omega)) (fun z => (nI_ge (a := w + x) (b := 27) (by omega) (by decide)) z)), nI_clamp (by omega)]
    have := (h.2.2.1 t ht).1 (w + x) (by omega)
    omega
  have := q_ac_bd (f := fun k => if b_plf B k (nI t) = true then pl_cost (b_p B k) (nI w + nI x) else 0) (n := 24) (D := 300000) h1 (fun k hk => by
    show 0 ≤ (if b_plf B k (nI t) = true then pl_cost (b_p B k) (nI w + nI x) else 0).toInt ∧ _
    by_cases e : b_plf B k (nI t) = true
    · rw [if_pos e]; exact (h.p hk).cost_bd h.1.1 hx
    · rw [if_neg e]; decide) (by omega) (by omega)
  unfold b_ch
  omega
end
end REL2
