/-! Small words; SalaryCapLedger$Deal: what its cell says, and its methods -/
section CX1
variable {V : q_En} {h : q_H} {z : Option Nat} {Kx : q_KX}
theorem q_ls {y : q_I} {pc : Nat} {ls ls' : List (Option Value)} {st : List Value} {bc bs : Nat} {Kr : q_KR} (e : ls = ls') (kk : QW V y pc ls' st h z bc bs Kr Kx) : QW V y pc ls st h z bc bs Kr Kx := e ▸ kk
theorem q_lsh {y : q_I} {pc : Nat} {ls ls' : List (Option Value)} {st : List Value} {h' : q_H} {bc bs : Nat} {Kr : q_KR} (e : ls = ls') (e2 : h = h') (kk : QW V y pc ls' st h' z bc bs Kr Kx) : QW V y pc ls st h z bc bs Kr Kx := by subst e; subst e2; exact kk
theorem q_for {P : Nat → Prop} (n : Nat) (hn : P n) (hs : ∀ i, i < n → P (i + 1) → P i) : P 0 := by
  have : ∀ k, k ≤ n → P (n - k) := by
    intro k
    induction k with
    | zero => intro _; exact hn
    | succ k ih =>
      intro hk
      have h1 := ih (by omega)
      have := hs (n - (k + 1)) (by omega)
      rw [show n - (k + 1) + 1 = n - k by omega] at this
      exact this h1
  have := this n (Nat.le_refl n)
  rwa [Nat.sub_self] at this
theorem q_cv {α : Type} {P : α → q_H → Option Nat → Prop} {a b : α} (e : a = b) (hk : P b h z) : P a h z := e ▸ hk
/-- from a place on, nothing else changes -/
def q_out (a n : Nat) (h h' : q_H) : Prop := ∀ q, (q < a ∨ a + n ≤ q) → h' q = h q
theorem q_out.trans {a n : Nat} {h h' h2 : q_H} (o1 : q_out a n h h') (o2 : q_out a n h' h2) : q_out a n h h2 := fun q hq => (o2 q hq).trans (o1 q hq)
theorem q_out.refl {a n : Nat} {h : q_H} : q_out a n h h := fun _ _ => rfl
theorem q_out.in {a n b m : Nat} {h h' : q_H} (o1 : q_out b m h h') (h1 : a ≤ b) (h2 : b + m ≤ a + n) : q_out a n h h' := fun q hq => o1 q (by omega)
theorem q_out.up {a n b : Nat} {h : q_H} {e : q_E} (h1 : a ≤ b) (h2 : b < a + n) : q_out a n h (q_up h b e) := fun q hq => q_up_n (by omega)
theorem q_of {x N : Int32} {n : Nat} (hN : N = nI n) (hn : n < 2147483648) (h0 : ¬ x < 0) (h1 : ¬ N ≤ x) : ∃ j, j < n ∧ x = nI j := by
  obtain ⟨j, hj, rfl⟩ := nI_of h0
  subst hN
  refine ⟨j, ?_, rfl⟩
  by_cases q : j < n
  · exact q
  · exact absurd (nI_le (by omega) hj) h1
theorem q_nI_lit (n : Nat) : nI n = OfNat.ofNat n := rfl
theorem q_addT {n : Int32} {i : Nat} {m : Int} (h1 : n.toInt + i ≤ m) (h2 : m < 2147483648) : (n + nI i).toInt = n.toInt + i := by
  have e : n + nI i = Int32.ofInt (n.toInt + i) := by
    rw [Int32.ofInt_add, Int32.ofInt_toInt]; rfl
  rw [e, Int32.toInt_ofInt]
  have := Int32.le_toInt n
  rw [show Int32.size = 4294967296 from rfl]
  exact Int.bmod_eq_of_le (by omega) (by omega)
/-- f n + f (n + 1) + .., m of them, from the left -/
def q_sm (f : Int32 → Int32) (n : Int32) : Nat → Int32
  | 0 => 0
  | m + 1 => q_sm f n m + f (n + nI m)
/-- how many from n up to L -/
def d_ct (n L : Int32) : Nat := (L.toInt - n.toInt).toNat
theorem d_ct_ge {n L : Int32} : L ≤ n + nI (d_ct n L) := by
  have h1 := Int32.toInt_lt L
  rw [Int32.le_iff_toInt_le]
  by_cases q : n.toInt ≤ L.toInt
  · rw [q_addT (m := L.toInt) (by unfold d_ct; omega) (by omega)]; unfold d_ct; omega
  · have e : d_ct n L = 0 := by unfold d_ct; omega
    have h2 := Int32.toInt_lt n
    rw [e, q_addT (m := n.toInt) (by omega) (by omega)]; omega
theorem d_ct_lt {n L : Int32} {i : Nat} (h : i < d_ct n L) : ¬ L ≤ n + nI i := by
  have h1 := Int32.toInt_lt L
  rw [Int32.le_iff_toInt_le, q_addT (m := L.toInt) (by unfold d_ct at h; omega) (by omega)]
  unfold d_ct at h; omega
theorem q_nx {n : Int32} {i : Nat} : n + nI i + 1 = n + nI (i + 1) := by rw [Int32.add_assoc, nI_1]
abbrev q_Dl : Type := Int32 × Int32 × Int32 × Int32 × Int32
def d_b (d : q_Dl) : Int32 := d.1
def d_r (d : q_Dl) : Int32 := d.2.1
def d_n (d : q_Dl) : Int32 := d.2.2.1
def d_s (d : q_Dl) : Int32 := d.2.2.2.1
def d_g (d : q_Dl) : Int32 := d.2.2.2.2
abbrev dealE (d : q_Dl) : q_E := .inr (2, [.int (d_b d), .int (d_r d), .int (d_n d), .int (d_s d), .int (d_g d)])
def d_sal (d : q_Dl) (n : Int32) : Int32 := if n < 0 ∨ ¬ n < d_n d then 0 else d_b d + d_b d * d_r d * n / 100
/-- a part of x among y, at place n: 1 more for the first ones -/
def q_part (x y n : Int32) : Int32 := x / y + (if x - x / y * y ≤ n then 0 else 1)
def d_shr (d : q_Dl) (n : Int32) : Int32 := if n < 0 ∨ ¬ n < d_n d then 0 else q_part (d_s d) (d_n d) n
def d_sf (d : q_Dl) (n : Int32) : Int32 := q_sm (d_shr d) n (d_ct n (d_n d))
def d_gf (d : q_Dl) (n : Int32) : Int32 := q_sm (d_sal d) n (d_ct n (d_g d))
def d_str (d : q_Dl) (n a : Int32) : Int32 := if 2 * (d_n d - n) + 1 < 1 ∨ ¬ a < 2 * (d_n d - n) + 1 then 0 else q_part (d_gf d n) (2 * (d_n d - n) + 1) a
def d_gp (d : q_Dl) (n a : Int32) : Int32 := if d_g d ≤ n + a then 0 else d_sal d (n + a)
theorem mX1_init {a : Nat} {P : q_H → Option Nat → Prop} (ha : h a = some (.inr (2, [.int 0, .int 0, .int 0, .int 0, .int 0]))) (hk : P (q_up h a (dealE (1, 0, 1, 0, 0))) z) : QMv V iX1_init [.ref a] h z P Kx := by
  refine eX1_init ?_
  refine wX1_init_0 ?_
  refine wX1_init_1 ?_
  refine wX1_init_4 ?_
  refine wX1_init_5 ?_
  refine wX1_init_6 ha ?_
  refine wX1_init_9 ?_
  refine wX1_init_10 ?_
  refine wX1_init_11u ?_
  refine wX1_init_14 ?_
  refine wX1_init_15 ?_
  refine wX1_init_16u ?_
  refine wX1_init_19 ?_
  refine wX1_init_20 ?_
  refine wX1_init_21u ?_
  refine wX1_init_24 ?_
  refine wX1_init_25 ?_
  refine wX1_init_26u ?_
  refine wX1_init_29  ?_
  exact hk
theorem mX1_agree {a : Nat} {d : q_Dl} {b r n s g : Int32} {P : q_H → Option Nat → Prop} (hd : h a = some (dealE d)) (hk : P (q_up h a (dealE (b, r, n, s, g))) z) : QMv V iX1_agree [.ref a, .int b, .int r, .int n, .int s, .int g] h z P Kx := by
  refine eX1_agree ?_
  refine wX1_agree_0 ?_
  refine wX1_agree_1 ?_
  refine wX1_agree_2 hd ?_
  refine wX1_agree_5 ?_
  refine wX1_agree_6 ?_
  refine wX1_agree_7u ?_
  refine wX1_agree_10 ?_
  refine wX1_agree_11 ?_
  refine wX1_agree_12u ?_
  refine wX1_agree_15 ?_
  refine wX1_agree_16 ?_
  refine wX1_agree_18u ?_
  refine wX1_agree_21 ?_
  refine wX1_agree_22 ?_
  refine wX1_agree_24u ?_
  refine wX1_agree_27  ?_
  exact hk
theorem mX1_copyFrom {a b : Nat} {d e : q_Dl} {P : q_H → Option Nat → Prop} (hd : h a = some (dealE d)) (hf : h b = some (dealE e)) (hk : P (q_up h a (dealE e)) z) : QMv V iX1_copyFrom [.ref a, .ref b] h z P Kx := by
  refine eX1_copyFrom ?_
  refine wX1_copyFrom_0 ?_
  refine wX1_copyFrom_1 ?_
  refine wX1_copyFrom_2 hf ?_
  refine wX1_copyFrom_5 ?_
  refine wX1_copyFrom_6 hf ?_
  refine wX1_copyFrom_9 ?_
  refine wX1_copyFrom_10 hf ?_
  refine wX1_copyFrom_13 ?_
  refine wX1_copyFrom_14 hf ?_
  refine wX1_copyFrom_17 ?_
  refine wX1_copyFrom_18 hf ?_
  refine wX1_copyFrom_21 hd (mX1_agree hd ?_)
  refine wX1_copyFrom_24  ?_
  exact hk
theorem mX1_salaryOf {a : Nat} {d : q_Dl} {n : Int32} {P : Int32 → q_H → Option Nat → Prop} (hd : h a = some (dealE d)) (hk : P (d_sal d n) h z) : QMi V iX1_salaryOf [.ref a, .int n] h z P Kx := by
  refine eX1_salaryOf ?_
  refine wX1_salaryOf_0 ?_
  refine wX1_salaryOf_1 (fun c1 => ?_) (fun c1 => ?_)
  · refine wX1_salaryOf_12 ?_
    refine wX1_salaryOf_13  ?_
    exact q_cv (by simp [d_sal, *]) hk
  · refine wX1_salaryOf_4 ?_
    refine wX1_salaryOf_5 ?_
    refine wX1_salaryOf_6 (by assumption) ?_
    refine wX1_salaryOf_9 (fun c9 => ?_) (fun c9 => ?_)
    · refine wX1_salaryOf_14 ?_
      refine wX1_salaryOf_15 (by assumption) ?_
      refine wX1_salaryOf_18 ?_
      refine wX1_salaryOf_19 (by assumption) ?_
      refine wX1_salaryOf_22 ?_
      refine wX1_salaryOf_23 (by assumption) ?_
      refine wX1_salaryOf_26 ?_
      refine wX1_salaryOf_27 ?_
      refine wX1_salaryOf_28 ?_
      refine wX1_salaryOf_29 ?_
      refine wX1_salaryOf_31 (by decide) ?_
      refine wX1_salaryOf_32 ?_
      refine wX1_salaryOf_33  ?_
      exact q_cv (by simp [d_sal, *]) hk
    · refine wX1_salaryOf_12 ?_
      refine wX1_salaryOf_13  ?_
      exact q_cv (by simp [d_sal, *]) hk
theorem mX1_shareOf {a : Nat} {d : q_Dl} {n : Int32} {P : Int32 → q_H → Option Nat → Prop} (hd : h a = some (dealE d)) (hk : P (d_shr d n) h z) : QMi V iX1_shareOf [.ref a, .int n] h z P Kx := by
  refine eX1_shareOf ?_
  refine wX1_shareOf_0 ?_
  refine wX1_shareOf_1 (fun c1 => ?_) (fun c1 => ?_)
  · refine wX1_shareOf_12 ?_
    refine wX1_shareOf_13  ?_
    exact q_cv (by simp [d_shr, q_part, *]) hk
  · refine wX1_shareOf_4 ?_
    refine wX1_shareOf_5 ?_
    refine wX1_shareOf_6 (by assumption) ?_
    refine wX1_shareOf_9 (fun c9 => ?_) (fun c9 => ?_)
    · refine wX1_shareOf_14 ?_
      refine wX1_shareOf_15 (by assumption) ?_
      refine wX1_shareOf_18 ?_
      refine wX1_shareOf_19 (by assumption) ?_
      refine wX1_shareOf_22 (fun e => c1 (e ▸ c9)) ?_
      refine wX1_shareOf_23 ?_
      refine wX1_shareOf_24 ?_
      refine wX1_shareOf_25 (by assumption) ?_
      refine wX1_shareOf_28 ?_
      refine wX1_shareOf_29 (by assumption) ?_
      refine wX1_shareOf_32 (fun e => c1 (e ▸ c9)) ?_
      refine wX1_shareOf_33 (fun c33 => ?_) (fun c33 => ?_)
      · refine wX1_shareOf_40 ?_
        refine wX1_shareOf_41 ?_
        refine wX1_shareOf_42  ?_
        exact q_cv (by simp [d_shr, q_part, *]) hk
      · refine wX1_shareOf_36 ?_
        refine wX1_shareOf_37 ?_
        refine wX1_shareOf_41 ?_
        refine wX1_shareOf_42  ?_
        exact q_cv (by simp [d_shr, q_part, *]) hk
    · refine wX1_shareOf_12 ?_
      refine wX1_shareOf_13  ?_
      exact q_cv (by simp [d_shr, q_part, *]) hk
theorem mX1_sharesFrom {a : Nat} {d : q_Dl} {n : Int32} {P : Int32 → q_H → Option Nat → Prop} (hd : h a = some (dealE d)) (hk : P (d_sf d n) h z) : QMi V iX1_sharesFrom [.ref a, .int n] h z P Kx := by
  refine eX1_sharesFrom ?_
  refine wX1_sharesFrom_0 ?_
  refine wX1_sharesFrom_1 ?_
  refine wX1_sharesFrom_2 ?_
  refine wX1_sharesFrom_3 ?_
  refine q_ls (ls' := [some (.ref a), some (.int n), some (.int (q_sm (d_shr d) n 0)), some (.int (n + nI 0))]) (by rw [show n + nI 0 = n from Int32.add_zero n]; rfl) ?_
  refine q_for (P := fun i => QW V iX1_sharesFrom 4 [some (.ref a), some (.int n), some (.int (q_sm (d_shr d) n i)), some (.int (n + nI i))] [] h z 0 0 (q_Ki P) Kx) (d_ct n (d_n d)) ?_ (fun i hi ih => ?_)
  · refine wX1_sharesFrom_4 ?_
    refine wX1_sharesFrom_5 ?_
    refine wX1_sharesFrom_6 hd ?_
    refine wX1_sharesFrom_9 (fun c9 => ?_) (fun c9 => absurd d_ct_ge c9)
    refine wX1_sharesFrom_26 ?_
    refine wX1_sharesFrom_27  ?_
    exact hk
  · refine wX1_sharesFrom_4 ?_
    refine wX1_sharesFrom_5 ?_
    refine wX1_sharesFrom_6 hd ?_
    refine wX1_sharesFrom_9 (fun c9 => absurd c9 (d_ct_lt hi)) (fun c9 => ?_)
    refine wX1_sharesFrom_12 ?_
    refine wX1_sharesFrom_13 ?_
    refine wX1_sharesFrom_14 ?_
    refine wX1_sharesFrom_15 hd (mX1_shareOf hd ?_)
    refine wX1_sharesFrom_18 ?_
    refine wX1_sharesFrom_19 ?_
    refine wX1_sharesFrom_20 ?_
    refine wX1_sharesFrom_23 ?_
    exact q_ls (by rw [q_nx]; rfl) ih
theorem mX1_guaranteedFrom {a : Nat} {d : q_Dl} {n : Int32} {P : Int32 → q_H → Option Nat → Prop} (hd : h a = some (dealE d)) (hk : P (d_gf d n) h z) : QMi V iX1_guaranteedFrom [.ref a, .int n] h z P Kx := by
  refine eX1_guaranteedFrom ?_
  refine wX1_guaranteedFrom_0 ?_
  refine wX1_guaranteedFrom_1 ?_
  refine wX1_guaranteedFrom_2 ?_
  refine wX1_guaranteedFrom_3 ?_
  refine q_ls (ls' := [some (.ref a), some (.int n), some (.int (q_sm (d_sal d) n 0)), some (.int (n + nI 0))]) (by rw [show n + nI 0 = n from Int32.add_zero n]; rfl) ?_
  refine q_for (P := fun i => QW V iX1_guaranteedFrom 4 [some (.ref a), some (.int n), some (.int (q_sm (d_sal d) n i)), some (.int (n + nI i))] [] h z 0 0 (q_Ki P) Kx) (d_ct n (d_g d)) ?_ (fun i hi ih => ?_)
  · refine wX1_guaranteedFrom_4 ?_
    refine wX1_guaranteedFrom_5 ?_
    refine wX1_guaranteedFrom_6 hd ?_
    refine wX1_guaranteedFrom_9 (fun c9 => ?_) (fun c9 => absurd d_ct_ge c9)
    refine wX1_guaranteedFrom_26 ?_
    refine wX1_guaranteedFrom_27  ?_
    exact hk
  · refine wX1_guaranteedFrom_4 ?_
    refine wX1_guaranteedFrom_5 ?_
    refine wX1_guaranteedFrom_6 hd ?_
    refine wX1_guaranteedFrom_9 (fun c9 => absurd c9 (d_ct_lt hi)) (fun c9 => ?_)
    refine wX1_guaranteedFrom_12 ?_
    refine wX1_guaranteedFrom_13 ?_
    refine wX1_guaranteedFrom_14 ?_
    refine wX1_guaranteedFrom_15 hd (mX1_salaryOf hd ?_)
    refine wX1_guaranteedFrom_18 ?_
    refine wX1_guaranteedFrom_19 ?_
    refine wX1_guaranteedFrom_20 ?_
    refine wX1_guaranteedFrom_23 ?_
    exact q_ls (by rw [q_nx]; rfl) ih
theorem mX1_stretchedPart {a : Nat} {d : q_Dl} {n x : Int32} {P : Int32 → q_H → Option Nat → Prop} (hd : h a = some (dealE d)) (hk : P (d_str d n x) h z) : QMi V iX1_stretchedPart [.ref a, .int n, .int x] h z P Kx := by
  refine eX1_stretchedPart ?_
  refine wX1_stretchedPart_0 ?_
  refine wX1_stretchedPart_1 ?_
  refine wX1_stretchedPart_2 (by assumption) ?_
  refine wX1_stretchedPart_5 ?_
  refine wX1_stretchedPart_6 ?_
  refine wX1_stretchedPart_7 ?_
  refine wX1_stretchedPart_8 ?_
  refine wX1_stretchedPart_9 ?_
  refine wX1_stretchedPart_10 ?_
  refine wX1_stretchedPart_11 ?_
  refine wX1_stretchedPart_12 ?_
  refine wX1_stretchedPart_13 (fun c13 => ?_) (fun c13 => ?_)
  · refine wX1_stretchedPart_21 ?_
    refine wX1_stretchedPart_22  ?_
    exact q_cv (by simp [d_str, q_part, *]) hk
  · refine wX1_stretchedPart_16 ?_
    refine wX1_stretchedPart_17 ?_
    refine wX1_stretchedPart_18 (fun c18 => ?_) (fun c18 => ?_)
    · have hne : ¬ 2 * (d_n d - n) + 1 = 0 := fun e => c13 (by rw [e]; decide)
      refine wX1_stretchedPart_23 ?_
      refine wX1_stretchedPart_24 ?_
      refine wX1_stretchedPart_25 hd (mX1_guaranteedFrom hd ?_)
      refine wX1_stretchedPart_28 ?_
      refine wX1_stretchedPart_30 ?_
      refine wX1_stretchedPart_32 ?_
      refine wX1_stretchedPart_33 hne ?_
      refine wX1_stretchedPart_34 ?_
      refine wX1_stretchedPart_35 ?_
      refine wX1_stretchedPart_37 ?_
      refine wX1_stretchedPart_38 hne ?_
      refine wX1_stretchedPart_39 (fun c39 => ?_) (fun c39 => ?_)
      · refine wX1_stretchedPart_46 ?_
        refine wX1_stretchedPart_47 ?_
        refine wX1_stretchedPart_48  ?_
        exact q_cv (by simp [d_str, q_part, *]) hk
      · refine wX1_stretchedPart_42 ?_
        refine wX1_stretchedPart_43 ?_
        refine wX1_stretchedPart_47 ?_
        refine wX1_stretchedPart_48  ?_
        exact q_cv (by simp [d_str, q_part, *]) hk
    · refine wX1_stretchedPart_21 ?_
      refine wX1_stretchedPart_22  ?_
      exact q_cv (by simp [d_str, q_part, *]) hk
theorem mX1_guaranteedPart {a : Nat} {d : q_Dl} {n x : Int32} {P : Int32 → q_H → Option Nat → Prop} (hd : h a = some (dealE d)) (hk : P (d_gp d n x) h z) : QMi V iX1_guaranteedPart [.ref a, .int n, .int x] h z P Kx := by
  refine eX1_guaranteedPart ?_
  refine wX1_guaranteedPart_0 ?_
  refine wX1_guaranteedPart_1 ?_
  refine wX1_guaranteedPart_2 ?_
  refine wX1_guaranteedPart_3 ?_
  refine wX1_guaranteedPart_4 (by assumption) ?_
  refine wX1_guaranteedPart_7 (fun c7 => ?_) (fun c7 => ?_)
  · refine wX1_guaranteedPart_20 ?_
    refine wX1_guaranteedPart_21  ?_
    exact q_cv (by simp [d_gp, *]) hk
  · refine wX1_guaranteedPart_10 ?_
    refine wX1_guaranteedPart_11 ?_
    refine wX1_guaranteedPart_12 ?_
    refine wX1_guaranteedPart_13 ?_
    refine wX1_guaranteedPart_14 hd (mX1_salaryOf hd ?_)
    refine wX1_guaranteedPart_17 ?_
    refine wX1_guaranteedPart_21  ?_
    exact q_cv (by simp [d_gp, *]) hk
end CX1
