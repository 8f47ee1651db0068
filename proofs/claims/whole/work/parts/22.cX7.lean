/-! SalaryCapLedger$Terms, $Player, Integer.bitCount -/
section CX7
variable {V : q_En} {h : q_H} {z : Option Nat} {Kx : q_KX}
/-- Integer.bitCount, as it is written -/
def q_us (x a : Int32) : Int32 := (x.toUInt32 >>> (a.toUInt32 &&& Int32.toUInt32 31)).toInt32
def q_bc1 (x : Int32) : Int32 := x - (q_us x 1 &&& 1431655765)
def q_bc2 (x : Int32) : Int32 := (x &&& 858993459) + (q_us x 2 &&& 858993459)
def q_bc3 (x : Int32) : Int32 := (x + q_us x 4) &&& 252645135
def q_bc4 (x : Int32) : Int32 := x + q_us x 8
def q_bc5 (x : Int32) : Int32 := x + q_us x 16
def q_bc (x : Int32) : Int32 := q_bc5 (q_bc4 (q_bc3 (q_bc2 (q_bc1 x)))) &&& 63
def isA (h : q_H) (a n : Nat) (f : Nat → Int32) : Prop := ∃ g, h a = some (.inl (1, n, .inl g)) ∧ ∀ k, k < n → g k = f k
theorem isA.n {a b n : Nat} {f : Nat → Int32} {e : q_E} (hA : isA h a n f) (ne : a ≠ b) : isA (q_up h b e) a n f := by
  obtain ⟨g, h1, h2⟩ := hA
  exact ⟨g, by rw [q_up_n ne]; exact h1, h2⟩
theorem isA.o {a b n m : Nat} {f : Nat → Int32} {h' : q_H} (hA : isA h a n f) (ho : q_out b m h h') (ne : a < b ∨ b + m ≤ a) : isA h' a n f := by
  obtain ⟨g, h1, h2⟩ := hA
  exact ⟨g, by rw [ho a ne]; exact h1, h2⟩
theorem isA.w {a n : Nat} {g f : Nat → Int32} (h2 : ∀ k, k < n → g k = f k) : isA (q_up h a (.inl (1, n, .inl g))) a n f := ⟨g, q_up_s, h2⟩
abbrev q_Te : Type := (Nat → Int32) × (Nat → Int32) × (Nat → Int32) × (Nat → Int32) × Int32 × Int32 × Int32 × Int32 × Int32
def te_c (e : q_Te) : Nat → Int32 := e.1
def te_l (e : q_Te) : Nat → Int32 := e.2.1
def te_s (e : q_Te) : Nat → Int32 := e.2.2.1
def te_r (e : q_Te) : Nat → Int32 := e.2.2.2.1
def te_n (e : q_Te) : Int32 := e.2.2.2.2.1
def te_m (e : q_Te) : Int32 := e.2.2.2.2.2.1
def te_u (e : q_Te) : Int32 := e.2.2.2.2.2.2.1
def te_t (e : q_Te) : Int32 := e.2.2.2.2.2.2.2.1
def te_p (e : q_Te) : Int32 := e.2.2.2.2.2.2.2.2
abbrev termE (a : Nat) (e : q_Te) : q_E := .inr (8, [.ref (a + 1), .ref (a + 2), .ref (a + 3), .ref (a + 4), .int (te_n e), .int (te_m e), .int (te_u e), .int (te_t e), .int (te_p e)])
def isE (h : q_H) (a : Nat) (e : q_Te) : Prop := h a = some (termE a e) ∧ isA h (a + 1) 27 (te_c e) ∧ isA h (a + 2) 27 (te_l e) ∧ isA h (a + 3) 4 (te_s e) ∧ isA h (a + 4) 4 (te_r e)
theorem isE.o {a b m : Nat} {e : q_Te} {h' : q_H} (hE : isE h a e) (ho : q_out b m h h') (ne : a + 5 ≤ b ∨ b + m ≤ a) : isE h' a e :=
  ⟨by rw [ho a (by omega)]; exact hE.1, hE.2.1.o ho (by omega), hE.2.2.1.o ho (by omega), hE.2.2.2.1.o ho (by omega), hE.2.2.2.2.o ho (by omega)⟩
def te_ci (e : q_Te) (x : Int32) : Int32 := if x < 0 ∨ 27 ≤ x then 0 else te_c e x.toNatClampNeg
def te_li (e : q_Te) (x : Int32) : Int32 := if x < 0 ∨ 27 ≤ x then 0 else te_l e x.toNatClampNeg
def te_tx (e : q_Te) (ch th : Int32) : Bool := decide (¬ ch ≤ te_li e th)
def te_of (th tx : Int32) : Bool := decide (¬ q_bc ((if th ≤ 4 then tx else q_us tx (th - 4)) &&& 15) < 3)
def te_pt (e : q_Te) (k : Nat) (left : Int64) : Int64 := if nI k = te_n e - 1 then left else if (te_s e k).toInt64 < left then (te_s e k).toInt64 else left
def te_lp (e : q_Te) (L : Int64) : Nat → Int64 × Int64
  | 0 => (0, L)
  | k + 1 => ((te_lp e L k).1 + te_pt e k (te_lp e L k).2 * (te_r e k).toInt64 / 100, (te_lp e L k).2 - te_pt e k (te_lp e L k).2)
def te_tax (e : q_Te) (ch th tx : Int32) : Int64 := if te_tx e ch th then (if te_of th tx then (te_lp e (ch.toInt64 - (te_li e th).toInt64) (te_n e).toNatClampNeg).1 + (ch.toInt64 - (te_li e th).toInt64) else (te_lp e (ch.toInt64 - (te_li e th).toInt64) (te_n e).toNatClampNeg).1) else 0
def te_g (x g : Int32) : Nat → Int64
  | 0 => x.toInt64
  | k + 1 => te_g x g k * (1000 + g).toInt64 / 1000
theorem q_b1 {b : Bool} : ¬ q_b b = 0 → b = true := by cases b <;> simp [q_b]
theorem q_b0 {b : Bool} : q_b b = 0 → b = false := by cases b <;> simp [q_b]
theorem mJ6_bitCount_0f7a4 {x : Int32} {P : Int32 → q_H → Option Nat → Prop} (hk : P (q_bc x) h z) : QMi V iJ6_bitCount_0f7a4 [.int x] h z P Kx := by
  refine eJ6_bitCount_0f7a4 ?_
  refine wJ6_bitCount_0f7a4_0 ?_
  refine wJ6_bitCount_0f7a4_1 ?_
  refine wJ6_bitCount_0f7a4_2 ?_
  refine wJ6_bitCount_0f7a4_3 ?_
  refine wJ6_bitCount_0f7a4_4 ?_
  refine wJ6_bitCount_0f7a4_7 ?_
  refine wJ6_bitCount_0f7a4_8 ?_
  refine wJ6_bitCount_0f7a4_9 ?_
  refine wJ6_bitCount_0f7a4_10 ?_
  refine wJ6_bitCount_0f7a4_11 ?_
  refine wJ6_bitCount_0f7a4_14 ?_
  refine wJ6_bitCount_0f7a4_15 ?_
  refine wJ6_bitCount_0f7a4_16 ?_
  refine wJ6_bitCount_0f7a4_17 ?_
  refine wJ6_bitCount_0f7a4_18 ?_
  refine wJ6_bitCount_0f7a4_21 ?_
  refine wJ6_bitCount_0f7a4_22 ?_
  refine wJ6_bitCount_0f7a4_23 ?_
  refine wJ6_bitCount_0f7a4_24 ?_
  refine wJ6_bitCount_0f7a4_25 ?_
  refine wJ6_bitCount_0f7a4_26 ?_
  refine wJ6_bitCount_0f7a4_27 ?_
  refine wJ6_bitCount_0f7a4_28 ?_
  refine wJ6_bitCount_0f7a4_29 ?_
  refine wJ6_bitCount_0f7a4_32 ?_
  refine wJ6_bitCount_0f7a4_33 ?_
  refine wJ6_bitCount_0f7a4_34 ?_
  refine wJ6_bitCount_0f7a4_35 ?_
  refine wJ6_bitCount_0f7a4_36 ?_
  refine wJ6_bitCount_0f7a4_38 ?_
  refine wJ6_bitCount_0f7a4_39 ?_
  refine wJ6_bitCount_0f7a4_40 ?_
  refine wJ6_bitCount_0f7a4_41 ?_
  refine wJ6_bitCount_0f7a4_42 ?_
  refine wJ6_bitCount_0f7a4_43 ?_
  refine wJ6_bitCount_0f7a4_45 ?_
  refine wJ6_bitCount_0f7a4_46 ?_
  refine wJ6_bitCount_0f7a4_47 ?_
  refine wJ6_bitCount_0f7a4_48 ?_
  refine wJ6_bitCount_0f7a4_49 ?_
  refine wJ6_bitCount_0f7a4_51 ?_
  refine wJ6_bitCount_0f7a4_52  ?_
  exact hk
theorem mX7_init {a : Nat} {P : q_H → Option Nat → Prop} (ha : h a = some (.inr (8, [.null, .null, .null, .null, .int 0, .int 0, .int 0, .int 0, .int 0]))) (hk : ∀ h', isE h' a (fun _ => 0, fun _ => 0, fun _ => 0, fun _ => 0, 0, 0, 0, 0, 0) → q_out a 5 h h' → P h' (some (a + 5))) : QMv V iX7_init [.ref a] h (some (a + 1)) P Kx := by
  refine eX7_init ?_
  refine wX7_init_0 ?_
  refine wX7_init_1 ?_
  refine wX7_init_4 ?_
  refine wX7_init_5 ?_
  refine wX7_init_7 rfl (by decide) ?_
  refine wX7_init_9 (by rw [q_up_n (by omega)]; exact ha) ?_
  refine wX7_init_12 ?_
  refine wX7_init_13 ?_
  refine wX7_init_15 rfl (by decide) ?_
  refine wX7_init_17 (by rw [q_up_n (by omega)]; exact q_up_s) ?_
  refine wX7_init_20 ?_
  refine wX7_init_21 ?_
  refine wX7_init_22 rfl (by decide) ?_
  refine wX7_init_24 (by rw [q_up_n (by omega)]; exact q_up_s) ?_
  refine wX7_init_27 ?_
  refine wX7_init_28 ?_
  refine wX7_init_29 rfl (by decide) ?_
  refine wX7_init_31 (by rw [q_up_n (by omega)]; exact q_up_s) ?_
  refine wX7_init_34 ?_
  refine wX7_init_35 ?_
  refine wX7_init_36u ?_
  refine wX7_init_39 ?_
  refine wX7_init_40 ?_
  refine wX7_init_41u ?_
  refine wX7_init_44 ?_
  refine wX7_init_45 ?_
  refine wX7_init_46u ?_
  refine wX7_init_49 ?_
  refine wX7_init_50 ?_
  refine wX7_init_51u ?_
  refine wX7_init_54 ?_
  refine wX7_init_55 ?_
  refine wX7_init_56u ?_
  refine wX7_init_59  ?_
  refine hk _ ⟨q_up_s, ?_, ?_, ?_, ?_⟩ (fun q hq => by simp only [q_up_n (show q ≠ a by omega), q_up_n (show q ≠ a + 1 by omega), q_up_n (show q ≠ a + 1 + 1 by omega), q_up_n (show q ≠ a + 1 + 1 + 1 by omega), q_up_n (show q ≠ a + 1 + 1 + 1 + 1 by omega)])
  · exact ⟨fun _ => 0, by simp [q_up], fun _ _ => rfl⟩
  · exact ⟨fun _ => 0, by simp [q_up], fun _ _ => rfl⟩
  · exact ⟨fun _ => 0, by simp [q_up], fun _ _ => rfl⟩
  · exact ⟨fun _ => 0, by simp [q_up], fun _ _ => rfl⟩
theorem mX7_capIn {a : Nat} {e : q_Te} {x : Int32} {P : Int32 → q_H → Option Nat → Prop} (hE : isE h a e) (hk : P (te_ci e x) h z) : QMi V iX7_capIn [.ref a, .int x] h z P Kx := by
  refine eX7_capIn ?_
  refine wX7_capIn_0 ?_
  refine wX7_capIn_1 (fun c1 => ?_) (fun c1 => ?_)
  · refine wX7_capIn_19 ?_
    refine wX7_capIn_20  ?_
    first
      | exact q_cv (by rw [te_ci, if_pos (Or.inl c1)]) hk
      | exact q_cv (by rw [te_ci, if_pos (Or.inr c7)]) hk
      | exact q_cv (by rw [te_ci, if_neg (not_or.mpr ⟨c1, c7⟩), nI_clamp (by omega), hfe j hj]) hk
  · refine wX7_capIn_4 ?_
    refine wX7_capIn_5 ?_
    refine wX7_capIn_7 (fun c7 => ?_) (fun c7 => ?_)
    · refine wX7_capIn_19 ?_
      refine wX7_capIn_20  ?_
      first
        | exact q_cv (by rw [te_ci, if_pos (Or.inl c1)]) hk
        | exact q_cv (by rw [te_ci, if_pos (Or.inr c7)]) hk
        | exact q_cv (by rw [te_ci, if_neg (not_or.mpr ⟨c1, c7⟩), nI_clamp (by omega), hfe j hj]) hk
    · obtain ⟨j, hj, rfl⟩ := q_of (N := 27) (n := 27) rfl (by decide) c1 c7
      obtain ⟨f, hf, hfe⟩ := hE.2.1
      refine wX7_capIn_10 ?_
      refine wX7_capIn_11 hE.1 ?_
      refine wX7_capIn_14 ?_
      refine wX7_capIn_15 hf rfl hj (by decide) ?_
      refine wX7_capIn_16 ?_
      refine wX7_capIn_20  ?_
      first
        | exact q_cv (by rw [te_ci, if_pos (Or.inl c1)]) hk
        | exact q_cv (by rw [te_ci, if_pos (Or.inr c7)]) hk
        | exact q_cv (by rw [te_ci, if_neg (not_or.mpr ⟨c1, c7⟩), nI_clamp (by omega), hfe j hj]) hk
theorem mX7_taxLineIn {a : Nat} {e : q_Te} {x : Int32} {P : Int32 → q_H → Option Nat → Prop} (hE : isE h a e) (hk : P (te_li e x) h z) : QMi V iX7_taxLineIn [.ref a, .int x] h z P Kx := by
  refine eX7_taxLineIn ?_
  refine wX7_taxLineIn_0 ?_
  refine wX7_taxLineIn_1 (fun c1 => ?_) (fun c1 => ?_)
  · refine wX7_taxLineIn_19 ?_
    refine wX7_taxLineIn_20  ?_
    first
      | exact q_cv (by rw [te_li, if_pos (Or.inl c1)]) hk
      | exact q_cv (by rw [te_li, if_pos (Or.inr c7)]) hk
      | exact q_cv (by rw [te_li, if_neg (not_or.mpr ⟨c1, c7⟩), nI_clamp (by omega), hfe j hj]) hk
  · refine wX7_taxLineIn_4 ?_
    refine wX7_taxLineIn_5 ?_
    refine wX7_taxLineIn_7 (fun c7 => ?_) (fun c7 => ?_)
    · refine wX7_taxLineIn_19 ?_
      refine wX7_taxLineIn_20  ?_
      first
        | exact q_cv (by rw [te_li, if_pos (Or.inl c1)]) hk
        | exact q_cv (by rw [te_li, if_pos (Or.inr c7)]) hk
        | exact q_cv (by rw [te_li, if_neg (not_or.mpr ⟨c1, c7⟩), nI_clamp (by omega), hfe j hj]) hk
    · obtain ⟨j, hj, rfl⟩ := q_of (N := 27) (n := 27) rfl (by decide) c1 c7
      obtain ⟨f, hf, hfe⟩ := hE.2.2.1
      refine wX7_taxLineIn_10 ?_
      refine wX7_taxLineIn_11 hE.1 ?_
      refine wX7_taxLineIn_14 ?_
      refine wX7_taxLineIn_15 hf rfl hj (by decide) ?_
      refine wX7_taxLineIn_16 ?_
      refine wX7_taxLineIn_20  ?_
      first
        | exact q_cv (by rw [te_li, if_pos (Or.inl c1)]) hk
        | exact q_cv (by rw [te_li, if_pos (Or.inr c7)]) hk
        | exact q_cv (by rw [te_li, if_neg (not_or.mpr ⟨c1, c7⟩), nI_clamp (by omega), hfe j hj]) hk
theorem mX7_isTaxed {a : Nat} {e : q_Te} {x t : Int32} {P : Int32 → q_H → Option Nat → Prop} (hE : isE h a e) (hk : P (q_b (te_tx e x t)) h z) : QMi V iX7_isTaxed [.ref a, .int x, .int t] h z P Kx := by
  refine eX7_isTaxed ?_
  refine wX7_isTaxed_0 ?_
  refine wX7_isTaxed_1 ?_
  refine wX7_isTaxed_2 ?_
  refine wX7_isTaxed_3 hE.1 (mX7_taxLineIn hE ?_)
  refine wX7_isTaxed_6 (fun c6 => ?_) (fun c6 => ?_)
  · refine wX7_isTaxed_13 ?_
    refine wX7_isTaxed_14  ?_
    exact q_cv (by simp [te_tx, q_b, *]) hk
  · refine wX7_isTaxed_9 ?_
    refine wX7_isTaxed_10 ?_
    refine wX7_isTaxed_14  ?_
    exact q_cv (by simp [te_tx, q_b, *]) hk
theorem mX7_isTaxedOften {a : Nat} {t x : Int32} {P : Int32 → q_H → Option Nat → Prop} (hk : P (q_b (te_of t x)) h z) : QMi V iX7_isTaxedOften [.ref a, .int t, .int x] h z P Kx := by
  refine eX7_isTaxedOften ?_
  refine wX7_isTaxedOften_0 ?_
  refine wX7_isTaxedOften_1 ?_
  refine wX7_isTaxedOften_2 (fun c2 => ?_) (fun c2 => ?_)
  · refine wX7_isTaxedOften_13 ?_
    refine wX7_isTaxedOften_14 ?_
    refine wX7_isTaxedOften_16 ?_
    refine wX7_isTaxedOften_17 ?_
    refine wX7_isTaxedOften_18 ?_
    refine wX7_isTaxedOften_19 (mJ6_bitCount_0f7a4 ?_)
    refine wX7_isTaxedOften_22 ?_
    refine wX7_isTaxedOften_23 (fun c23 => ?_) (fun c23 => ?_)
    · refine wX7_isTaxedOften_30 ?_
      refine wX7_isTaxedOften_31  ?_
      exact q_cv (by simp [te_of, q_b, q_us, *] at *; first | done | simp [*]) hk
    · refine wX7_isTaxedOften_26 ?_
      refine wX7_isTaxedOften_27 ?_
      refine wX7_isTaxedOften_31  ?_
      exact q_cv (by simp [te_of, q_b, q_us, *] at *; first | done | simp [*]) hk
  · refine wX7_isTaxedOften_5 ?_
    refine wX7_isTaxedOften_6 ?_
    refine wX7_isTaxedOften_7 ?_
    refine wX7_isTaxedOften_8 ?_
    refine wX7_isTaxedOften_9 ?_
    refine wX7_isTaxedOften_10 ?_
    refine wX7_isTaxedOften_14 ?_
    refine wX7_isTaxedOften_16 ?_
    refine wX7_isTaxedOften_17 ?_
    refine wX7_isTaxedOften_18 ?_
    refine wX7_isTaxedOften_19 (mJ6_bitCount_0f7a4 ?_)
    refine wX7_isTaxedOften_22 ?_
    refine wX7_isTaxedOften_23 (fun c23 => ?_) (fun c23 => ?_)
    · refine wX7_isTaxedOften_30 ?_
      refine wX7_isTaxedOften_31  ?_
      exact q_cv (by simp [te_of, q_b, q_us, *] at *; first | done | simp [*]) hk
    · refine wX7_isTaxedOften_26 ?_
      refine wX7_isTaxedOften_27 ?_
      refine wX7_isTaxedOften_31  ?_
      exact q_cv (by simp [te_of, q_b, q_us, *] at *; first | done | simp [*]) hk
theorem mX7_growLines {a : Nat} {e : q_Te} {x y g : Int32} {P : q_H → Option Nat → Prop} (hE : isE h a e) (hk : ∀ h', isE h' a (fun k => (te_g x g k).toInt32, fun k => (te_g y g k).toInt32, e.2.2) → q_out a 5 h h' → P h' z) : QMv V iX7_growLines [.ref a, .int x, .int y, .int g] h z P Kx := by
  refine eX7_growLines ?_
  refine wX7_growLines_0 ?_
  refine wX7_growLines_1 ?_
  refine wX7_growLines_2 ?_
  refine wX7_growLines_4 ?_
  refine wX7_growLines_5 ?_
  refine wX7_growLines_6 ?_
  refine wX7_growLines_8 ?_
  refine wX7_growLines_9 ?_
  refine q_for (P := fun i => ∀ hh, (hh a = some (termE a e) ∧ (∃ f, hh (a + 1) = some (.inl (1, 27, .inl f)) ∧ ∀ k, k < i → f k = (te_g x g k).toInt32) ∧ (∃ f, hh (a + 2) = some (.inl (1, 27, .inl f)) ∧ ∀ k, k < i → f k = (te_g y g k).toInt32) ∧ q_out (a + 1) 2 h hh) → QW V iX7_growLines 11 [some (.ref a), some (.int x), some (.int y), some (.int g), some (.long (te_g x g i)), none, some (.long (te_g y g i)), none, some (.int (nI i))] [] hh z 0 0 (q_Kv P) Kx) 27 ?_ ?_ h ⟨hE.1, ⟨_, hE.2.1.choose_spec.1, fun k hk => absurd hk (by omega)⟩, ⟨_, hE.2.2.1.choose_spec.1, fun k hk => absurd hk (by omega)⟩, q_out.refl⟩
  · rintro hh ⟨h1, ⟨f, h2, h3⟩, ⟨f2, h4, h5⟩, ho⟩
    refine wX7_growLines_11 ?_
    refine wX7_growLines_13 ?_
    refine wX7_growLines_15 (fun c15 => ?_) (fun c15 => absurd (by decide) c15)
    refine wX7_growLines_74  ?_
    exact hk _ ⟨h1, ⟨f, h2, h3⟩, ⟨f2, h4, h5⟩, hE.2.2.2.1.o ho (by omega), hE.2.2.2.2.o ho (by omega)⟩ (ho.in (by omega) (by omega))
  · rintro i hi ih hh ⟨h1, ⟨f, h2, h3⟩, ⟨f2, h4, h5⟩, ho⟩
    refine wX7_growLines_11 ?_
    refine wX7_growLines_13 ?_
    refine wX7_growLines_15 (fun c15 => absurd c15 (nI_ge (b := 27) hi (by decide))) (fun c15 => ?_)
    refine wX7_growLines_18 ?_
    refine wX7_growLines_19 h1 ?_
    refine wX7_growLines_22 ?_
    refine wX7_growLines_24 ?_
    refine wX7_growLines_26 ?_
    refine wX7_growLines_27 h2 rfl hi (by decide) ?_
    refine wX7_growLines_28 ?_
    refine wX7_growLines_29 (by rw [q_up_n (by omega)]; exact h1) ?_
    refine wX7_growLines_32 ?_
    refine wX7_growLines_34 ?_
    refine wX7_growLines_36 ?_
    refine wX7_growLines_37 (by rw [q_up_n (by omega)]; exact h4) rfl hi (by decide) ?_
    refine wX7_growLines_38 ?_
    refine wX7_growLines_40 ?_
    refine wX7_growLines_43 ?_
    refine wX7_growLines_44 ?_
    refine wX7_growLines_45 ?_
    refine wX7_growLines_46 ?_
    refine wX7_growLines_47 ?_
    refine wX7_growLines_50 (by decide) ?_
    refine wX7_growLines_51 ?_
    refine wX7_growLines_53 ?_
    refine wX7_growLines_55 ?_
    refine wX7_growLines_58 ?_
    refine wX7_growLines_59 ?_
    refine wX7_growLines_60 ?_
    refine wX7_growLines_61 ?_
    refine wX7_growLines_62 ?_
    refine wX7_growLines_65 (by decide) ?_
    refine wX7_growLines_66 ?_
    refine wX7_growLines_68 ?_
    refine wX7_growLines_71 ?_
    refine q_ls (by rw [nI_1]; rfl) (ih _ ⟨by rw [q_up_n (by omega), q_up_n (by omega)]; exact h1, ⟨_, by rw [q_up_n (by omega)]; exact q_up_s, fun k hk => ?_⟩, ⟨_, q_up_s, fun k hk => ?_⟩, (ho.trans (q_out.up (by omega) (by omega))).trans (q_out.up (by omega) (by omega))⟩)
    · unfold upd
      by_cases q1 : k = i
      · rw [if_pos q1, q1]
      · rw [if_neg q1]; exact h3 k (by omega)
    · unfold upd
      by_cases q1 : k = i
      · rw [if_pos q1, q1]
      · rw [if_neg q1]; exact h5 k (by omega)
theorem mX7_addBracket {a n : Nat} {e : q_Te} {x y : Int32} {P : q_H → Option Nat → Prop} (hE : isE h a e) (hn : te_n e = nI n) (h4 : n < 4) (hk : ∀ h', isE h' a (te_c e, te_l e, upd (te_s e) n x, upd (te_r e) n y, te_n e + 1, e.2.2.2.2.2) → q_out a 5 h h' → P h' z) : QMv V iX7_addBracket [.ref a, .int x, .int y] h z P Kx := by
  obtain ⟨f, hf, hfe⟩ := hE.2.2.2.1
  obtain ⟨g, hg, hge⟩ := hE.2.2.2.2
  refine eX7_addBracket ?_
  refine wX7_addBracket_0 ?_
  refine wX7_addBracket_1 hE.1 ?_
  refine wX7_addBracket_4 ?_
  refine wX7_addBracket_5 (fun c5 => absurd c5 (by rw [hn]; exact nI_ge (b := 4) h4 (by decide))) (fun c5 => ?_)
  refine wX7_addBracket_8 ?_
  refine wX7_addBracket_9 hE.1 ?_
  refine wX7_addBracket_12 ?_
  refine wX7_addBracket_13 hE.1 ?_
  refine wX7_addBracket_16 ?_
  refine wX7_addBracket_17 hf hn (by omega) (by decide) ?_
  refine wX7_addBracket_18 ?_
  refine wX7_addBracket_19 (by rw [q_up_n (by omega)]; exact hE.1) ?_
  refine wX7_addBracket_22 ?_
  refine wX7_addBracket_23 (by rw [q_up_n (by omega)]; exact hE.1) ?_
  refine wX7_addBracket_26 ?_
  refine wX7_addBracket_27 (by rw [q_up_n (by omega)]; exact hg) hn (by omega) (by decide) ?_
  refine wX7_addBracket_28 ?_
  refine wX7_addBracket_29 ?_
  refine wX7_addBracket_30 (by rw [q_up_n (by omega), q_up_n (by omega)]; exact hE.1) ?_
  refine wX7_addBracket_33 ?_
  refine wX7_addBracket_34 ?_
  refine wX7_addBracket_35 (by rw [q_up_n (by omega), q_up_n (by omega)]; exact hE.1) ?_
  refine wX7_addBracket_38  ?_
  refine hk _ ⟨q_up_s, ?_, ?_, ?_, ?_⟩ (((q_out.up (by omega) (by omega)).trans (q_out.up (by omega) (by omega))).trans (q_out.up (by omega) (by omega)))
  · exact ((hE.2.1.n (by omega)).n (by omega)).n (by omega)
  · exact ((hE.2.2.1.n (by omega)).n (by omega)).n (by omega)
  · refine ((isA.w fun k hk => ?_).n (by omega)).n (by omega)
    show upd f n x k = upd (te_s e) n x k
    unfold upd; split
    · rfl
    · exact hfe k hk
  · refine (isA.w fun k hk => ?_).n (by omega)
    show upd g n y k = upd (te_r e) n y k
    unfold upd; split
    · rfl
    · exact hge k hk
theorem q_drp {y : q_I} {pc : Nat} {ls : List (Option Value)} {st : List Value} {bc bs : Nat} {Kr : q_KR} (k : Nat) (kk : QW V y pc (ls.set k none) st h z bc bs Kr Kx) : QW V y pc ls st h z bc bs Kr Kx :=
  q_less (ls.set k none) (by simp) (fun i v hv => by
    rw [List.getElem?_set] at hv
    split at hv
    · split at hv <;> cases hv
    · exact hv) kk
theorem mX7_taxOf {a n : Nat} {e : q_Te} {ch th tx : Int32} {P : Int64 → q_H → Option Nat → Prop} (hE : isE h a e) (hn : te_n e = nI n) (h4 : n ≤ 4) (hk : P (te_tax e ch th tx) h z) : QMl V iX7_taxOf [.ref a, .int ch, .int th, .int tx] h z P Kx := by
  obtain ⟨fs, hfs, hse⟩ := hE.2.2.2.1
  obtain ⟨fr, hfr, hre⟩ := hE.2.2.2.2
  have hcl : (te_n e).toNatClampNeg = n := by rw [hn]; exact nI_clamp (by omega)
  refine eX7_taxOf ?_
  refine wX7_taxOf_0 ?_
  refine wX7_taxOf_1 ?_
  refine wX7_taxOf_2 ?_
  refine wX7_taxOf_3 hE.1 (mX7_isTaxed hE ?_)
  refine wX7_taxOf_6 (fun c6 => ?_) (fun c6 => ?_)
  · refine wX7_taxOf_11 ?_
    refine wX7_taxOf_12 ?_
    refine wX7_taxOf_13 ?_
    refine wX7_taxOf_14 ?_
    refine wX7_taxOf_15 hE.1 (mX7_taxLineIn hE ?_)
    refine wX7_taxOf_18 ?_
    refine wX7_taxOf_19 ?_
    refine wX7_taxOf_20 ?_
    refine wX7_taxOf_22 ?_
    refine wX7_taxOf_24 ?_
    refine wX7_taxOf_26 ?_
    refine wX7_taxOf_27 ?_
    refine wX7_taxOf_29 ?_
    refine wX7_taxOf_30 ?_
    refine q_for (P := fun i => QW V iX7_taxOf 32 [some (.ref a), some (.int ch), some (.int th), some (.int tx), some (.long (ch.toInt64 - (te_li e th).toInt64)), none, some (.long (te_lp e (ch.toInt64 - (te_li e th).toInt64) i).2), none, some (.long (te_lp e (ch.toInt64 - (te_li e th).toInt64) i).1), none, some (.int (nI i)), none, none] [] h z 0 0 (q_Kl P) Kx) n ?_ (fun i hi ih => ?_)
    · refine wX7_taxOf_32 ?_
      refine wX7_taxOf_34 ?_
      refine wX7_taxOf_35 hE.1 ?_
      refine wX7_taxOf_38 (fun c38 => ?_) (fun c38 => absurd (by rw [hn]; exact nI_le (Nat.le_refl _) (by omega)) c38)
      refine wX7_taxOf_105 ?_
      refine wX7_taxOf_106 ?_
      refine wX7_taxOf_107 ?_
      refine wX7_taxOf_108 hE.1 (mX7_isTaxedOften ?_)
      refine wX7_taxOf_111 (fun c111 => ?_) (fun c111 => ?_)
      · refine wX7_taxOf_122 ?_
        refine wX7_taxOf_124  ?_
        first
          | exact q_cv (by rw [te_tax, if_pos (q_b1 c6), if_pos (q_b1 c111), hcl]) hk
          | exact q_cv (by rw [te_tax, if_pos (q_b1 c6), if_neg (by rw [q_b0 c111]; decide), hcl]) hk
      · refine wX7_taxOf_114 ?_
        refine wX7_taxOf_116 ?_
        refine wX7_taxOf_118 ?_
        refine wX7_taxOf_119 ?_
        refine wX7_taxOf_124  ?_
        first
          | exact q_cv (by rw [te_tax, if_pos (q_b1 c6), if_pos (q_b1 c111), hcl]) hk
          | exact q_cv (by rw [te_tax, if_pos (q_b1 c6), if_neg (by rw [q_b0 c111]; decide), hcl]) hk
    · refine wX7_taxOf_32 ?_
      refine wX7_taxOf_34 ?_
      refine wX7_taxOf_35 hE.1 ?_
      refine wX7_taxOf_38 (fun c38 => absurd c38 (by rw [hn]; exact nI_ge hi (by omega))) (fun c38 => ?_)
      refine wX7_taxOf_41 ?_
      refine wX7_taxOf_43 ?_
      refine wX7_taxOf_44 hE.1 ?_
      refine wX7_taxOf_47 ?_
      refine wX7_taxOf_48 ?_
      refine wX7_taxOf_49 (fun c49 => ?_) (fun c49 => ?_)
      · refine wX7_taxOf_57 ?_
        refine wX7_taxOf_59 ?_
        refine wX7_taxOf_60 hE.1 ?_
        refine wX7_taxOf_63 ?_
        refine wX7_taxOf_65 hfs rfl (by omega) (by decide) ?_
        refine wX7_taxOf_66 ?_
        refine wX7_taxOf_67 ?_
        refine wX7_taxOf_70 ?_
        refine wX7_taxOf_72 ?_
        refine wX7_taxOf_74 ?_
        refine wX7_taxOf_76 ?_
        refine wX7_taxOf_77 hE.1 ?_
        refine wX7_taxOf_80 ?_
        refine wX7_taxOf_82 hfr rfl (by omega) (by decide) ?_
        refine wX7_taxOf_83 ?_
        refine wX7_taxOf_84 ?_
        refine wX7_taxOf_85 ?_
        refine wX7_taxOf_88 (by decide) ?_
        refine wX7_taxOf_89 ?_
        refine wX7_taxOf_90 ?_
        refine wX7_taxOf_92 ?_
        refine wX7_taxOf_94 ?_
        refine wX7_taxOf_96 ?_
        refine wX7_taxOf_97 ?_
        refine wX7_taxOf_99 ?_
        refine wX7_taxOf_102 ?_
        exact q_drp 11 (q_ls (by rw [nI_1]; simp [te_lp, te_pt, hse i (by omega), hre i (by omega), c49]) ih)
      · refine wX7_taxOf_52 ?_
        refine wX7_taxOf_54 ?_
        refine wX7_taxOf_70 ?_
        refine wX7_taxOf_72 ?_
        refine wX7_taxOf_74 ?_
        refine wX7_taxOf_76 ?_
        refine wX7_taxOf_77 hE.1 ?_
        refine wX7_taxOf_80 ?_
        refine wX7_taxOf_82 hfr rfl (by omega) (by decide) ?_
        refine wX7_taxOf_83 ?_
        refine wX7_taxOf_84 ?_
        refine wX7_taxOf_85 ?_
        refine wX7_taxOf_88 (by decide) ?_
        refine wX7_taxOf_89 ?_
        refine wX7_taxOf_90 ?_
        refine wX7_taxOf_92 ?_
        refine wX7_taxOf_94 ?_
        refine wX7_taxOf_96 ?_
        refine wX7_taxOf_97 ?_
        refine wX7_taxOf_99 ?_
        refine wX7_taxOf_102 ?_
        exact q_drp 11 (q_ls (by rw [nI_1]; simp [te_lp, te_pt, hse i (by omega), hre i (by omega), c49]) ih)
  · refine wX7_taxOf_9 ?_
    refine wX7_taxOf_10  ?_
    exact q_cv (by rw [te_tax, if_neg (by rw [q_b0 c6]; decide)]) hk
end CX7
