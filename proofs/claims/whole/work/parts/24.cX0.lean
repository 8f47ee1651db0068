/-! SalaryCapLedger$Books -/
section CX0
variable {V : q_En} {h : q_H} {z : Option Nat} {Kx : q_KX}
abbrev q_Bk : Type := (Nat → q_Pl) × (Nat → q_Tm) × q_Dl × Int32
def b_p (b : q_Bk) : Nat → q_Pl := b.1
def b_t (b : q_Bk) : Nat → q_Tm := b.2.1
def b_o (b : q_Bk) : q_Dl := b.2.2.1
def b_w (b : q_Bk) : Int32 := b.2.2.2
abbrev bookE (a : Nat) (w : Int32) : q_E := .inr (1, [.ref (a + 1), .ref (a + 2), .ref (a + 3), .int w])
def rowf (a n : Nat) : Nat → Option Nat := fun k => if k < n then some (a + 2 * k) else none
abbrev rowE (t n a : Nat) : q_E := .inl (t, n, .inr (.inr (.inr (.inr (rowf a n)))))
def isB (h : q_H) (a : Nat) (b : q_Bk) : Prop := h a = some (bookE a (b_w b)) ∧ h (a + 1) = some (rowE 4 24 (a + 4)) ∧ h (a + 2) = some (rowE 5 4 (a + 52)) ∧ h (a + 3) = some (dealE (b_o b)) ∧ (∀ k, k < 24 → isP h (a + 4 + 2 * k) (b_p b k)) ∧ ∀ k, k < 4 → isT h (a + 52 + 2 * k) (b_t b k)
def b_sP (b : q_Bk) (k : Nat) (p : q_Pl) : q_Bk := (fun j => if j = k then p else b_p b j, b.2)
def b_sT (b : q_Bk) (k : Nat) (t : q_Tm) : q_Bk := (b.1, fun j => if j = k then t else b_t b j, b.2.2)
def b_sO (b : q_Bk) (d : q_Dl) : q_Bk := (b.1, b.2.1, d, b.2.2.2)
def b_sW (b : q_Bk) (w : Int32) : q_Bk := (b.1, b.2.1, b.2.2.1, w)
theorem isB.o {a c m : Nat} {b : q_Bk} {h' : q_H} (hB : isB h a b) (ho : q_out c m h h') (ne : a + 60 ≤ c ∨ c + m ≤ a) : isB h' a b :=
  ⟨by rw [ho a (by omega)]; exact hB.1, by rw [ho (a + 1) (by omega)]; exact hB.2.1, by rw [ho (a + 2) (by omega)]; exact hB.2.2.1, by rw [ho (a + 3) (by omega)]; exact hB.2.2.2.1, fun k hk => (hB.2.2.2.2.1 k hk).o ho (by omega), fun k hk => (hB.2.2.2.2.2 k hk).o ho (by omega)⟩
theorem isB.ext {a : Nat} {b b' : q_Bk} (hB : isB h a b) (e1 : ∀ k, k < 24 → b_p b k = b_p b' k) (e2 : ∀ k, k < 4 → b_t b k = b_t b' k) (e3 : b_o b = b_o b') (e4 : b_w b = b_w b') : isB h a b' :=
  ⟨by rw [← e4]; exact hB.1, hB.2.1, hB.2.2.1, by rw [← e3]; exact hB.2.2.2.1, fun k hk => by rw [← e1 k hk]; exact hB.2.2.2.2.1 k hk, fun k hk => by rw [← e2 k hk]; exact hB.2.2.2.2.2 k hk⟩
theorem isB.P {a k : Nat} {b : q_Bk} (hB : isB h a b) (hk : k < 24) : isP h (a + 4 + 2 * k) (b_p b k) := hB.2.2.2.2.1 k hk
theorem isB.T {a k : Nat} {b : q_Bk} (hB : isB h a b) (hk : k < 4) : isT h (a + 52 + 2 * k) (b_t b k) := hB.2.2.2.2.2 k hk
theorem isB.sP {a k : Nat} {b : q_Bk} {p : q_Pl} {h' : q_H} (hB : isB h a b) (hk : k < 24) (hp : isP h' (a + 4 + 2 * k) p) (ho : q_out (a + 4 + 2 * k) 2 h h') : isB h' a (b_sP b k p) := by
  refine ⟨by rw [ho a (by omega)]; exact hB.1, by rw [ho (a + 1) (by omega)]; exact hB.2.1, by rw [ho (a + 2) (by omega)]; exact hB.2.2.1, by rw [ho (a + 3) (by omega)]; exact hB.2.2.2.1, fun j hj => ?_, fun j hj => (hB.2.2.2.2.2 j hj).o ho (by omega)⟩
  by_cases q : j = k
  · subst q; show isP h' _ (if j = j then p else _); rw [if_pos rfl]; exact hp
  · show isP h' _ (if j = k then p else _); rw [if_neg q]; exact (hB.2.2.2.2.1 j hj).o ho (by omega)
theorem isB.sT {a k : Nat} {b : q_Bk} {t : q_Tm} {h' : q_H} (hB : isB h a b) (hk : k < 4) (ht : isT h' (a + 52 + 2 * k) t) (ho : q_out (a + 52 + 2 * k) 2 h h') : isB h' a (b_sT b k t) := by
  refine ⟨by rw [ho a (by omega)]; exact hB.1, by rw [ho (a + 1) (by omega)]; exact hB.2.1, by rw [ho (a + 2) (by omega)]; exact hB.2.2.1, by rw [ho (a + 3) (by omega)]; exact hB.2.2.2.1, fun j hj => (hB.2.2.2.2.1 j hj).o ho (by omega), fun j hj => ?_⟩
  by_cases q : j = k
  · subst q; show isT h' _ (if j = j then t else _); rw [if_pos rfl]; exact ht
  · show isT h' _ (if j = k then t else _); rw [if_neg q]; exact (hB.2.2.2.2.2 j hj).o ho (by omega)
theorem isB.sO {a : Nat} {b : q_Bk} {d : q_Dl} (hB : isB h a b) : isB (q_up h (a + 3) (dealE d)) a (b_sO b d) := by
  have ho : q_out (a + 3) 1 h (q_up h (a + 3) (dealE d)) := q_out.up (by omega) (by omega)
  exact ⟨by rw [ho a (by omega)]; exact hB.1, by rw [ho (a + 1) (by omega)]; exact hB.2.1, by rw [ho (a + 2) (by omega)]; exact hB.2.2.1, q_up_s, fun j hj => (hB.2.2.2.2.1 j hj).o ho (by omega), fun j hj => (hB.2.2.2.2.2 j hj).o ho (by omega)⟩
theorem isB.sW {a : Nat} {b : q_Bk} {w : Int32} (hB : isB h a b) : isB (q_up h a (bookE a w)) a (b_sW b w) := by
  have ho : q_out a 1 h (q_up h a (bookE a w)) := q_out.up (by omega) (by omega)
  exact ⟨q_up_s, by rw [ho (a + 1) (by omega)]; exact hB.2.1, by rw [ho (a + 2) (by omega)]; exact hB.2.2.1, by rw [ho (a + 3) (by omega)]; exact hB.2.2.2.1, fun j hj => (hB.2.2.2.2.1 j hj).o ho (by omega), fun j hj => (hB.2.2.2.2.2 j hj).o ho (by omega)⟩
theorem q_bz {b : Bool} : q_b b = 0 ↔ b = false := by cases b <;> simp [q_b]
/-- sums over the first n, from the left, behind a start -/
def q_ac (i : Int32) (f : Nat → Int32) : Nat → Int32
  | 0 => i
  | k + 1 => q_ac i f k + f k
def q_bit (s : Int32) (k : Nat) : Bool := decide ((s >>> (nI k &&& 31)) &&& 1 = 1)
def b_plf (b : q_Bk) (k : Nat) (t : Int32) : Bool := decide (p_t (b_p b k) = t)
def b_set (b : q_Bk) (t : Int32) : Nat → Int32
  | 0 => 0
  | k + 1 => if b_plf b k t then b_set b t k ||| ((1 : Int32) <<< (nI k &&& 31)) else b_set b t k
def b_ch (b : q_Bk) (j : Nat) (x : Int32) : Int32 := q_ac (t_in (b_t b j) x) (fun k => if b_plf b k (nI j) then pl_cost (b_p b k) x else 0) 24
def b_sn (b : q_Bk) (s : Int32) : Int32 := q_ac 0 (fun k => if q_bit s k then pl_sal (b_p b k) (b_w b) else 0) 24
def b_cc (b : q_Bk) (lv cm : Int32) : Int32 := q_ac (b_sn b cm) (fun k => if q_bit lv k then pl_sl (b_p b k) (b_w b) - pl_cost (b_p b k) (b_w b) else 0) 24
def t_mid (t : q_Tm) (m : Int32) : q_Tm := (t.1, t.2.1, t.2.2.1, m)
def b_ref (b : q_Bk) (m : Int32) : q_Bk := (b.1, fun k => t_mid (b_t b k) m, b.2.2)
def b_clr (b : q_Bk) : q_Bk := (fun k => pl_no (b_p b k), fun _ => (fun _ => 0, 0, 0, 0), (1, 0, 1, 0, 0), 0)
def b_ey (b : q_Bk) (m : Int32) : q_Bk := (fun k => pl_end (b_p b k) (b_w b + 1), fun k => t_mid (b_t b k) m, b_o b, b_w b + 1)
/-- a team's dead money as a release lays it, by years ahead -/
def t_dis (t : q_Tm) (p : q_Pl) (w st : Int32) : Nat → q_Tm
  | 0 => t
  | i + 1 => t_add (t_dis t p w st i) (w + nI i) (pl_rc p w st (nI i))
def b_dis (b : q_Bk) (k j : Nat) (st : Int32) : q_Bk := b_sP (b_sT b j (t_dis (b_t b j) (b_p b k) (b_w b) st 12)) k (pl_no (b_p b k))
def b_dsum (b : q_Bk) (k : Nat) (st : Int32) : Int32 := q_ac 0 (fun i => pl_rc (b_p b k) (b_w b) st (nI i)) 12
def pl_mv (p : q_Pl) (t : Int32) : q_Pl := (t, t, p_n p, p_s p, d_b (p_d p), d_r (p_d p), d_n (p_d p), 0, d_g (p_d p))
def b_mv (b : q_Bk) (s : Int32) (f : Nat) (t : Int32) : Nat → q_Bk
  | 0 => b
  | k + 1 => if q_bit s k then b_sP (b_sT (b_mv b s f t k) f (t_add (b_t (b_mv b s f t k) f) (b_w b) (pl_sl (b_p (b_mv b s f t k) k) (b_w b)))) k (pl_mv (b_p (b_mv b s f t k) k) t) else b_mv b s f t k
theorem b_mv_w (b : q_Bk) (s : Int32) (f : Nat) (t : Int32) (k : Nat) : b_w (b_mv b s f t k) = b_w b := by
  induction k with
  | zero => rfl
  | succ k ih => unfold b_mv; split <;> exact ih
theorem mX0_refillMidLevel {a : Nat} {b : q_Bk} {m : Int32} {P : q_H → Option Nat → Prop} (hB : isB h a b) (hk : ∀ h', isB h' a (b_ref b m) → q_out a 60 h h' → P h' z) : QMv V iX0_refillMidLevel [.ref a, .int m] h z P Kx := by
  refine eX0_refillMidLevel ?_
  refine wX0_refillMidLevel_0 ?_
  refine wX0_refillMidLevel_1 ?_
  refine q_for (P := fun i => ∀ hh, (isB hh a (b.1, fun k => if k < i then t_mid (b_t b k) m else b_t b k, b.2.2) ∧ q_out a 60 h hh) → QW V iX0_refillMidLevel 2 [some (.ref a), some (.int m), some (.int (nI i))] [] hh z 0 0 (q_Kv P) Kx) 4 ?_ ?_ h ⟨hB.ext (fun _ _ => rfl) (fun k _ => by simp [b_t]) rfl rfl, q_out.refl⟩
  · rintro hh ⟨hB, ho⟩
    refine wX0_refillMidLevel_2 ?_
    refine wX0_refillMidLevel_3 ?_
    refine wX0_refillMidLevel_4 (fun c4 => ?_) (fun c4 => absurd (by decide) c4)
    refine wX0_refillMidLevel_23  ?_
    exact hk _ (hB.ext (fun _ _ => rfl) (fun k hk => by simp [b_t, b_ref, hk]) rfl rfl) ho
  · rintro i hi ih hh ⟨hB, ho⟩
    refine wX0_refillMidLevel_2 ?_
    refine wX0_refillMidLevel_3 ?_
    refine wX0_refillMidLevel_4 (fun c4 => absurd c4 (nI_ge (b := 4) hi (by decide))) (fun c4 => ?_)
    refine wX0_refillMidLevel_7 ?_
    refine wX0_refillMidLevel_8 hB.1 ?_
    refine wX0_refillMidLevel_11 ?_
    refine wX0_refillMidLevel_12 (t := 5) rfl hB.2.2.1 rfl hi (by decide) (if_pos hi) ?_
    refine wX0_refillMidLevel_13 ?_
    refine wX0_refillMidLevel_14 (hB.T hi).1 ?_
    refine wX0_refillMidLevel_17 ?_
    refine wX0_refillMidLevel_20 ?_
    have hT := (hB.T hi).up (t' := t_mid (b_t b i) m) (by simp [t_d, t_mid, b_t])
    refine q_lsh (by rw [nI_1]) ?_ (ih _ ⟨(hB.sT hi hT (q_out.up (by omega) (by omega))).ext (fun _ _ => rfl) (fun k _ => ?_) rfl rfl, ho.trans (q_out.up (by omega) (by omega))⟩)
    · simp [teamE, t_mid, b_t, t_p, t_x, t_m]
    · simp only [b_sT, b_t]
      by_cases q1 : k = i
      · subst q1; simp
      · by_cases q2 : k < i
        · simp [q1, q2, show k < i + 1 by omega]
        · simp [q1, q2, show ¬ k < i + 1 by omega]
theorem mX0_playsFor {a k : Nat} {b : q_Bk} {t : Int32} {P : Int32 → q_H → Option Nat → Prop} (hB : isB h a b) (hk24 : k < 24) (hk : P (q_b (b_plf b k t)) h z) : QMi V iX0_playsFor [.ref a, .int (nI k), .int t] h z P Kx := by
  refine eX0_playsFor ?_
  refine wX0_playsFor_0 ?_
  refine wX0_playsFor_1 hB.1 ?_
  refine wX0_playsFor_4 ?_
  refine wX0_playsFor_5 (t := 4) rfl hB.2.1 rfl hk24 (by decide) (if_pos hk24) ?_
  refine wX0_playsFor_6 (hB.P hk24).1 ?_
  refine wX0_playsFor_9 ?_
  refine wX0_playsFor_10 (fun c10 => ?_) (fun c10 => ?_)
  · refine wX0_playsFor_17 ?_
    refine wX0_playsFor_18  ?_
    exact q_cv (by simp [b_plf, q_b, *]) hk
  · refine wX0_playsFor_13 ?_
    refine wX0_playsFor_14 ?_
    refine wX0_playsFor_18  ?_
    exact q_cv (by simp [b_plf, q_b, *]) hk
theorem mX0_playersOf {a : Nat} {b : q_Bk} {t : Int32} {P : Int32 → q_H → Option Nat → Prop} (hB : isB h a b) (hk : P (b_set b t 24) h z) : QMi V iX0_playersOf [.ref a, .int t] h z P Kx := by
  refine eX0_playersOf ?_
  refine wX0_playersOf_0 ?_
  refine wX0_playersOf_1 ?_
  refine wX0_playersOf_2 ?_
  refine wX0_playersOf_3 ?_
  refine q_for (P := fun i => QW V iX0_playersOf 4 [some (.ref a), some (.int t), some (.int (b_set b t i)), some (.int (nI i))] [] h z 0 0 (q_Ki P) Kx) 24 ?_ (fun i hi ih => ?_)
  · refine wX0_playersOf_4 ?_
    refine wX0_playersOf_5 ?_
    refine wX0_playersOf_7 (fun c7 => ?_) (fun c7 => absurd (by decide) c7)
    refine wX0_playersOf_31 ?_
    refine wX0_playersOf_32  ?_
    exact hk
  · refine wX0_playersOf_4 ?_
    refine wX0_playersOf_5 ?_
    refine wX0_playersOf_7 (fun c7 => absurd c7 (nI_ge (b := 24) hi (by decide))) (fun c7 => ?_)
    refine wX0_playersOf_10 ?_
    refine wX0_playersOf_11 ?_
    refine wX0_playersOf_12 ?_
    refine wX0_playersOf_13 hB.1 (mX0_playsFor hB hi ?_)
    refine wX0_playersOf_16 (fun c16 => ?_) (fun c16 => ?_)
    · refine wX0_playersOf_25 ?_
      refine wX0_playersOf_28 ?_
      simp only [q_bz] at c16
      exact q_ls (by rw [nI_1]; simp [b_set, c16]) ih
    · refine wX0_playersOf_19 ?_
      refine wX0_playersOf_20 ?_
      refine wX0_playersOf_21 ?_
      refine wX0_playersOf_22 ?_
      refine wX0_playersOf_23 ?_
      refine wX0_playersOf_24 ?_
      refine wX0_playersOf_25 ?_
      refine wX0_playersOf_28 ?_
      simp only [q_bz] at c16
      exact q_ls (by rw [nI_1]; simp [b_set, c16]) ih
theorem mX0_chargeIn {a j : Nat} {b : q_Bk} {x : Int32} {P : Int32 → q_H → Option Nat → Prop} (hB : isB h a b) (hj : j < 4) (hk : P (b_ch b j x) h z) : QMi V iX0_chargeIn [.ref a, .int (nI j), .int x] h z P Kx := by
  refine eX0_chargeIn ?_
  refine wX0_chargeIn_0 ?_
  refine wX0_chargeIn_1 hB.1 ?_
  refine wX0_chargeIn_4 ?_
  refine wX0_chargeIn_5 (t := 5) rfl hB.2.2.1 rfl hj (by decide) (if_pos hj) ?_
  refine wX0_chargeIn_6 ?_
  refine wX0_chargeIn_7 (hB.T hj).1 (mX6_deadIn (hB.T hj) ?_)
  refine wX0_chargeIn_10 ?_
  refine wX0_chargeIn_11 ?_
  refine wX0_chargeIn_12 ?_
  refine q_for (P := fun i => QW V iX0_chargeIn 14 [some (.ref a), some (.int (nI j)), some (.int x), some (.int (q_ac (t_in (b_t b j) x) (fun k => if b_plf b k (nI j) then pl_cost (b_p b k) x else 0) i)), some (.int (nI i))] [] h z 0 0 (q_Ki P) Kx) 24 ?_ (fun i hi ih => ?_)
  · refine wX0_chargeIn_14 ?_
    refine wX0_chargeIn_16 ?_
    refine wX0_chargeIn_18 (fun c18 => ?_) (fun c18 => absurd (by decide) c18)
    refine wX0_chargeIn_51 ?_
    refine wX0_chargeIn_52  ?_
    exact hk
  · refine wX0_chargeIn_14 ?_
    refine wX0_chargeIn_16 ?_
    refine wX0_chargeIn_18 (fun c18 => absurd c18 (nI_ge (b := 24) hi (by decide))) (fun c18 => ?_)
    refine wX0_chargeIn_21 ?_
    refine wX0_chargeIn_22 ?_
    refine wX0_chargeIn_24 ?_
    refine wX0_chargeIn_25 hB.1 (mX0_playsFor hB hi ?_)
    refine wX0_chargeIn_28 (fun c28 => ?_) (fun c28 => ?_)
    · refine wX0_chargeIn_45 ?_
      refine wX0_chargeIn_48 ?_
      simp only [q_bz] at c28
      exact q_ls (by rw [nI_1]; simp [q_ac, c28]) ih
    · refine wX0_chargeIn_31 ?_
      refine wX0_chargeIn_32 ?_
      refine wX0_chargeIn_33 hB.1 ?_
      refine wX0_chargeIn_36 ?_
      refine wX0_chargeIn_38 (t := 4) rfl hB.2.1 rfl hi (by decide) (if_pos hi) ?_
      refine wX0_chargeIn_39 ?_
      refine wX0_chargeIn_40 (hB.P hi).1 (mX3_costIn (hB.P hi) ?_)
      refine wX0_chargeIn_43 ?_
      refine wX0_chargeIn_44 ?_
      refine wX0_chargeIn_45 ?_
      refine wX0_chargeIn_48 ?_
      simp only [q_bz] at c28
      exact q_ls (by rw [nI_1]; simp [q_ac, c28]) ih
theorem mX0_chargeNow {a j : Nat} {b : q_Bk} {P : Int32 → q_H → Option Nat → Prop} (hB : isB h a b) (hj : j < 4) (hk : P (b_ch b j (b_w b)) h z) : QMi V iX0_chargeNow [.ref a, .int (nI j)] h z P Kx := by
  refine eX0_chargeNow ?_
  refine wX0_chargeNow_0 ?_
  refine wX0_chargeNow_1 ?_
  refine wX0_chargeNow_2 ?_
  refine wX0_chargeNow_3 hB.1 ?_
  refine wX0_chargeNow_6 hB.1 (mX0_chargeIn hB hj ?_)
  refine wX0_chargeNow_9  ?_
  exact hk
theorem mX0_salariesNow {a : Nat} {b : q_Bk} {s : Int32} {P : Int32 → q_H → Option Nat → Prop} (hB : isB h a b) (hk : P (b_sn b s) h z) : QMi V iX0_salariesNow [.ref a, .int s] h z P Kx := by
  refine eX0_salariesNow ?_
  refine wX0_salariesNow_0 ?_
  refine wX0_salariesNow_1 ?_
  refine wX0_salariesNow_2 ?_
  refine wX0_salariesNow_3 ?_
  refine q_for (P := fun i => QW V iX0_salariesNow 4 [some (.ref a), some (.int s), some (.int (q_ac 0 (fun k => if q_bit s k then pl_sal (b_p b k) (b_w b) else 0) i)), some (.int (nI i))] [] h z 0 0 (q_Ki P) Kx) 24 ?_ (fun i hi ih => ?_)
  · refine wX0_salariesNow_4 ?_
    refine wX0_salariesNow_5 ?_
    refine wX0_salariesNow_7 (fun c7 => ?_) (fun c7 => absurd (by decide) c7)
    refine wX0_salariesNow_41 ?_
    refine wX0_salariesNow_42  ?_
    exact hk
  · refine wX0_salariesNow_4 ?_
    refine wX0_salariesNow_5 ?_
    refine wX0_salariesNow_7 (fun c7 => absurd c7 (nI_ge (b := 24) hi (by decide))) (fun c7 => ?_)
    refine wX0_salariesNow_10 ?_
    refine wX0_salariesNow_11 ?_
    refine wX0_salariesNow_12 ?_
    refine wX0_salariesNow_13 ?_
    refine wX0_salariesNow_14 ?_
    refine wX0_salariesNow_15 ?_
    refine wX0_salariesNow_16 (fun c16 => ?_) (fun c16 => ?_)
    · refine wX0_salariesNow_35 ?_
      refine wX0_salariesNow_38 ?_
      exact q_ls (by rw [nI_1]; simp [q_ac, q_bit, c16]) ih
    · refine wX0_salariesNow_19 ?_
      refine wX0_salariesNow_20 ?_
      refine wX0_salariesNow_21 hB.1 ?_
      refine wX0_salariesNow_24 ?_
      refine wX0_salariesNow_25 (t := 4) rfl hB.2.1 rfl hi (by decide) (if_pos hi) ?_
      refine wX0_salariesNow_26 ?_
      refine wX0_salariesNow_27 hB.1 ?_
      refine wX0_salariesNow_30 (hB.P hi).1 (mX3_salaryIn (hB.P hi) ?_)
      refine wX0_salariesNow_33 ?_
      refine wX0_salariesNow_34 ?_
      refine wX0_salariesNow_35 ?_
      refine wX0_salariesNow_38 ?_
      exact q_ls (by rw [nI_1]; simp [q_ac, q_bit, c16]) ih
theorem mX0_chargeChange {a : Nat} {b : q_Bk} {lv cm : Int32} {P : Int32 → q_H → Option Nat → Prop} (hB : isB h a b) (hk : P (b_cc b lv cm) h z) : QMi V iX0_chargeChange [.ref a, .int lv, .int cm] h z P Kx := by
  refine eX0_chargeChange ?_
  refine wX0_chargeChange_0 ?_
  refine wX0_chargeChange_1 ?_
  refine wX0_chargeChange_2 hB.1 (mX0_salariesNow hB ?_)
  refine wX0_chargeChange_5 ?_
  refine wX0_chargeChange_6 ?_
  refine wX0_chargeChange_7 ?_
  refine q_for (P := fun i => QW V iX0_chargeChange 9 [some (.ref a), some (.int lv), some (.int cm), some (.int (q_ac (b_sn b cm) (fun k => if q_bit lv k then pl_sl (b_p b k) (b_w b) - pl_cost (b_p b k) (b_w b) else 0) i)), some (.int (nI i))] [] h z 0 0 (q_Ki P) Kx) 24 ?_ (fun i hi ih => ?_)
  · refine wX0_chargeChange_9 ?_
    refine wX0_chargeChange_11 ?_
    refine wX0_chargeChange_13 (fun c13 => ?_) (fun c13 => absurd (by decide) c13)
    refine wX0_chargeChange_64 ?_
    refine wX0_chargeChange_65  ?_
    exact hk
  · refine wX0_chargeChange_9 ?_
    refine wX0_chargeChange_11 ?_
    refine wX0_chargeChange_13 (fun c13 => absurd c13 (nI_ge (b := 24) hi (by decide))) (fun c13 => ?_)
    refine wX0_chargeChange_16 ?_
    refine wX0_chargeChange_17 ?_
    refine wX0_chargeChange_19 ?_
    refine wX0_chargeChange_20 ?_
    refine wX0_chargeChange_21 ?_
    refine wX0_chargeChange_22 ?_
    refine wX0_chargeChange_23 (fun c23 => ?_) (fun c23 => ?_)
    · refine wX0_chargeChange_58 ?_
      refine wX0_chargeChange_61 ?_
      exact q_ls (by rw [nI_1]; simp [q_ac, q_bit, c23]) ih
    · refine wX0_chargeChange_26 ?_
      refine wX0_chargeChange_27 ?_
      refine wX0_chargeChange_28 hB.1 ?_
      refine wX0_chargeChange_31 ?_
      refine wX0_chargeChange_33 (t := 4) rfl hB.2.1 rfl hi (by decide) (if_pos hi) ?_
      refine wX0_chargeChange_34 ?_
      refine wX0_chargeChange_35 hB.1 ?_
      refine wX0_chargeChange_38 (hB.P hi).1 (mX3_sharesLeft (hB.P hi) ?_)
      refine wX0_chargeChange_41 ?_
      refine wX0_chargeChange_42 hB.1 ?_
      refine wX0_chargeChange_45 ?_
      refine wX0_chargeChange_47 (t := 4) rfl hB.2.1 rfl hi (by decide) (if_pos hi) ?_
      refine wX0_chargeChange_48 ?_
      refine wX0_chargeChange_49 hB.1 ?_
      refine wX0_chargeChange_52 (hB.P hi).1 (mX3_costIn (hB.P hi) ?_)
      refine wX0_chargeChange_55 ?_
      refine wX0_chargeChange_56 ?_
      refine wX0_chargeChange_57 ?_
      refine wX0_chargeChange_58 ?_
      refine wX0_chargeChange_61 ?_
      exact q_ls (by rw [nI_1]; simp [q_ac, q_bit, c23]) ih
theorem mX0_clear {a : Nat} {b : q_Bk} {P : q_H → Option Nat → Prop} (hB : isB h a b) (hk : ∀ h', isB h' a (b_clr b) → q_out a 60 h h' → P h' z) : QMv V iX0_clear [.ref a] h z P Kx := by
  refine eX0_clear ?_
  refine wX0_clear_0 ?_
  refine wX0_clear_1 ?_
  refine q_for (P := fun i => ∀ hh, (isB hh a (fun k => if k < i then pl_no (b_p b k) else b_p b k, b.2) ∧ q_out a 60 h hh) → QW V iX0_clear 2 [some (.ref a), some (.int (nI i))] [] hh z 0 0 (q_Kv P) Kx) 24 ?_ ?_ h ⟨hB.ext (fun k _ => by simp [b_p]) (fun _ _ => rfl) rfl rfl, q_out.refl⟩
  · rintro hh ⟨hB, ho⟩
    refine wX0_clear_2 ?_
    refine wX0_clear_3 ?_
    refine wX0_clear_5 (fun c5 => ?_) (fun c5 => absurd (by decide) c5)
    refine wX0_clear_23 ?_
    refine wX0_clear_24 ?_
    refine q_for (P := fun i => ∀ hh, (isB hh a (fun k => if k < 24 then pl_no (b_p b k) else b_p b k, fun k => if k < i then (fun _ => 0, 0, 0, 0) else b_t b k, b.2.2) ∧ q_out a 60 h hh) → QW V iX0_clear 25 [some (.ref a), some (.int (nI i))] [] hh z 0 0 (q_Kv P) Kx) 4 ?_ ?_ hh ⟨hB.ext (fun _ _ => rfl) (fun k _ => by simp [b_t]) rfl rfl, ho⟩
    · rintro hh ⟨hB, ho⟩
      refine wX0_clear_25 ?_
      refine wX0_clear_26 ?_
      refine wX0_clear_27 (fun c27 => ?_) (fun c27 => absurd (by decide) c27)
      refine wX0_clear_45 ?_
      refine wX0_clear_46 hB.1 ?_
      refine wX0_clear_49 ?_
      refine wX0_clear_50 ?_
      refine wX0_clear_51 ?_
      refine wX0_clear_52 ?_
      refine wX0_clear_53 ?_
      refine wX0_clear_54 hB.2.2.2.1 (mX1_agree hB.2.2.2.1 ?_)
      refine wX0_clear_57 ?_
      refine wX0_clear_58 ?_
      refine wX0_clear_59 (by rw [q_up_n (by omega)]; exact hB.1) ?_
      refine wX0_clear_62  ?_
      exact hk _ (hB.sO.sW.ext (fun k hk => by simp [b_clr, b_sO, b_sW, b_p, hk]) (fun k hk => by simp [b_clr, b_sO, b_sW, b_t, hk]) rfl rfl) ((ho.trans (q_out.up (by omega) (by omega))).trans (q_out.up (by omega) (by omega)))
    · rintro i hi ih hh ⟨hB, ho⟩
      refine wX0_clear_25 ?_
      refine wX0_clear_26 ?_
      refine wX0_clear_27 (fun c27 => absurd c27 (nI_ge (b := 4) hi (by decide))) (fun c27 => ?_)
      refine wX0_clear_30 ?_
      refine wX0_clear_31 hB.1 ?_
      refine wX0_clear_34 ?_
      refine wX0_clear_35 (t := 5) rfl hB.2.2.1 rfl hi (by decide) (if_pos hi) ?_
      refine wX0_clear_36 (hB.T hi).1 (mX6_clear (hB.T hi) fun h2 hT2 ho2 => ?_)
      refine wX0_clear_39 ?_
      refine wX0_clear_42 ?_
      refine q_ls (by rw [nI_1]) (ih _ ⟨(hB.sT hi hT2 ho2).ext (fun _ _ => rfl) (fun k _ => ?_) rfl rfl, ho.trans (ho2.in (by omega) (by omega))⟩)
      simp only [b_sT, b_t]
      by_cases q1 : k = i
      · subst q1; simp
      · by_cases q2 : k < i
        · simp [q1, q2, show k < i + 1 by omega]
        · simp [q1, q2, show ¬ k < i + 1 by omega]
  · rintro i hi ih hh ⟨hB, ho⟩
    refine wX0_clear_2 ?_
    refine wX0_clear_3 ?_
    refine wX0_clear_5 (fun c5 => absurd c5 (nI_ge (b := 24) hi (by decide))) (fun c5 => ?_)
    refine wX0_clear_8 ?_
    refine wX0_clear_9 hB.1 ?_
    refine wX0_clear_12 ?_
    refine wX0_clear_13 (t := 4) rfl hB.2.1 rfl hi (by decide) (if_pos hi) ?_
    refine wX0_clear_14 (hB.P hi).1 (mX3_becomeUnknown (hB.P hi) fun h2 hP2 ho2 => ?_)
    refine wX0_clear_17 ?_
    refine wX0_clear_20 ?_
    refine q_ls (by rw [nI_1]) (ih _ ⟨(hB.sP hi hP2 ho2).ext (fun k _ => ?_) (fun _ _ => rfl) rfl rfl, ho.trans (ho2.in (by omega) (by omega))⟩)
    simp only [b_sP, b_p]
    by_cases q1 : k = i
    · subst q1; simp
    · by_cases q2 : k < i
      · simp [q1, q2, show k < i + 1 by omega]
      · simp [q1, q2, show ¬ k < i + 1 by omega]
theorem mX0_copyFrom {a d : Nat} {b c : q_Bk} {P : q_H → Option Nat → Prop} (had : a + 60 ≤ d ∨ d + 60 ≤ a) (hB : isB h a b) (hC : isB h d c) (hk : ∀ h', isB h' a c → q_out a 60 h h' → P h' z) : QMv V iX0_copyFrom [.ref a, .ref d] h z P Kx := by
  refine eX0_copyFrom ?_
  refine wX0_copyFrom_0 ?_
  refine wX0_copyFrom_1 ?_
  refine q_for (P := fun i => ∀ hh, (isB hh a (fun k => if k < i then b_p c k else b_p b k, b.2) ∧ isB hh d c ∧ q_out a 60 h hh) → QW V iX0_copyFrom 2 [some (.ref a), some (.ref d), some (.int (nI i))] [] hh z 0 0 (q_Kv P) Kx) 24 ?_ ?_ h ⟨hB.ext (fun k _ => by simp [b_p]) (fun _ _ => rfl) rfl rfl, hC, q_out.refl⟩
  · rintro hh ⟨hB, hC, ho⟩
    refine wX0_copyFrom_2 ?_
    refine wX0_copyFrom_3 ?_
    refine wX0_copyFrom_5 (fun c5 => ?_) (fun c5 => absurd (by decide) c5)
    refine wX0_copyFrom_29 ?_
    refine wX0_copyFrom_30 ?_
    refine q_for (P := fun i => ∀ hh, (isB hh a (fun k => if k < 24 then b_p c k else b_p b k, fun k => if k < i then b_t c k else b_t b k, b.2.2) ∧ isB hh d c ∧ q_out a 60 h hh) → QW V iX0_copyFrom 31 [some (.ref a), some (.ref d), some (.int (nI i))] [] hh z 0 0 (q_Kv P) Kx) 4 ?_ ?_ hh ⟨hB.ext (fun _ _ => rfl) (fun k _ => by simp [b_t]) rfl rfl, hC, ho⟩
    · rintro hh ⟨hB, hC, ho⟩
      refine wX0_copyFrom_31 ?_
      refine wX0_copyFrom_32 ?_
      refine wX0_copyFrom_33 (fun c33 => ?_) (fun c33 => absurd (by decide) c33)
      refine wX0_copyFrom_57 ?_
      refine wX0_copyFrom_58 hB.1 ?_
      refine wX0_copyFrom_61 ?_
      refine wX0_copyFrom_62 hC.1 ?_
      refine wX0_copyFrom_65 hB.2.2.2.1 (mX1_copyFrom hB.2.2.2.1 hC.2.2.2.1 ?_)
      refine wX0_copyFrom_68 ?_
      refine wX0_copyFrom_69 ?_
      refine wX0_copyFrom_70 (by rw [q_up_n (by omega)]; exact hC.1) ?_
      refine wX0_copyFrom_73 (by rw [q_up_n (by omega)]; exact hB.1) ?_
      refine wX0_copyFrom_76  ?_
      exact hk _ (hB.sO.sW.ext (fun k hk => by simp [b_sO, b_sW, b_p, hk]) (fun k hk => by simp [b_sO, b_sW, b_t, hk]) rfl rfl) ((ho.trans (q_out.up (by omega) (by omega))).trans (q_out.up (by omega) (by omega)))
    · rintro i hi ih hh ⟨hB, hC, ho⟩
      refine wX0_copyFrom_31 ?_
      refine wX0_copyFrom_32 ?_
      refine wX0_copyFrom_33 (fun c33 => absurd c33 (nI_ge (b := 4) hi (by decide))) (fun c33 => ?_)
      refine wX0_copyFrom_36 ?_
      refine wX0_copyFrom_37 hB.1 ?_
      refine wX0_copyFrom_40 ?_
      refine wX0_copyFrom_41 (t := 5) rfl hB.2.2.1 rfl hi (by decide) (if_pos hi) ?_
      refine wX0_copyFrom_42 ?_
      refine wX0_copyFrom_43 hC.1 ?_
      refine wX0_copyFrom_46 ?_
      refine wX0_copyFrom_47 (t := 5) rfl hC.2.2.1 rfl hi (by decide) (if_pos hi) ?_
      refine wX0_copyFrom_48 (hB.T hi).1 (mX6_copyFrom (by omega) (hB.T hi) (hC.T hi) fun h2 hT2 ho2 => ?_)
      refine wX0_copyFrom_51 ?_
      refine wX0_copyFrom_54 ?_
      refine q_ls (by rw [nI_1]) (ih _ ⟨(hB.sT hi hT2 ho2).ext (fun _ _ => rfl) (fun k _ => ?_) rfl rfl, hC.o ho2 (by omega), ho.trans (ho2.in (by omega) (by omega))⟩)
      simp only [b_sT, b_t]
      by_cases q1 : k = i
      · subst q1; simp
      · by_cases q2 : k < i
        · simp [q1, q2, show k < i + 1 by omega]
        · simp [q1, q2, show ¬ k < i + 1 by omega]
  · rintro i hi ih hh ⟨hB, hC, ho⟩
    refine wX0_copyFrom_2 ?_
    refine wX0_copyFrom_3 ?_
    refine wX0_copyFrom_5 (fun c5 => absurd c5 (nI_ge (b := 24) hi (by decide))) (fun c5 => ?_)
    refine wX0_copyFrom_8 ?_
    refine wX0_copyFrom_9 hB.1 ?_
    refine wX0_copyFrom_12 ?_
    refine wX0_copyFrom_13 (t := 4) rfl hB.2.1 rfl hi (by decide) (if_pos hi) ?_
    refine wX0_copyFrom_14 ?_
    refine wX0_copyFrom_15 hC.1 ?_
    refine wX0_copyFrom_18 ?_
    refine wX0_copyFrom_19 (t := 4) rfl hC.2.1 rfl hi (by decide) (if_pos hi) ?_
    refine wX0_copyFrom_20 (hB.P hi).1 (mX3_copyFrom (by omega) (hB.P hi) (hC.P hi) fun h2 hP2 ho2 => ?_)
    refine wX0_copyFrom_23 ?_
    refine wX0_copyFrom_26 ?_
    refine q_ls (by rw [nI_1]) (ih _ ⟨(hB.sP hi hP2 ho2).ext (fun k _ => ?_) (fun _ _ => rfl) rfl rfl, hC.o ho2 (by omega), ho.trans (ho2.in (by omega) (by omega))⟩)
    simp only [b_sP, b_p]
    by_cases q1 : k = i
    · subst q1; simp
    · by_cases q2 : k < i
      · simp [q1, q2, show k < i + 1 by omega]
      · simp [q1, q2, show ¬ k < i + 1 by omega]
theorem mX0_endYear {a : Nat} {b : q_Bk} {m : Int32} {P : q_H → Option Nat → Prop} (hB : isB h a b) (hk : ∀ h', isB h' a (b_ey b m) → q_out a 60 h h' → P h' z) : QMv V iX0_endYear [.ref a, .int m] h z P Kx := by
  refine eX0_endYear ?_
  refine wX0_endYear_0 ?_
  refine wX0_endYear_1 ?_
  refine wX0_endYear_2 hB.1 ?_
  refine wX0_endYear_5 ?_
  refine wX0_endYear_6 ?_
  refine wX0_endYear_7 hB.1 ?_
  refine wX0_endYear_10 ?_
  refine wX0_endYear_11 ?_
  refine q_for (P := fun i => ∀ hh, (isB hh a (fun k => if k < i then pl_end (b_p b k) (b_w b + 1) else b_p b k, b_t b, b_o b, b_w b + 1) ∧ q_out a 60 h hh) → QW V iX0_endYear 12 [some (.ref a), some (.int m), some (.int (nI i))] [] hh z 0 0 (q_Kv P) Kx) 24 ?_ ?_ _ ⟨hB.sW.ext (fun k _ => by simp [b_p, b_sW]) (fun _ _ => rfl) rfl rfl, q_out.up (by omega) (by omega)⟩
  · rintro hh ⟨hB, ho⟩
    refine wX0_endYear_12 ?_
    refine wX0_endYear_13 ?_
    refine wX0_endYear_15 (fun c15 => ?_) (fun c15 => absurd (by decide) c15)
    refine wX0_endYear_37 ?_
    refine wX0_endYear_38 ?_
    refine wX0_endYear_39 hB.1 (mX0_refillMidLevel hB fun h2 hB2 ho2 => ?_)
    refine wX0_endYear_42  ?_
    exact hk _ (hB2.ext (fun k hk => by simp [b_ref, b_p, b_ey, hk]) (fun _ _ => rfl) rfl rfl) (ho.trans ho2)
  · rintro i hi ih hh ⟨hB, ho⟩
    refine wX0_endYear_12 ?_
    refine wX0_endYear_13 ?_
    refine wX0_endYear_15 (fun c15 => absurd c15 (nI_ge (b := 24) hi (by decide))) (fun c15 => ?_)
    refine wX0_endYear_18 ?_
    refine wX0_endYear_19 hB.1 ?_
    refine wX0_endYear_22 ?_
    refine wX0_endYear_23 (t := 4) rfl hB.2.1 rfl hi (by decide) (if_pos hi) ?_
    refine wX0_endYear_24 ?_
    refine wX0_endYear_25 hB.1 ?_
    refine wX0_endYear_28 (hB.P hi).1 (mX3_endYear (hB.P hi) fun h2 hP2 ho2 => ?_)
    refine wX0_endYear_31 ?_
    refine wX0_endYear_34 ?_
    refine q_ls (by rw [nI_1]) (ih _ ⟨(hB.sP hi hP2 ho2).ext (fun k _ => ?_) (fun _ _ => rfl) rfl rfl, ho.trans (ho2.in (by omega) (by omega))⟩)
    simp only [b_sP, b_p, b_w]
    by_cases q1 : k = i
    · subst q1; simp
    · by_cases q2 : k < i
      · simp [q1, q2, show k < i + 1 by omega]
      · simp [q1, q2, show ¬ k < i + 1 by omega]
theorem mX0_dismiss {a k j : Nat} {b : q_Bk} {st : Int32} {P : Int32 → q_H → Option Nat → Prop} (hB : isB h a b) (hk24 : k < 24) (hc : pl_has (b_p b k) = true) (hj : j < 4) (ht : p_t (b_p b k) = nI j) (hk : ∀ h', isB h' a (b_dis b k j st) → q_out a 60 h h' → P (b_dsum b k st) h' z) : QMi V iX0_dismiss [.ref a, .int (nI k), .int st] h z P Kx := by
  refine eX0_dismiss ?_
  refine wX0_dismiss_0 ?_
  refine wX0_dismiss_1 hB.1 ?_
  refine wX0_dismiss_4 ?_
  refine wX0_dismiss_5 (t := 4) rfl hB.2.1 rfl hk24 (by decide) (if_pos hk24) ?_
  refine wX0_dismiss_6 ?_
  refine wX0_dismiss_7 ?_
  refine wX0_dismiss_8 (hB.P hk24).1 (mX3_hasContract (hB.P hk24) ?_)
  refine wX0_dismiss_11 (fun c11 => ?_) (fun c11 => absurd (q_b0 c11) (by rw [hc]; decide))
  refine wX0_dismiss_16 ?_
  refine wX0_dismiss_17 ?_
  refine wX0_dismiss_19 ?_
  refine wX0_dismiss_20 ?_
  refine q_for (P := fun i => ∀ hh, (isB hh a (b_sT b j (t_dis (b_t b j) (b_p b k) (b_w b) st i)) ∧ q_out a 60 h hh) → QW V iX0_dismiss 22 [some (.ref a), some (.int (nI k)), some (.int st), some (.ref (a + 4 + 2 * k)), some (.int (q_ac 0 (fun i => pl_rc (b_p b k) (b_w b) st (nI i)) i)), some (.int (nI i)), none] [] hh z 0 0 (q_Ki P) Kx) 12 ?_ ?_ h ⟨hB.ext (fun _ _ => rfl) (fun q _ => by simp only [b_sT, b_t, t_dis]; split <;> simp [*]) rfl rfl, q_out.refl⟩
  · rintro hh ⟨hB, ho⟩
    refine wX0_dismiss_22 ?_
    refine wX0_dismiss_24 ?_
    refine wX0_dismiss_26 (fun c26 => ?_) (fun c26 => absurd (by decide) c26)
    refine wX0_dismiss_76 ?_
    refine wX0_dismiss_77 (hB.P hk24).1 (mX3_becomeUnknown (hB.P hk24) fun h2 hP2 ho2 => ?_)
    refine wX0_dismiss_80 ?_
    refine wX0_dismiss_82  ?_
    exact hk _ (hB.sP hk24 hP2 ho2) (ho.trans (ho2.in (by omega) (by omega)))
  · rintro i hi ih hh ⟨hB, ho⟩
    have ht2 : p_t (b_p b k) = nI j := ht
    refine wX0_dismiss_22 ?_
    refine wX0_dismiss_24 ?_
    refine wX0_dismiss_26 (fun c26 => absurd c26 (by rw [Int32.not_lt]; exact nI_le (b := 11) (by omega) (by decide))) (fun c26 => ?_)
    refine wX0_dismiss_29 ?_
    refine wX0_dismiss_30 ?_
    refine wX0_dismiss_31 hB.1 ?_
    refine wX0_dismiss_34 ?_
    refine wX0_dismiss_35 ?_
    refine wX0_dismiss_37 (hB.P hk24).1 (mX3_releaseCostAhead (hB.P hk24) ?_)
    refine wX0_dismiss_40 ?_
    refine wX0_dismiss_42 ?_
    refine wX0_dismiss_43 hB.1 ?_
    refine wX0_dismiss_46 ?_
    refine wX0_dismiss_47 (hB.P hk24).1 ?_
    refine wX0_dismiss_50 (t := 5) rfl hB.2.2.1 ht2 hj (by decide) (if_pos hj) ?_
    refine wX0_dismiss_51 ?_
    refine wX0_dismiss_52 hB.1 ?_
    refine wX0_dismiss_55 ?_
    refine wX0_dismiss_57 ?_
    refine wX0_dismiss_58 ?_
    refine wX0_dismiss_60 (hB.T hj).1 (mX6_addDead (hB.T hj) fun h2 hT2 ho2 => ?_)
    refine wX0_dismiss_63 ?_
    refine wX0_dismiss_65 ?_
    refine wX0_dismiss_67 ?_
    refine wX0_dismiss_68 ?_
    refine wX0_dismiss_70 ?_
    refine wX0_dismiss_73 ?_
    refine q_drp 6 (q_ls (by rw [nI_1]; rfl) (ih _ ⟨(hB.sT hj hT2 ho2).ext (fun _ _ => rfl) (fun q _ => ?_) rfl rfl, ho.trans (ho2.in (by omega) (by omega))⟩))
    simp only [b_sT, b_t, b_w, b_p, t_dis]
    by_cases q1 : q = j
    · subst q1; simp
    · simp [q1]
theorem mX0_move {a f : Nat} {b : q_Bk} {s t : Int32} {P : q_H → Option Nat → Prop} (hB : isB h a b) (hf : f < 4) (hk : ∀ h', isB h' a (b_mv b s f t 24) → q_out a 60 h h' → P h' z) : QMv V iX0_move [.ref a, .int s, .int (nI f), .int t] h z P Kx := by
  refine eX0_move ?_
  refine wX0_move_0 ?_
  refine wX0_move_1 ?_
  refine q_for (P := fun i => ∀ hh, (isB hh a (b_mv b s f t i) ∧ q_out a 60 h hh) → QW V iX0_move 3 [some (.ref a), some (.int s), some (.int (nI f)), some (.int t), some (.int (nI i))] [] hh z 0 0 (q_Kv P) Kx) 24 ?_ ?_ h ⟨hB, q_out.refl⟩
  · rintro hh ⟨hB, ho⟩
    refine wX0_move_3 ?_
    refine wX0_move_5 ?_
    refine wX0_move_7 (fun c7 => ?_) (fun c7 => absurd (by decide) c7)
    refine wX0_move_89  ?_
    exact hk _ hB ho
  · rintro i hi ih hh ⟨hB, ho⟩
    refine wX0_move_3 ?_
    refine wX0_move_5 ?_
    refine wX0_move_7 (fun c7 => absurd c7 (nI_ge (b := 24) hi (by decide))) (fun c7 => ?_)
    refine wX0_move_10 ?_
    refine wX0_move_11 ?_
    refine wX0_move_13 ?_
    refine wX0_move_14 ?_
    refine wX0_move_15 ?_
    refine wX0_move_16 ?_
    refine wX0_move_17 (fun c17 => ?_) (fun c17 => ?_)
    · refine wX0_move_83 ?_
      refine wX0_move_86 ?_
      first
        | exact q_ls (by rw [nI_1]) (ih _ ⟨by rw [b_mv, if_neg (by simp [q_bit, c17])]; exact hB, ho⟩)
        | (refine q_ls (by rw [nI_1]) (ih _ ⟨?_, (ho.trans (ho2.in (by omega) (by omega))).trans ((q_out.up (by omega) (by omega)).trans (q_out.up (by omega) (by omega)))⟩)
           rw [b_mv, if_pos (by simp [q_bit, c17])]
           have := hB2.sP hi (p := pl_mv (b_p (b_mv b s f t i) i) t) (h' := _) ⟨q_up_s, by rw [q_up_n (by omega)]; exact q_up_s⟩ ((q_out.up (by omega) (by omega)).trans (q_out.up (by omega) (by omega)))
           rw [b_mv_w] at this
           exact this)
    · refine wX0_move_20 ?_
      refine wX0_move_21 hB.1 ?_
      refine wX0_move_24 ?_
      refine wX0_move_25 (t := 5) rfl hB.2.2.1 rfl hf (by decide) (if_pos hf) ?_
      refine wX0_move_26 ?_
      refine wX0_move_27 hB.1 ?_
      refine wX0_move_30 ?_
      refine wX0_move_31 hB.1 ?_
      refine wX0_move_34 ?_
      refine wX0_move_36 (t := 4) rfl hB.2.1 rfl hi (by decide) (if_pos hi) ?_
      refine wX0_move_37 ?_
      refine wX0_move_38 hB.1 ?_
      refine wX0_move_41 (hB.P hi).1 (mX3_sharesLeft (hB.P hi) ?_)
      refine wX0_move_44 (hB.T hf).1 (mX6_addDead (hB.T hf) fun h2 hT2 ho2 => ?_)
      have hB2 := hB.sT hf hT2 ho2
      refine wX0_move_47 ?_
      refine wX0_move_48 hB2.1 ?_
      refine wX0_move_51 ?_
      refine wX0_move_53 (t := 4) rfl hB2.2.1 rfl hi (by decide) (if_pos hi) ?_
      refine wX0_move_54 (hB2.P hi).1 ?_
      refine wX0_move_57 ?_
      refine wX0_move_58 (hB2.P hi).2 ?_
      refine wX0_move_61 ?_
      refine wX0_move_62 (by rw [q_up_n (by omega)]; exact hB2.1) ?_
      refine wX0_move_65 ?_
      refine wX0_move_67 (t := 4) rfl (by rw [q_up_n (by omega)]; exact hB2.2.1) rfl hi (by decide) (if_pos hi) ?_
      refine wX0_move_68 ?_
      refine wX0_move_69 (by rw [q_up_n (by omega)]; exact (hB2.P hi).1) ?_
      refine wX0_move_72 ?_
      refine wX0_move_73 (by rw [q_up_n (by omega), q_up_n (by omega)]; exact hB2.1) ?_
      refine wX0_move_76 ?_
      refine wX0_move_78 (t := 4) rfl (by rw [q_up_n (by omega), q_up_n (by omega)]; exact hB2.2.1) rfl hi (by decide) (if_pos hi) ?_
      refine wX0_move_79 ?_
      refine wX0_move_80u ?_
      refine wX0_move_83 ?_
      refine wX0_move_86 ?_
      first
        | exact q_ls (by rw [nI_1]) (ih _ ⟨by rw [b_mv, if_neg (by simp [q_bit, c17])]; exact hB, ho⟩)
        | (refine q_ls (by rw [nI_1]) (ih _ ⟨?_, (ho.trans (ho2.in (by omega) (by omega))).trans ((q_out.up (by omega) (by omega)).trans (q_out.up (by omega) (by omega)))⟩)
           rw [b_mv, if_pos (by simp [q_bit, c17])]
           have := hB2.sP hi (p := pl_mv (b_p (b_mv b s f t i) i) t) (h' := _) ⟨q_up_s, by rw [q_up_n (by omega)]; exact q_up_s⟩ ((q_out.up (by omega) (by omega)).trans (q_out.up (by omega) (by omega)))
           rw [b_mv_w] at this
           exact this)
end CX0
