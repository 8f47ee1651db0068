/-! SalaryCapLedger$Player -/
section CX3
variable {V : q_En} {h : q_H} {z : Option Nat} {Kx : q_KX}
abbrev q_Pl : Type := Int32 × Int32 × Int32 × Int32 × q_Dl
def p_t (p : q_Pl) : Int32 := p.1
def p_l (p : q_Pl) : Int32 := p.2.1
def p_n (p : q_Pl) : Int32 := p.2.2.1
def p_s (p : q_Pl) : Int32 := p.2.2.2.1
def p_d (p : q_Pl) : q_Dl := p.2.2.2.2
abbrev playE (a : Nat) (p : q_Pl) : q_E := .inr (4, [.int (p_t p), .int (p_l p), .int (p_n p), .int (p_s p), .ref (a + 1)])
def isP (h : q_H) (a : Nat) (p : q_Pl) : Prop := h a = some (playE a p) ∧ h (a + 1) = some (dealE (p_d p))
theorem isP.o {a b m : Nat} {p : q_Pl} {h' : q_H} (hP : isP h a p) (ho : q_out b m h h') (ne : a + 2 ≤ b ∨ b + m ≤ a) : isP h' a p := ⟨by rw [ho a (by omega)]; exact hP.1, by rw [ho (a + 1) (by omega)]; exact hP.2⟩
theorem isT.o {a b m : Nat} {t : q_Tm} {h' : q_H} (hT : isT h a t) (ho : q_out b m h h') (ne : a + 2 ≤ b ∨ b + m ≤ a) : isT h' a t := ⟨by rw [ho a (by omega)]; exact hT.1, hT.2.imp fun f q => ⟨by rw [ho (a + 1) (by omega)]; exact q.1, q.2⟩⟩
def pl_has (p : q_Pl) : Bool := decide (¬ p_t p = -1)
def pl_no (p : q_Pl) : q_Pl := (-1, -1, 0, p.2.2.2)
def pl_begin (p : q_Pl) (t now : Int32) (d : q_Dl) : q_Pl := (t, t, if p_l p = t then p_n p else 0, now, d)
def pl_end (p : q_Pl) (nx : Int32) : q_Pl := if pl_has p then (if nx - p_s p < d_n (p_d p) then p_t p else -1, p_l p, p_n p + 1, p_s p, p_d p) else p
def pl_sal (p : q_Pl) (x : Int32) : Int32 := if pl_has p then d_sal (p_d p) (x - p_s p) else 0
def pl_shr (p : q_Pl) (x : Int32) : Int32 := if pl_has p then d_shr (p_d p) (x - p_s p) else 0
def pl_cost (p : q_Pl) (x : Int32) : Int32 := if pl_has p then d_sal (p_d p) (x - p_s p) + d_shr (p_d p) (x - p_s p) else 0
def pl_sl (p : q_Pl) (x : Int32) : Int32 := if pl_has p then d_sf (p_d p) (x - p_s p) else 0
def pl_rc (p : q_Pl) (x st ah : Int32) : Int32 := (if ah = 0 then d_sf (p_d p) (x - p_s p) else 0) + (if st = 0 then d_gp (p_d p) (x - p_s p) ah else d_str (p_d p) (x - p_s p) ah)
def pl_wc (p : q_Pl) (x : Int32) : Int32 := d_sf (p_d p) (x - p_s p) + d_gf (p_d p) (x - p_s p)
def pl_gn (p : q_Pl) (x st : Int32) : Int32 := pl_cost p x - pl_rc p x st 0
theorem mX3_init {a : Nat} {P : q_H → Option Nat → Prop} (ha : h a = some (.inr (4, [.int 0, .int 0, .int 0, .int 0, .null]))) (hk : ∀ h', isP h' a (-1, -1, 0, 0, 1, 0, 1, 0, 0) → q_out a 2 h h' → P h' (some (a + 2))) : QMv V iX3_init [.ref a] h (some (a + 1)) P Kx := by
  refine eX3_init ?_
  refine wX3_init_0 ?_
  refine wX3_init_1 ?_
  refine wX3_init_4 ?_
  refine wX3_init_5 ?_
  refine wX3_init_6 ha ?_
  refine wX3_init_9 ?_
  refine wX3_init_10 ?_
  refine wX3_init_11u ?_
  refine wX3_init_14 ?_
  refine wX3_init_15 ?_
  refine wX3_init_16u ?_
  refine wX3_init_19 ?_
  refine wX3_init_20 ?_
  refine wX3_init_21u ?_
  refine wX3_init_24 ?_
  refine wX3_init_25 ?_
  refine wX3_init_28 ?_
  refine wX3_init_29 (mX1_init q_up_s ?_)
  refine wX3_init_32 (by rw [q_up_n (by omega), q_up_n (by omega)]; exact q_up_s) ?_
  refine wX3_init_35  ?_
  exact hk _ ⟨q_up_s, by rw [q_up_n (by omega)]; exact q_up_s⟩ (fun q hq => by rw [q_up_n (by omega), q_up_n (by omega), q_up_n (by omega), q_up_n (by omega)])
theorem mX3_hasContract {a : Nat} {p : q_Pl} {P : Int32 → q_H → Option Nat → Prop} (hp : isP h a p) (hk : P (q_b (pl_has p)) h z) : QMi V iX3_hasContract [.ref a] h z P Kx := by
  refine eX3_hasContract ?_
  refine wX3_hasContract_0 ?_
  refine wX3_hasContract_1 hp.1 ?_
  refine wX3_hasContract_4 ?_
  refine wX3_hasContract_5 (fun c5 => ?_) (fun c5 => ?_)
  · refine wX3_hasContract_12 ?_
    refine wX3_hasContract_13  ?_
    exact q_cv (by simp [pl_has, q_b, *]) hk
  · refine wX3_hasContract_8 ?_
    refine wX3_hasContract_9 ?_
    refine wX3_hasContract_13  ?_
    exact q_cv (by simp [pl_has, q_b, *]) hk
theorem mX3_becomeUnknown {a : Nat} {p : q_Pl} {P : q_H → Option Nat → Prop} (hp : isP h a p) (hk : ∀ h', isP h' a (pl_no p) → q_out a 2 h h' → P h' z) : QMv V iX3_becomeUnknown [.ref a] h z P Kx := by
  refine eX3_becomeUnknown ?_
  refine wX3_becomeUnknown_0 ?_
  refine wX3_becomeUnknown_1 ?_
  refine wX3_becomeUnknown_2 hp.1 ?_
  refine wX3_becomeUnknown_5 ?_
  refine wX3_becomeUnknown_6 ?_
  refine wX3_becomeUnknown_7u ?_
  refine wX3_becomeUnknown_10 ?_
  refine wX3_becomeUnknown_11 ?_
  refine wX3_becomeUnknown_12u ?_
  refine wX3_becomeUnknown_15  ?_
  exact hk _ ⟨q_up_s, by rw [q_up_n (by omega)]; exact hp.2⟩ (q_out.up (by omega) (by omega))
theorem mX3_copyFrom {a b : Nat} {p q : q_Pl} {P : q_H → Option Nat → Prop} (hab : a + 2 ≤ b ∨ b + 2 ≤ a) (hp : isP h a p) (hq : isP h b q) (hk : ∀ h', isP h' a q → q_out a 2 h h' → P h' z) : QMv V iX3_copyFrom [.ref a, .ref b] h z P Kx := by
  refine eX3_copyFrom ?_
  refine wX3_copyFrom_0 ?_
  refine wX3_copyFrom_1 ?_
  refine wX3_copyFrom_2 hq.1 ?_
  refine wX3_copyFrom_5 hp.1 ?_
  refine wX3_copyFrom_8 ?_
  refine wX3_copyFrom_9 ?_
  refine wX3_copyFrom_10 (by rw [q_up_n (by omega)]; exact hq.1) ?_
  refine wX3_copyFrom_13u ?_
  refine wX3_copyFrom_16 ?_
  refine wX3_copyFrom_17 ?_
  refine wX3_copyFrom_18 (by rw [q_up_n (by omega)]; exact hq.1) ?_
  refine wX3_copyFrom_21u ?_
  refine wX3_copyFrom_24 ?_
  refine wX3_copyFrom_25 ?_
  refine wX3_copyFrom_26 (by rw [q_up_n (by omega)]; exact hq.1) ?_
  refine wX3_copyFrom_29u ?_
  refine wX3_copyFrom_32 ?_
  refine wX3_copyFrom_33u ?_
  refine wX3_copyFrom_36 ?_
  refine wX3_copyFrom_37 (by rw [q_up_n (by omega)]; exact hq.1) ?_
  refine wX3_copyFrom_40 (by rw [q_up_n (by omega)]; exact hp.2) (mX1_copyFrom (by rw [q_up_n (by omega)]; exact hp.2) (by rw [q_up_n (by omega)]; exact hq.2) ?_)
  refine wX3_copyFrom_43  ?_
  exact hk _ ⟨by rw [q_up_n (by omega)]; exact q_up_s, q_up_s⟩ ((q_out.up (by omega) (by omega)).trans (q_out.up (by omega) (by omega)))
theorem mX3_begin {a b : Nat} {p : q_Pl} {d : q_Dl} {t now : Int32} {P : q_H → Option Nat → Prop} (hab : a + 2 ≤ b ∨ b + 1 ≤ a) (hp : isP h a p) (hd : h b = some (dealE d)) (hk : ∀ h', isP h' a (pl_begin p t now d) → q_out a 2 h h' → P h' z) : QMv V iX3_begin [.ref a, .int t, .int now, .ref b] h z P Kx := by
  refine eX3_begin ?_
  refine wX3_begin_0 ?_
  refine wX3_begin_1 hp.1 ?_
  refine wX3_begin_4 ?_
  refine wX3_begin_5 (fun c5 => ?_) (fun c5 => ?_)
  · refine wX3_begin_13 ?_
    refine wX3_begin_14 ?_
    refine wX3_begin_15 hp.1 ?_
    refine wX3_begin_18 ?_
    refine wX3_begin_19 ?_
    refine wX3_begin_20u ?_
    refine wX3_begin_23 ?_
    refine wX3_begin_24 ?_
    refine wX3_begin_25u ?_
    refine wX3_begin_28 ?_
    refine wX3_begin_29u ?_
    refine wX3_begin_32 ?_
    refine wX3_begin_33 (by rw [q_up_n (by omega)]; exact hp.2) (mX1_copyFrom (by rw [q_up_n (by omega)]; exact hp.2) (by rw [q_up_n (by omega)]; exact hd) ?_)
    refine wX3_begin_36  ?_
    exact hk _ ⟨by rw [q_up_n (by omega), pl_begin]; simp only [c5, if_true]; exact q_up_s, q_up_s⟩ ((q_out.up (by omega) (by omega)).trans (q_out.up (by omega) (by omega)))
  · refine wX3_begin_8 ?_
    refine wX3_begin_9 ?_
    refine wX3_begin_10 hp.1 ?_
    refine wX3_begin_13 ?_
    refine wX3_begin_14 ?_
    refine wX3_begin_15u ?_
    refine wX3_begin_18 ?_
    refine wX3_begin_19 ?_
    refine wX3_begin_20u ?_
    refine wX3_begin_23 ?_
    refine wX3_begin_24 ?_
    refine wX3_begin_25u ?_
    refine wX3_begin_28 ?_
    refine wX3_begin_29u ?_
    refine wX3_begin_32 ?_
    refine wX3_begin_33 (by rw [q_up_n (by omega)]; exact hp.2) (mX1_copyFrom (by rw [q_up_n (by omega)]; exact hp.2) (by rw [q_up_n (by omega)]; exact hd) ?_)
    refine wX3_begin_36  ?_
    exact hk _ ⟨by rw [q_up_n (by omega), pl_begin]; simp only [if_neg c5]; exact q_up_s, q_up_s⟩ ((q_out.up (by omega) (by omega)).trans (q_out.up (by omega) (by omega)))
theorem mX3_endYear {a : Nat} {p : q_Pl} {nx : Int32} {P : q_H → Option Nat → Prop} (hp : isP h a p) (hk : ∀ h', isP h' a (pl_end p nx) → q_out a 2 h h' → P h' z) : QMv V iX3_endYear [.ref a, .int nx] h z P Kx := by
  refine eX3_endYear ?_
  refine wX3_endYear_0 ?_
  refine wX3_endYear_1 hp.1 (mX3_hasContract hp ?_)
  refine wX3_endYear_4 (fun c4 => ?_) (fun c4 => ?_)
  · refine wX3_endYear_8 ?_
    refine wX3_endYear_9 ?_
    refine wX3_endYear_10 hp.1 ?_
    refine wX3_endYear_13 ?_
    refine wX3_endYear_14 ?_
    refine wX3_endYear_15 hp.1 ?_
    refine wX3_endYear_18 ?_
    refine wX3_endYear_19 ?_
    refine wX3_endYear_20u ?_
    refine wX3_endYear_23 ?_
    refine wX3_endYear_24 ?_
    refine wX3_endYear_25u ?_
    refine wX3_endYear_28 (by rw [q_up_n (by omega)]; exact hp.2) ?_
    refine wX3_endYear_31 (fun c31 => ?_) (fun c31 => ?_)
    · refine wX3_endYear_39  ?_
      first
        | exact hk _ ⟨by rw [pl_end, if_pos (q_b1 c4), if_pos c31]; exact q_up_s, by rw [q_up_n (by omega), pl_end, if_pos (q_b1 c4)]; exact hp.2⟩ (q_out.up (by omega) (by omega))
        | exact hk _ ⟨by rw [pl_end, if_pos (q_b1 c4), if_neg c31]; exact q_up_s, by rw [q_up_n (by omega), pl_end, if_pos (q_b1 c4)]; exact hp.2⟩ (q_out.up (by omega) (by omega))
    · refine wX3_endYear_34 ?_
      refine wX3_endYear_35 ?_
      refine wX3_endYear_36u ?_
      refine wX3_endYear_39  ?_
      first
        | exact hk _ ⟨by rw [pl_end, if_pos (q_b1 c4), if_pos c31]; exact q_up_s, by rw [q_up_n (by omega), pl_end, if_pos (q_b1 c4)]; exact hp.2⟩ (q_out.up (by omega) (by omega))
        | exact hk _ ⟨by rw [pl_end, if_pos (q_b1 c4), if_neg c31]; exact q_up_s, by rw [q_up_n (by omega), pl_end, if_pos (q_b1 c4)]; exact hp.2⟩ (q_out.up (by omega) (by omega))
  · refine wX3_endYear_7  ?_
    exact hk _ (by rw [pl_end, if_neg (by rw [q_b0 c4]; decide)]; exact hp) q_out.refl
theorem mX3_salaryIn {a : Nat} {p : q_Pl} {x : Int32} {P : Int32 → q_H → Option Nat → Prop} (hp : isP h a p) (hk : P (pl_sal p x) h z) : QMi V iX3_salaryIn [.ref a, .int x] h z P Kx := by
  refine eX3_salaryIn ?_
  refine wX3_salaryIn_0 ?_
  refine wX3_salaryIn_1 hp.1 (mX3_hasContract hp ?_)
  refine wX3_salaryIn_4 (fun c4 => ?_) (fun c4 => ?_)
  · refine wX3_salaryIn_23 ?_
    refine wX3_salaryIn_24  ?_
    first
      | exact q_cv (by rw [pl_sal, if_pos (q_b1 c4)]) hk
      | exact q_cv (by rw [pl_sal, if_neg (by rw [q_b0 c4]; decide)]) hk
  · refine wX3_salaryIn_7 ?_
    refine wX3_salaryIn_8 hp.1 ?_
    refine wX3_salaryIn_11 ?_
    refine wX3_salaryIn_12 ?_
    refine wX3_salaryIn_13 hp.1 ?_
    refine wX3_salaryIn_16 ?_
    refine wX3_salaryIn_17 hp.2 (mX1_salaryOf hp.2 ?_)
    refine wX3_salaryIn_20 ?_
    refine wX3_salaryIn_24  ?_
    first
      | exact q_cv (by rw [pl_sal, if_pos (q_b1 c4)]) hk
      | exact q_cv (by rw [pl_sal, if_neg (by rw [q_b0 c4]; decide)]) hk
theorem mX3_shareIn {a : Nat} {p : q_Pl} {x : Int32} {P : Int32 → q_H → Option Nat → Prop} (hp : isP h a p) (hk : P (pl_shr p x) h z) : QMi V iX3_shareIn [.ref a, .int x] h z P Kx := by
  refine eX3_shareIn ?_
  refine wX3_shareIn_0 ?_
  refine wX3_shareIn_1 hp.1 (mX3_hasContract hp ?_)
  refine wX3_shareIn_4 (fun c4 => ?_) (fun c4 => ?_)
  · refine wX3_shareIn_23 ?_
    refine wX3_shareIn_24  ?_
    first
      | exact q_cv (by rw [pl_shr, if_pos (q_b1 c4)]) hk
      | exact q_cv (by rw [pl_shr, if_neg (by rw [q_b0 c4]; decide)]) hk
  · refine wX3_shareIn_7 ?_
    refine wX3_shareIn_8 hp.1 ?_
    refine wX3_shareIn_11 ?_
    refine wX3_shareIn_12 ?_
    refine wX3_shareIn_13 hp.1 ?_
    refine wX3_shareIn_16 ?_
    refine wX3_shareIn_17 hp.2 (mX1_shareOf hp.2 ?_)
    refine wX3_shareIn_20 ?_
    refine wX3_shareIn_24  ?_
    first
      | exact q_cv (by rw [pl_shr, if_pos (q_b1 c4)]) hk
      | exact q_cv (by rw [pl_shr, if_neg (by rw [q_b0 c4]; decide)]) hk
theorem mX3_costIn {a : Nat} {p : q_Pl} {x : Int32} {P : Int32 → q_H → Option Nat → Prop} (hp : isP h a p) (hk : P (pl_cost p x) h z) : QMi V iX3_costIn [.ref a, .int x] h z P Kx := by
  refine eX3_costIn ?_
  refine wX3_costIn_0 ?_
  refine wX3_costIn_1 hp.1 (mX3_hasContract hp ?_)
  refine wX3_costIn_4 (fun c4 => ?_) (fun c4 => ?_)
  · refine wX3_costIn_37 ?_
    refine wX3_costIn_38  ?_
    first
      | exact q_cv (by rw [pl_cost, if_pos (q_b1 c4)]) hk
      | exact q_cv (by rw [pl_cost, if_neg (by rw [q_b0 c4]; decide)]) hk
  · refine wX3_costIn_7 ?_
    refine wX3_costIn_8 hp.1 ?_
    refine wX3_costIn_11 ?_
    refine wX3_costIn_12 ?_
    refine wX3_costIn_13 hp.1 ?_
    refine wX3_costIn_16 ?_
    refine wX3_costIn_17 hp.2 (mX1_salaryOf hp.2 ?_)
    refine wX3_costIn_20 ?_
    refine wX3_costIn_21 hp.1 ?_
    refine wX3_costIn_24 ?_
    refine wX3_costIn_25 ?_
    refine wX3_costIn_26 hp.1 ?_
    refine wX3_costIn_29 ?_
    refine wX3_costIn_30 hp.2 (mX1_shareOf hp.2 ?_)
    refine wX3_costIn_33 ?_
    refine wX3_costIn_34 ?_
    refine wX3_costIn_38  ?_
    first
      | exact q_cv (by rw [pl_cost, if_pos (q_b1 c4)]) hk
      | exact q_cv (by rw [pl_cost, if_neg (by rw [q_b0 c4]; decide)]) hk
theorem mX3_sharesLeft {a : Nat} {p : q_Pl} {x : Int32} {P : Int32 → q_H → Option Nat → Prop} (hp : isP h a p) (hk : P (pl_sl p x) h z) : QMi V iX3_sharesLeft [.ref a, .int x] h z P Kx := by
  refine eX3_sharesLeft ?_
  refine wX3_sharesLeft_0 ?_
  refine wX3_sharesLeft_1 hp.1 (mX3_hasContract hp ?_)
  refine wX3_sharesLeft_4 (fun c4 => ?_) (fun c4 => ?_)
  · refine wX3_sharesLeft_23 ?_
    refine wX3_sharesLeft_24  ?_
    first
      | exact q_cv (by rw [pl_sl, if_pos (q_b1 c4)]) hk
      | exact q_cv (by rw [pl_sl, if_neg (by rw [q_b0 c4]; decide)]) hk
  · refine wX3_sharesLeft_7 ?_
    refine wX3_sharesLeft_8 hp.1 ?_
    refine wX3_sharesLeft_11 ?_
    refine wX3_sharesLeft_12 ?_
    refine wX3_sharesLeft_13 hp.1 ?_
    refine wX3_sharesLeft_16 ?_
    refine wX3_sharesLeft_17 hp.2 (mX1_sharesFrom hp.2 ?_)
    refine wX3_sharesLeft_20 ?_
    refine wX3_sharesLeft_24  ?_
    first
      | exact q_cv (by rw [pl_sl, if_pos (q_b1 c4)]) hk
      | exact q_cv (by rw [pl_sl, if_neg (by rw [q_b0 c4]; decide)]) hk
theorem mX3_releaseCostAhead {a : Nat} {p : q_Pl} {x s t : Int32} {P : Int32 → q_H → Option Nat → Prop} (hp : isP h a p) (hk : P (pl_rc p x s t) h z) : QMi V iX3_releaseCostAhead [.ref a, .int x, .int s, .int t] h z P Kx := by
  refine eX3_releaseCostAhead ?_
  refine wX3_releaseCostAhead_0 ?_
  refine wX3_releaseCostAhead_1 ?_
  refine wX3_releaseCostAhead_2 hp.1 ?_
  refine wX3_releaseCostAhead_5 ?_
  refine wX3_releaseCostAhead_6 ?_
  refine wX3_releaseCostAhead_8 ?_
  refine wX3_releaseCostAhead_9 (fun c9 => ?_) (fun c9 => ?_)
  · refine wX3_releaseCostAhead_24 ?_
    refine wX3_releaseCostAhead_25 ?_
    refine wX3_releaseCostAhead_27 ?_
    refine wX3_releaseCostAhead_29 ?_
    refine wX3_releaseCostAhead_30 (fun c30 => ?_) (fun c30 => ?_)
    · refine wX3_releaseCostAhead_46 ?_
      refine wX3_releaseCostAhead_47 hp.1 ?_
      refine wX3_releaseCostAhead_50 ?_
      refine wX3_releaseCostAhead_52 ?_
      refine wX3_releaseCostAhead_53 hp.2 (mX1_guaranteedPart hp.2 ?_)
      refine wX3_releaseCostAhead_56 ?_
      refine wX3_releaseCostAhead_57  ?_
      exact q_cv (by simp [pl_rc, *]) hk
    · refine wX3_releaseCostAhead_33 ?_
      refine wX3_releaseCostAhead_34 hp.1 ?_
      refine wX3_releaseCostAhead_37 ?_
      refine wX3_releaseCostAhead_39 ?_
      refine wX3_releaseCostAhead_40 hp.2 (mX1_stretchedPart hp.2 ?_)
      refine wX3_releaseCostAhead_43 ?_
      refine wX3_releaseCostAhead_56 ?_
      refine wX3_releaseCostAhead_57  ?_
      exact q_cv (by simp [pl_rc, *]) hk
  · refine wX3_releaseCostAhead_12 ?_
    refine wX3_releaseCostAhead_13 hp.1 ?_
    refine wX3_releaseCostAhead_16 ?_
    refine wX3_releaseCostAhead_18 hp.2 (mX1_sharesFrom hp.2 ?_)
    refine wX3_releaseCostAhead_21 ?_
    refine wX3_releaseCostAhead_25 ?_
    refine wX3_releaseCostAhead_27 ?_
    refine wX3_releaseCostAhead_29 ?_
    refine wX3_releaseCostAhead_30 (fun c30 => ?_) (fun c30 => ?_)
    · refine wX3_releaseCostAhead_46 ?_
      refine wX3_releaseCostAhead_47 hp.1 ?_
      refine wX3_releaseCostAhead_50 ?_
      refine wX3_releaseCostAhead_52 ?_
      refine wX3_releaseCostAhead_53 hp.2 (mX1_guaranteedPart hp.2 ?_)
      refine wX3_releaseCostAhead_56 ?_
      refine wX3_releaseCostAhead_57  ?_
      exact q_cv (by simp [pl_rc, *]) hk
    · refine wX3_releaseCostAhead_33 ?_
      refine wX3_releaseCostAhead_34 hp.1 ?_
      refine wX3_releaseCostAhead_37 ?_
      refine wX3_releaseCostAhead_39 ?_
      refine wX3_releaseCostAhead_40 hp.2 (mX1_stretchedPart hp.2 ?_)
      refine wX3_releaseCostAhead_43 ?_
      refine wX3_releaseCostAhead_56 ?_
      refine wX3_releaseCostAhead_57  ?_
      exact q_cv (by simp [pl_rc, *]) hk
theorem mX3_wholeReleaseCost {a : Nat} {p : q_Pl} {x : Int32} {P : Int32 → q_H → Option Nat → Prop} (hp : isP h a p) (hk : P (pl_wc p x) h z) : QMi V iX3_wholeReleaseCost [.ref a, .int x] h z P Kx := by
  refine eX3_wholeReleaseCost ?_
  refine wX3_wholeReleaseCost_0 ?_
  refine wX3_wholeReleaseCost_1 hp.1 ?_
  refine wX3_wholeReleaseCost_4 ?_
  refine wX3_wholeReleaseCost_5 ?_
  refine wX3_wholeReleaseCost_6 hp.1 ?_
  refine wX3_wholeReleaseCost_9 ?_
  refine wX3_wholeReleaseCost_10 hp.2 (mX1_sharesFrom hp.2 ?_)
  refine wX3_wholeReleaseCost_13 ?_
  refine wX3_wholeReleaseCost_14 hp.1 ?_
  refine wX3_wholeReleaseCost_17 ?_
  refine wX3_wholeReleaseCost_18 ?_
  refine wX3_wholeReleaseCost_19 hp.1 ?_
  refine wX3_wholeReleaseCost_22 ?_
  refine wX3_wholeReleaseCost_23 hp.2 (mX1_guaranteedFrom hp.2 ?_)
  refine wX3_wholeReleaseCost_26 ?_
  refine wX3_wholeReleaseCost_27  ?_
  exact hk
theorem mX3_gainIfReleased {a : Nat} {p : q_Pl} {x s : Int32} {P : Int32 → q_H → Option Nat → Prop} (hp : isP h a p) (hk : P (pl_gn p x s) h z) : QMi V iX3_gainIfReleased [.ref a, .int x, .int s] h z P Kx := by
  refine eX3_gainIfReleased ?_
  refine wX3_gainIfReleased_0 ?_
  refine wX3_gainIfReleased_1 ?_
  refine wX3_gainIfReleased_2 hp.1 (mX3_costIn hp ?_)
  refine wX3_gainIfReleased_5 ?_
  refine wX3_gainIfReleased_6 ?_
  refine wX3_gainIfReleased_7 ?_
  refine wX3_gainIfReleased_8 ?_
  refine wX3_gainIfReleased_9 hp.1 (mX3_releaseCostAhead hp ?_)
  refine wX3_gainIfReleased_12 ?_
  refine wX3_gainIfReleased_13  ?_
  exact hk
end CX3
