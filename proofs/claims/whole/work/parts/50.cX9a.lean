/-! SalaryCapLedgerModel (the reference): its picture, its static methods, readers of its row -/
section CX9a
variable {V : q_En} {h : q_H} {z : Option Nat} {Kx : q_KX}
/-- scalars by field, long rows and int rows by their place behind the object -/
abbrev q_Mo : Type := (Nat → Int32) × (Nat → Nat → Int64) × (Nat → Nat → Int32)
def mlen : Nat → Nat
  | 1 => 386 | 2 => 3860 | 3 => 4 | 4 => 4 | 5 => 900 | 6 => 7 | 7 => 8 | 8 => 216 | 9 => 386 | 10 => 12 | 11 => 24 | 12 => 24 | _ => 0
def isM (h : q_H) (a : Nat) (M : q_Mo) : Prop := h a = some (.inr (10, q_MF a M.1)) ∧ (∀ k, (k = 1 ∨ k = 2 ∨ k = 9) → h (a + k) = some (.inl (2, mlen k, .inr (.inl (M.2.1 k))))) ∧ ∀ k, (3 ≤ k ∧ k ≤ 12 ∧ k ≠ 9) → h (a + k) = some (.inl (1, mlen k, .inl (M.2.2 k)))
abbrev mS (M : q_Mo) (k : Nat) (v : Int32) : q_Mo := (upd M.1 k v, M.2)
abbrev mLr (M : q_Mo) (k : Nat) (f : Nat → Int64) : q_Mo := (M.1, fun q => if q = k then f else M.2.1 q, M.2.2)
abbrev mIr (M : q_Mo) (k : Nat) (f : Nat → Int32) : q_Mo := (M.1, M.2.1, fun q => if q = k then f else M.2.2 q)
abbrev mL (M : q_Mo) (k i : Nat) (v : Int64) : q_Mo := mLr M k (vp_updL (M.2.1 k) i v)
abbrev mI (M : q_Mo) (k i : Nat) (v : Int32) : q_Mo := mIr M k (upd (M.2.2 k) i v)
theorem isM.c {a : Nat} {M : q_Mo} (hM : isM h a M) : h a = some (.inr (10, q_MF a M.1)) := hM.1
theorem isM.e {a : Nat} {M M' : q_Mo} (hM : isM h a M) (e : M = M') : isM h a M' := e ▸ hM
theorem isM.a1 {a : Nat} {M : q_Mo} (hM : isM h a M) : h (a + 1) = some (.inl (2, 386, .inr (.inl (M.2.1 1)))) := hM.2.1 1 (by decide)
theorem isM.a2 {a : Nat} {M : q_Mo} (hM : isM h a M) : h (a + 2) = some (.inl (2, 3860, .inr (.inl (M.2.1 2)))) := hM.2.1 2 (by decide)
theorem isM.a9 {a : Nat} {M : q_Mo} (hM : isM h a M) : h (a + 9) = some (.inl (2, 386, .inr (.inl (M.2.1 9)))) := hM.2.1 9 (by decide)
theorem isM.a3 {a : Nat} {M : q_Mo} (hM : isM h a M) : h (a + 3) = some (.inl (1, 4, .inl (M.2.2 3))) := hM.2.2 3 (by decide)
theorem isM.a4 {a : Nat} {M : q_Mo} (hM : isM h a M) : h (a + 4) = some (.inl (1, 4, .inl (M.2.2 4))) := hM.2.2 4 (by decide)
theorem isM.a5 {a : Nat} {M : q_Mo} (hM : isM h a M) : h (a + 5) = some (.inl (1, 900, .inl (M.2.2 5))) := hM.2.2 5 (by decide)
theorem isM.a6 {a : Nat} {M : q_Mo} (hM : isM h a M) : h (a + 6) = some (.inl (1, 7, .inl (M.2.2 6))) := hM.2.2 6 (by decide)
theorem isM.a7 {a : Nat} {M : q_Mo} (hM : isM h a M) : h (a + 7) = some (.inl (1, 8, .inl (M.2.2 7))) := hM.2.2 7 (by decide)
theorem isM.a8 {a : Nat} {M : q_Mo} (hM : isM h a M) : h (a + 8) = some (.inl (1, 216, .inl (M.2.2 8))) := hM.2.2 8 (by decide)
theorem isM.a10 {a : Nat} {M : q_Mo} (hM : isM h a M) : h (a + 10) = some (.inl (1, 12, .inl (M.2.2 10))) := hM.2.2 10 (by decide)
theorem isM.a11 {a : Nat} {M : q_Mo} (hM : isM h a M) : h (a + 11) = some (.inl (1, 24, .inl (M.2.2 11))) := hM.2.2 11 (by decide)
theorem isM.a12 {a : Nat} {M : q_Mo} (hM : isM h a M) : h (a + 12) = some (.inl (1, 24, .inl (M.2.2 12))) := hM.2.2 12 (by decide)
theorem isM.s {a k : Nat} {v : Int32} {M : q_Mo} (hM : isM h a M) : isM (q_up h a (.inr (10, q_MF a (upd M.1 k v)))) a (mS M k v) :=
  ⟨q_up_s, fun j hj => by rw [q_up_n (by omega)]; exact hM.2.1 j hj, fun j hj => by rw [q_up_n (by omega)]; exact hM.2.2 j hj⟩
theorem isM.l {a k n : Nat} {f : Nat → Int64} {M : q_Mo} (hM : isM h a M) (hk : (k = 1 ∨ k = 2 ∨ k = 9) ∧ mlen k = n) : isM (q_up h (a + k) (.inl (2, n, .inr (.inl f)))) a (mLr M k f) := by
  obtain ⟨hk, rfl⟩ := hk
  refine ⟨by rw [q_up_n (by omega)]; exact hM.1, fun j hj => ?_, fun j hj => by rw [q_up_n (by omega)]; exact hM.2.2 j hj⟩
  by_cases q : j = k
  · subst q; rw [q_up_s]; rw [show (mLr M j f).2.1 j = f from if_pos rfl]
  · rw [q_up_n (by omega), hM.2.1 j hj]; rw [show (mLr M k f).2.1 j = M.2.1 j from if_neg q]
theorem isM.i {a k n : Nat} {f : Nat → Int32} {M : q_Mo} (hM : isM h a M) (hk : (3 ≤ k ∧ k ≤ 12 ∧ k ≠ 9) ∧ mlen k = n) : isM (q_up h (a + k) (.inl (1, n, .inl f))) a (mIr M k f) := by
  obtain ⟨hk, rfl⟩ := hk
  refine ⟨by rw [q_up_n (by omega)]; exact hM.1, fun j hj => by rw [q_up_n (by omega)]; exact hM.2.1 j hj, fun j hj => ?_⟩
  by_cases q : j = k
  · subst q; rw [q_up_s]; rw [show (mIr M j f).2.2 j = f from if_pos rfl]
  · rw [q_up_n (by omega), hM.2.2 j hj]; rw [show (mIr M k f).2.2 j = M.2.2 j from if_neg q]
theorem isM.o {a b m : Nat} {M : q_Mo} {h' : q_H} (hM : isM h a M) (ho : q_out b m h h') (ne : a + 13 ≤ b ∨ b + m ≤ a) : isM h' a M :=
  ⟨by rw [ho a (by omega)]; exact hM.1, fun k hk => by rw [ho _ (by omega)]; exact hM.2.1 k hk, fun k hk => by rw [ho _ (by omega)]; exact hM.2.2 k hk⟩
section
variable {y : q_I} {pc : Nat} {ls : List (Option Value)} {st : List Value} {bc bs : Nat} {Kr : q_KR} {a k : Nat} {M : q_Mo} {h0 : q_H}
theorem q_sx {v : Int32} (hM : isM h a M) (ho : q_out a 13 h0 h) (kk : ∀ h', isM h' a (mS M k v) → q_out a 13 h0 h' → QW V y pc ls st h' z bc bs Kr Kx) : QW V y pc ls st (q_up h a (.inr (10, q_MF a (upd M.1 k v)))) z bc bs Kr Kx :=
  kk _ hM.s (ho.trans (q_out.up (by omega) (by omega)))
theorem q_nL {n : Nat} {f : Nat → Int64} (hk : (k = 1 ∨ k = 2 ∨ k = 9) ∧ mlen k = n) (hM : isM h a M) (ho : q_out a 13 h0 h) (kk : ∀ h', isM h' a (mLr M k f) → q_out a 13 h0 h' → QW V y pc ls st h' z bc bs Kr Kx) : QW V y pc ls st (q_up h (a + k) (.inl (2, n, .inr (.inl f)))) z bc bs Kr Kx :=
  kk _ (hM.l hk) (ho.trans (q_out.up (by omega) (by omega)))
theorem q_nI {n : Nat} {f : Nat → Int32} (hk : (3 ≤ k ∧ k ≤ 12 ∧ k ≠ 9) ∧ mlen k = n) (hM : isM h a M) (ho : q_out a 13 h0 h) (kk : ∀ h', isM h' a (mIr M k f) → q_out a 13 h0 h' → QW V y pc ls st h' z bc bs Kr Kx) : QW V y pc ls st (q_up h (a + k) (.inl (1, n, .inl f))) z bc bs Kr Kx :=
  kk _ (hM.i hk) (ho.trans (q_out.up (by omega) (by omega)))
end
theorem nI_mul (a b : Nat) : nI a * nI b = nI (a * b) := (Int32.ofNat_mul a b).symm
theorem nI_ix (c e p w : Nat) : nI c + nI e * nI p + nI w = nI (c + e * p + w) := by rw [nI_mul, nI_add, nI_add]
abbrev m_r (M : q_Mo) : Nat → Int64 := M.2.1 1
/-- the row's readings: r a row -/
def r_op (r : Nat → Int64) (p w : Nat) : Int32 := (r (6 + 10 * p + w)).toInt32
def r_ot (r : Nat → Int64) (t w : Nat) : Int64 := r (246 + 35 * t + w)
def r_nw (r : Nat → Int64) : Int32 := (r 0).toInt32
def r_oo (r : Nat → Int64) (w : Nat) : Int32 := (r (1 + w)).toInt32
def r_has (r : Nat → Int64) (p : Nat) : Bool := decide (¬ r_op r p 0 = -1)
def r_yn (r : Nat → Int64) (p : Nat) (x : Int32) : Int32 := if r_has r p = true ∧ r_nw r - r_op r p 8 + x < r_op r p 5 then r_nw r - r_op r p 8 + x else -1
def r_sby (b r i : Int32) : Int32 := b + b * r * i / 100
def r_shb (b n i : Int32) : Int32 := b / n + (if i < b - b / n * n then 1 else 0)
def r_sl (r : Nat → Int64) (p : Nat) (x : Int32) : Int32 := if r_yn r p x = -1 then 0 else r_sby (r_op r p 3) (r_op r p 4) (r_yn r p x)
def r_sh (r : Nat → Int64) (p : Nat) (x : Int32) : Int32 := if r_yn r p x = -1 ∨ r_op r p 9 = 0 then 0 else r_shb (r_op r p 6) (r_op r p 5) (r_yn r p x)
def r_sf (r : Nat → Int64) (p : Nat) : Int32 := q_ac 0 (fun x => r_sh r p (nI x)) 5
def r_dd (r : Nat → Int64) (w t x : Nat) : Int32 := if w + x < 32 then (r_ot r t (3 + (w + x))).toInt32 else 0
def r_ch (r : Nat → Int64) (n w t x : Nat) : Int32 := q_ac (r_dd r w t x) (fun p => if r_op r p 0 = nI t then r_sl r p (nI x) + r_sh r p (nI x) else 0) n
def r_set (r : Nat → Int64) (t : Nat) : Nat → Int32
  | 0 => 0
  | k + 1 => r_set r t k ||| (if r_op r k 0 = nI t then (1 : Int32) <<< (nI k &&& 31) else 0)
def r_ty (s : Int32) : Nat → Int32 := q_ac 0 (fun k => (s >>> (nI k &&& 31)) &&& 1)
def r_cap (m : Nat → Int32) (w x : Nat) : Int32 := (te_g (m 8) (m 10) (w + x)).toInt32
def r_ln (m : Nat → Int32) (w x : Nat) : Int32 := (te_g (m 9) (m 10) (w + x)).toInt32
def r_room (m : Nat → Int32) (r : Nat → Int64) (n w t : Nat) : Int32 := r_cap m w 0 - r_ch r n w t 0
def r_ab (m : Nat → Int32) (r : Nat → Int64) (n w t x : Nat) : Int32 := r_ch r n w t x - r_ln m w x
def r_pt (b : Int32) (sz : Nat → Int32) (k : Nat) (left : Int32) : Int32 := if nI k = b - 1 then left else if sz k < left then sz k else left
def r_lp (b : Int32) (sz rt : Nat → Int32) (s : Int64) (L : Int32) : Nat → Int64 × Int32
  | 0 => (s, L)
  | k + 1 => ((r_lp b sz rt s L k).1 + (r_pt b sz k (r_lp b sz rt s L k).2).toInt64 * (rt k).toInt64 / 100, (r_lp b sz rt s L k).2 - r_pt b sz k (r_lp b sz rt s L k).2)
def r_txo (M : q_Mo) (nb : Nat) (ab : Int32) (rp : Bool) : Int64 := if ab ≤ 0 then 0 else (r_lp (M.1 7) (M.2.2 3) (M.2.2 4) (if rp = true then ab.toInt64 else 0) ab nb).1
def r_rpn (tx : Int32) (y : Nat) : Int32 := q_ac 0 (fun k => (tx >>> (nI (y - 4 + k) &&& 31)) &&& 1) (y - (y - 4))
def r_rp (tx : Int32) (y : Nat) : Bool := decide (¬ r_rpn tx y < 3)
def r_tax (M : q_Mo) (nb n w t : Nat) : Int64 := r_txo M nb (r_ab M.1 (m_r M) n w t 0) (r_rp (r_ot (m_r M) t 1).toInt32 w)
def r_fs (r : Nat → Int64) : Int32 := r_shb (r_oo r 3) (r_oo r 2) 0
def r_fc (r : Nat → Int64) : Int32 := r_oo r 0 + r_fs r
def rgL (v lo hi : Int64) : Bool := decide (¬ v < lo ∧ ¬ hi < v)
/-- what holds of the reference's state: year, teams, players, brackets; no length of 0 -/
def okM (M : q_Mo) (w nt np nb : Nat) : Prop := (w ≤ 15 ∧ r_nw (m_r M) = nI w) ∧ (nt ≤ 4 ∧ M.1 5 = nI nt) ∧ (np ≤ 24 ∧ M.1 6 = nI np) ∧ (nb ≤ 4 ∧ M.1 7 = nI nb) ∧ ¬ r_oo (m_r M) 2 = 0 ∧ ∀ p, p < 24 → r_has (m_r M) p = true → ¬ r_op (m_r M) p 5 = 0
theorem mX9_isIn {v lo hi : Int64} {P : Int32 → q_H → Option Nat → Prop} (hk : P (q_b (rgL v lo hi)) h z) : QMi V iX9_isIn [.long v, .long lo, .long hi] h z P Kx := by
  refine eX9_isIn ?_
  refine wX9_isIn_0 ?_
  refine wX9_isIn_1 ?_
  refine wX9_isIn_2 (fun c2 => ?_) (fun c2 => ?_)
  · refine wX9_isIn_17 ?_
    refine wX9_isIn_18  ?_
    first
      | (have q9 : ¬ hi < v := c9; exact q_cv (by rw [rgL, decide_eq_true ⟨c2, q9⟩]; try rfl) hk)
      | (have q9 : v < lo := c2; exact q_cv (by rw [rgL, decide_eq_false (fun q => q.1 q9)]; try rfl) hk)
      | (have q9 : hi < v := c9; exact q_cv (by rw [rgL, decide_eq_false (fun q => q.2 q9)]; try rfl) hk)
  · refine wX9_isIn_6 ?_
    refine wX9_isIn_7 ?_
    refine wX9_isIn_9 (fun c9 => ?_) (fun c9 => ?_)
    · refine wX9_isIn_17 ?_
      refine wX9_isIn_18  ?_
      first
        | (have q9 : ¬ hi < v := c9; exact q_cv (by rw [rgL, decide_eq_true ⟨c2, q9⟩]; try rfl) hk)
        | (have q9 : v < lo := c2; exact q_cv (by rw [rgL, decide_eq_false (fun q => q.1 q9)]; try rfl) hk)
        | (have q9 : hi < v := c9; exact q_cv (by rw [rgL, decide_eq_false (fun q => q.2 q9)]; try rfl) hk)
    · refine wX9_isIn_13 ?_
      refine wX9_isIn_14 ?_
      refine wX9_isIn_18  ?_
      first
        | (have q9 : ¬ hi < v := c9; exact q_cv (by rw [rgL, decide_eq_true ⟨c2, q9⟩]; try rfl) hk)
        | (have q9 : v < lo := c2; exact q_cv (by rw [rgL, decide_eq_false (fun q => q.1 q9)]; try rfl) hk)
        | (have q9 : hi < v := c9; exact q_cv (by rw [rgL, decide_eq_false (fun q => q.2 q9)]; try rfl) hk)
theorem mX9_has {s : Int32} {k : Nat} {P : Int32 → q_H → Option Nat → Prop} (hk : P (q_b (q_bit s k)) h z) : QMi V iX9_has [.int s, .int (nI k)] h z P Kx := by
  refine eX9_has ?_
  refine wX9_has_0 ?_
  refine wX9_has_1 ?_
  refine wX9_has_2 ?_
  refine wX9_has_3 ?_
  refine wX9_has_4 ?_
  refine wX9_has_5 ?_
  refine wX9_has_6 (fun c6 => ?_) (fun c6 => ?_)
  · refine wX9_has_13 ?_
    refine wX9_has_14  ?_
    first
      | (have q9 : ¬ ((s >>> (nI k &&& 31)) &&& 1 = 1) := c6; exact q_cv (by rw [q_bit, decide_eq_false q9]; try rfl) hk)
      | (have q9 : ((s >>> (nI k &&& 31)) &&& 1 = 1) := c6; exact q_cv (by rw [q_bit, decide_eq_true q9]; try rfl) hk)
  · refine wX9_has_9 ?_
    refine wX9_has_10 ?_
    refine wX9_has_14  ?_
    first
      | (have q9 : ¬ ((s >>> (nI k &&& 31)) &&& 1 = 1) := c6; exact q_cv (by rw [q_bit, decide_eq_false q9]; try rfl) hk)
      | (have q9 : ((s >>> (nI k &&& 31)) &&& 1 = 1) := c6; exact q_cv (by rw [q_bit, decide_eq_true q9]; try rfl) hk)
theorem mX9_many {s : Int32} {P : Int32 → q_H → Option Nat → Prop} (hk : P (r_ty s 24) h z) : QMi V iX9_many [.int s] h z P Kx := by
  refine eX9_many ?_
  refine wX9_many_0 ?_
  refine wX9_many_1 ?_
  refine wX9_many_2 ?_
  refine wX9_many_3 ?_
  refine q_for (P := fun k => QW V iX9_many 4 [some (.int s), some (.int (r_ty s k)), some (.int (nI k))] [] h z 0 0 (q_Ki P) Kx) 24 ?_ (fun k hk24 ih => ?_)
  · refine wX9_many_4 ?_
    refine wX9_many_5 ?_
    refine wX9_many_7 (fun c7 => ?_) (fun c7 => absurd (by decide) c7)
    refine wX9_many_24 ?_
    refine wX9_many_25  ?_
    exact hk
  · refine wX9_many_4 ?_
    refine wX9_many_5 ?_
    refine wX9_many_7 (fun c7 => absurd c7 (nI_ge (b := 24) hk24 (by decide))) (fun c7 => ?_)
    refine wX9_many_10 ?_
    refine wX9_many_11 ?_
    refine wX9_many_12 ?_
    refine wX9_many_13 ?_
    refine wX9_many_14 ?_
    refine wX9_many_15 ?_
    refine wX9_many_16 ?_
    refine wX9_many_17 ?_
    refine wX9_many_18 ?_
    refine wX9_many_21 ?_
    refine q_ls ?_ ih
    rw [nI_1]; try rfl
theorem mX9_salaryBy {b r i : Int32} {P : Int32 → q_H → Option Nat → Prop} (hk : P (r_sby b r i) h z) : QMi V iX9_salaryBy [.int b, .int r, .int i] h z P Kx := by
  refine eX9_salaryBy ?_
  refine wX9_salaryBy_0 ?_
  refine wX9_salaryBy_1 ?_
  refine wX9_salaryBy_2 ?_
  refine wX9_salaryBy_3 ?_
  refine wX9_salaryBy_4 ?_
  refine wX9_salaryBy_5 ?_
  refine wX9_salaryBy_6 ?_
  refine wX9_salaryBy_8 (by decide) ?_
  refine wX9_salaryBy_9 ?_
  refine wX9_salaryBy_10  ?_
  exact hk
theorem mX9_shareBy {b n i : Int32} {P : Int32 → q_H → Option Nat → Prop} (hn : ¬ n = 0) (hk : P (r_shb b n i) h z) : QMi V iX9_shareBy [.int b, .int n, .int i] h z P Kx := by
  refine eX9_shareBy ?_
  refine wX9_shareBy_0 ?_
  refine wX9_shareBy_1 ?_
  refine wX9_shareBy_2 hn ?_
  refine wX9_shareBy_3 ?_
  refine wX9_shareBy_4 ?_
  refine wX9_shareBy_5 ?_
  refine wX9_shareBy_6 hn ?_
  refine wX9_shareBy_7 (fun c7 => ?_) (fun c7 => ?_)
  · refine wX9_shareBy_14 ?_
    refine wX9_shareBy_15 ?_
    refine wX9_shareBy_16  ?_
    first
      | (have q9 : ¬ (i < b - b / n * n) := Int32.not_lt.mpr c7; exact q_cv (by rw [r_shb, if_neg q9]) hk)
      | (have q9 : i < b - b / n * n := Int32.not_le.mp c7; exact q_cv (by rw [r_shb, if_pos q9]) hk)
  · refine wX9_shareBy_10 ?_
    refine wX9_shareBy_11 ?_
    refine wX9_shareBy_15 ?_
    refine wX9_shareBy_16  ?_
    first
      | (have q9 : ¬ (i < b - b / n * n) := Int32.not_lt.mpr c7; exact q_cv (by rw [r_shb, if_neg q9]) hk)
      | (have q9 : i < b - b / n * n := Int32.not_le.mp c7; exact q_cv (by rw [r_shb, if_pos q9]) hk)
theorem mX9_isAhead {x : Int32} {P : Int32 → q_H → Option Nat → Prop} (hk : P (q_b (rgL x.toInt64 0 11)) h z) : QMi V iX9_isAhead [.int x] h z P Kx := by
  refine eX9_isAhead ?_
  refine wX9_isAhead_0 ?_
  refine wX9_isAhead_1 ?_
  refine wX9_isAhead_2 ?_
  refine wX9_isAhead_3 ?_
  refine wX9_isAhead_6 (mX9_isIn ?_)
  refine wX9_isAhead_9  ?_
  exact hk
theorem mX9_isRepeatedN {tx yy : Int32} {P : Int32 → q_H → Option Nat → Prop} {y : Nat} (hy : y < 32) (hyy : yy = nI y) (hk : P (q_b (r_rp tx y)) h z) : QMi V iX9_isRepeated [.int tx, .int yy] h z P Kx := by
  subst hyy
  refine eX9_isRepeated ?_
  refine wX9_isRepeated_0 ?_
  refine wX9_isRepeated_1 ?_
  refine wX9_isRepeated_2 ?_
  refine wX9_isRepeated_3 ?_
  refine wX9_isRepeated_4 ?_
  refine wX9_isRepeated_5 ?_
  refine wX9_isRepeated_6 ?_
  refine wX9_isRepeated_9 ?_
  have e0 : (if (0 : Int32) < nI y - 4 then nI y - 4 else 0) = nI (y - 4) := (by decide : ∀ y, y < 32 → (if (0 : Int32) < nI y - 4 then nI y - 4 else 0) = nI (y - 4)) y hy
  refine q_ls (ls' := [some (.int tx), some (.int (nI y)), some (.int (q_ac 0 (fun k => (tx >>> (nI (y - 4 + k) &&& 31)) &&& 1) 0)), some (.int (nI (y - 4 + 0)))]) (by rw [Nat.add_zero]; exact congrArg (fun q => [some (Value.int tx), some (.int (nI y)), some (.int 0), some (.int q)]) e0) ?_
  refine q_for (P := fun k => QW V iX9_isRepeated 10 [some (.int tx), some (.int (nI y)), some (.int (q_ac 0 (fun k => (tx >>> (nI (y - 4 + k) &&& 31)) &&& 1) k)), some (.int (nI (y - 4 + k)))] [] h z 0 0 (q_Ki P) Kx) (y - (y - 4)) ?_ (fun k hk4 ih => ?_)
  · refine wX9_isRepeated_10 ?_
    refine wX9_isRepeated_11 ?_
    refine wX9_isRepeated_12 (fun c12 => ?_) (fun c12 => absurd (nI_le (by omega) (by omega)) c12)
    refine wX9_isRepeated_29 ?_
    refine wX9_isRepeated_30 ?_
    refine wX9_isRepeated_31 (fun c31 => ?_) (fun c31 => ?_)
    · refine wX9_isRepeated_38 ?_
      refine wX9_isRepeated_39  ?_
      first
        | (have q9 : r_rpn tx y < 3 := c31; exact q_cv (by rw [r_rp, decide_eq_false (fun q => q q9)]; try rfl) hk)
        | (have q9 : ¬ r_rpn tx y < 3 := c31; exact q_cv (by rw [r_rp, decide_eq_true q9]; try rfl) hk)
    · refine wX9_isRepeated_34 ?_
      refine wX9_isRepeated_35 ?_
      refine wX9_isRepeated_39  ?_
      first
        | (have q9 : r_rpn tx y < 3 := c31; exact q_cv (by rw [r_rp, decide_eq_false (fun q => q q9)]; try rfl) hk)
        | (have q9 : ¬ r_rpn tx y < 3 := c31; exact q_cv (by rw [r_rp, decide_eq_true q9]; try rfl) hk)
  · refine wX9_isRepeated_10 ?_
    refine wX9_isRepeated_11 ?_
    refine wX9_isRepeated_12 (fun c12 => absurd c12 (nI_ge (by omega) (by omega))) (fun c12 => ?_)
    refine wX9_isRepeated_15 ?_
    refine wX9_isRepeated_16 ?_
    refine wX9_isRepeated_17 ?_
    refine wX9_isRepeated_18 ?_
    refine wX9_isRepeated_19 ?_
    refine wX9_isRepeated_20 ?_
    refine wX9_isRepeated_21 ?_
    refine wX9_isRepeated_22 ?_
    refine wX9_isRepeated_23 ?_
    refine wX9_isRepeated_26 ?_
    refine q_ls ?_ ih
    rw [nI_1]; try rfl
theorem mX9_thrown {a : Nat} {M : q_Mo}  {P : Int32 → q_H → Option Nat → Prop} (hM : isM h a M)  (hk : P (M.1 4) h z) : QMi V iX9_thrown [.ref a] h z P Kx := by
  refine eX9_thrown ?_
  refine wX9_thrown_0 ?_
  refine wX9_thrown_1 hM.c ?_
  refine wX9_thrown_4  ?_
  exact hk
theorem mX9_isFine {a : Nat} {M : q_Mo}  {P : Int32 → q_H → Option Nat → Prop} (hM : isM h a M)  (hk : P (q_b (decide (M.1 22 = 0))) h z) : QMi V iX9_isFine [.ref a] h z P Kx := by
  refine eX9_isFine ?_
  refine wX9_isFine_0 ?_
  refine wX9_isFine_1 hM.c ?_
  refine wX9_isFine_4 (fun c4 => ?_) (fun c4 => ?_)
  · refine wX9_isFine_11 ?_
    refine wX9_isFine_12  ?_
    first
      | (have q9 : ¬ M.1 22 = 0 := c4; exact q_cv (by rw [decide_eq_false q9]; try rfl) hk)
      | (have q9 : M.1 22 = 0 := c4; exact q_cv (by rw [decide_eq_true q9]; try rfl) hk)
  · refine wX9_isFine_7 ?_
    refine wX9_isFine_8 ?_
    refine wX9_isFine_12  ?_
    first
      | (have q9 : ¬ M.1 22 = 0 := c4; exact q_cv (by rw [decide_eq_false q9]; try rfl) hk)
      | (have q9 : M.1 22 = 0 := c4; exact q_cv (by rw [decide_eq_true q9]; try rfl) hk)
theorem mX9_ofPlayer {a : Nat} {M : q_Mo} {p w : Nat} {P : Int32 → q_H → Option Nat → Prop} (hM : isM h a M) (hp : p < 24) (hw : w < 10) (hk : P (r_op (m_r M) p w) h z) : QMi V iX9_ofPlayer [.ref a, .int (nI p), .int (nI w)] h z P Kx := by
  refine eX9_ofPlayer ?_
  refine wX9_ofPlayer_0 ?_
  refine wX9_ofPlayer_1 hM.c ?_
  refine wX9_ofPlayer_4 ?_
  refine wX9_ofPlayer_6 ?_
  refine wX9_ofPlayer_8 ?_
  refine wX9_ofPlayer_9 ?_
  refine wX9_ofPlayer_10 ?_
  refine wX9_ofPlayer_11 ?_
  refine wX9_ofPlayer_12 ?_
  refine wX9_ofPlayer_13 hM.a1 (nI_ix 6 10 p w) (by omega) (by decide) ?_
  refine wX9_ofPlayer_14 ?_
  refine wX9_ofPlayer_15  ?_
  exact hk
theorem mX9_ofTeam {a : Nat} {M : q_Mo} {t w : Nat} {P : Int64 → q_H → Option Nat → Prop} (hM : isM h a M) (ht : t < 4) (hw : w < 35) (hk : P (r_ot (m_r M) t w) h z) : QMl V iX9_ofTeam [.ref a, .int (nI t), .int (nI w)] h z P Kx := by
  refine eX9_ofTeam ?_
  refine wX9_ofTeam_0 ?_
  refine wX9_ofTeam_1 hM.c ?_
  refine wX9_ofTeam_4 ?_
  refine wX9_ofTeam_7 ?_
  refine wX9_ofTeam_9 ?_
  refine wX9_ofTeam_10 ?_
  refine wX9_ofTeam_11 ?_
  refine wX9_ofTeam_12 ?_
  refine wX9_ofTeam_13 ?_
  refine wX9_ofTeam_14 hM.a1 (nI_ix 246 35 t w) (by omega) (by decide) ?_
  refine wX9_ofTeam_15  ?_
  exact hk
theorem mX9_now {a : Nat} {M : q_Mo}  {P : Int32 → q_H → Option Nat → Prop} (hM : isM h a M)  (hk : P (r_nw (m_r M)) h z) : QMi V iX9_now [.ref a] h z P Kx := by
  refine eX9_now ?_
  refine wX9_now_0 ?_
  refine wX9_now_1 hM.c ?_
  refine wX9_now_4 ?_
  refine wX9_now_5 hM.a1 (j := 0) rfl (by decide) (by decide) ?_
  refine wX9_now_6 ?_
  refine wX9_now_7  ?_
  exact hk
theorem mX9_ofOffer {a : Nat} {M : q_Mo} {w : Nat} {P : Int32 → q_H → Option Nat → Prop} (hM : isM h a M) (hw : w < 5) (hk : P (r_oo (m_r M) w) h z) : QMi V iX9_ofOffer [.ref a, .int (nI w)] h z P Kx := by
  refine eX9_ofOffer ?_
  refine wX9_ofOffer_0 ?_
  refine wX9_ofOffer_1 hM.c ?_
  refine wX9_ofOffer_4 ?_
  refine wX9_ofOffer_5 ?_
  refine wX9_ofOffer_6 ?_
  refine wX9_ofOffer_7 hM.a1 (nI_add 1 w) (by omega) (by decide) ?_
  refine wX9_ofOffer_8 ?_
  refine wX9_ofOffer_9  ?_
  exact hk
theorem mX9_isTeam {a : Nat} {M : q_Mo} {x : Int32} {P : Int32 → q_H → Option Nat → Prop} (hM : isM h a M)  (hk : P (q_b (rgL x.toInt64 0 (M.1 5 - 1).toInt64)) h z) : QMi V iX9_isTeam [.ref a, .int x] h z P Kx := by
  refine eX9_isTeam ?_
  refine wX9_isTeam_0 ?_
  refine wX9_isTeam_1 ?_
  refine wX9_isTeam_2 ?_
  refine wX9_isTeam_3 ?_
  refine wX9_isTeam_4 hM.c ?_
  refine wX9_isTeam_7 ?_
  refine wX9_isTeam_8 ?_
  refine wX9_isTeam_9 ?_
  refine wX9_isTeam_10 (mX9_isIn ?_)
  refine wX9_isTeam_13  ?_
  exact hk
theorem mX9_isPlayer {a : Nat} {M : q_Mo} {x : Int32} {P : Int32 → q_H → Option Nat → Prop} (hM : isM h a M)  (hk : P (q_b (rgL x.toInt64 0 (M.1 6 - 1).toInt64)) h z) : QMi V iX9_isPlayer [.ref a, .int x] h z P Kx := by
  refine eX9_isPlayer ?_
  refine wX9_isPlayer_0 ?_
  refine wX9_isPlayer_1 ?_
  refine wX9_isPlayer_2 ?_
  refine wX9_isPlayer_3 ?_
  refine wX9_isPlayer_4 hM.c ?_
  refine wX9_isPlayer_7 ?_
  refine wX9_isPlayer_8 ?_
  refine wX9_isPlayer_9 ?_
  refine wX9_isPlayer_10 (mX9_isIn ?_)
  refine wX9_isPlayer_13  ?_
  exact hk
theorem mX9_hasContract {a : Nat} {M : q_Mo} {p : Nat} {P : Int32 → q_H → Option Nat → Prop} (hM : isM h a M) (hp : p < 24) (hk : P (q_b (r_has (m_r M) p)) h z) : QMi V iX9_hasContract [.ref a, .int (nI p)] h z P Kx := by
  refine eX9_hasContract ?_
  refine wX9_hasContract_0 ?_
  refine wX9_hasContract_1 ?_
  refine wX9_hasContract_2 ?_
  refine wX9_hasContract_3 hM.c (mX9_ofPlayer (w := 0) hM hp (by decide) ?_)
  refine wX9_hasContract_6 ?_
  refine wX9_hasContract_7 (fun c7 => ?_) (fun c7 => ?_)
  · refine wX9_hasContract_14 ?_
    refine wX9_hasContract_15  ?_
    first
      | (have q9 : ¬ r_op (m_r M) p 0 = -1 := c7; exact q_cv (by rw [r_has, decide_eq_true q9]; try rfl) hk)
      | (have q9 : r_op (m_r M) p 0 = -1 := c7; exact q_cv (by rw [r_has, decide_eq_false (fun q => q q9)]; try rfl) hk)
  · refine wX9_hasContract_10 ?_
    refine wX9_hasContract_11 ?_
    refine wX9_hasContract_15  ?_
    first
      | (have q9 : ¬ r_op (m_r M) p 0 = -1 := c7; exact q_cv (by rw [r_has, decide_eq_true q9]; try rfl) hk)
      | (have q9 : r_op (m_r M) p 0 = -1 := c7; exact q_cv (by rw [r_has, decide_eq_false (fun q => q q9)]; try rfl) hk)
theorem mX9_yearNumber {a : Nat} {M : q_Mo} {p : Nat} {x : Int32} {P : Int32 → q_H → Option Nat → Prop} (hM : isM h a M) (hp : p < 24) (hk : P (r_yn (m_r M) p x) h z) : QMi V iX9_yearNumber [.ref a, .int (nI p), .int x] h z P Kx := by
  refine eX9_yearNumber ?_
  refine wX9_yearNumber_0 ?_
  refine wX9_yearNumber_1 hM.c (mX9_now hM ?_)
  refine wX9_yearNumber_4 ?_
  refine wX9_yearNumber_5 ?_
  refine wX9_yearNumber_6 ?_
  refine wX9_yearNumber_8 hM.c (mX9_ofPlayer (w := 8) hM hp (by decide) ?_)
  refine wX9_yearNumber_11 ?_
  refine wX9_yearNumber_12 ?_
  refine wX9_yearNumber_13 ?_
  refine wX9_yearNumber_14 ?_
  refine wX9_yearNumber_15 ?_
  refine wX9_yearNumber_16 ?_
  refine wX9_yearNumber_17 hM.c (mX9_hasContract hM hp ?_)
  refine wX9_yearNumber_20 (fun c20 => ?_) (fun c20 => ?_)
  · refine wX9_yearNumber_37 ?_
    refine wX9_yearNumber_38  ?_
    first
      | (have q9 : r_has (m_r M) p = false := q_b0 c20; exact q_cv (by rw [r_yn, if_neg (fun q => by rw [q9] at q; cases q.1)]) hk)
      | (have q9 : r_op (m_r M) p 5 ≤ r_nw (m_r M) - r_op (m_r M) p 8 + x := c30; exact q_cv (by rw [r_yn, if_neg (fun q => Int32.not_lt.mpr q9 q.2)]) hk)
      | (have q9 : ¬ r_op (m_r M) p 5 ≤ r_nw (m_r M) - r_op (m_r M) p 8 + x := c30; exact q_cv (by rw [r_yn, if_pos ⟨q_b1 c20, Int32.not_le.mp q9⟩]) hk)
  · refine wX9_yearNumber_23 ?_
    refine wX9_yearNumber_24 ?_
    refine wX9_yearNumber_25 ?_
    refine wX9_yearNumber_26 ?_
    refine wX9_yearNumber_27 hM.c (mX9_ofPlayer (w := 5) hM hp (by decide) ?_)
    refine wX9_yearNumber_30 (fun c30 => ?_) (fun c30 => ?_)
    · refine wX9_yearNumber_37 ?_
      refine wX9_yearNumber_38  ?_
      first
        | (have q9 : r_has (m_r M) p = false := q_b0 c20; exact q_cv (by rw [r_yn, if_neg (fun q => by rw [q9] at q; cases q.1)]) hk)
        | (have q9 : r_op (m_r M) p 5 ≤ r_nw (m_r M) - r_op (m_r M) p 8 + x := c30; exact q_cv (by rw [r_yn, if_neg (fun q => Int32.not_lt.mpr q9 q.2)]) hk)
        | (have q9 : ¬ r_op (m_r M) p 5 ≤ r_nw (m_r M) - r_op (m_r M) p 8 + x := c30; exact q_cv (by rw [r_yn, if_pos ⟨q_b1 c20, Int32.not_le.mp q9⟩]) hk)
    · refine wX9_yearNumber_33 ?_
      refine wX9_yearNumber_34 ?_
      refine wX9_yearNumber_38  ?_
      first
        | (have q9 : r_has (m_r M) p = false := q_b0 c20; exact q_cv (by rw [r_yn, if_neg (fun q => by rw [q9] at q; cases q.1)]) hk)
        | (have q9 : r_op (m_r M) p 5 ≤ r_nw (m_r M) - r_op (m_r M) p 8 + x := c30; exact q_cv (by rw [r_yn, if_neg (fun q => Int32.not_lt.mpr q9 q.2)]) hk)
        | (have q9 : ¬ r_op (m_r M) p 5 ≤ r_nw (m_r M) - r_op (m_r M) p 8 + x := c30; exact q_cv (by rw [r_yn, if_pos ⟨q_b1 c20, Int32.not_le.mp q9⟩]) hk)
theorem mX9_salaryIn {a : Nat} {M : q_Mo} {p : Nat} {x : Int32} {P : Int32 → q_H → Option Nat → Prop} (hM : isM h a M) (hp : p < 24) (hk : P (r_sl (m_r M) p x) h z) : QMi V iX9_salaryIn [.ref a, .int (nI p), .int x] h z P Kx := by
  refine eX9_salaryIn ?_
  refine wX9_salaryIn_0 ?_
  refine wX9_salaryIn_1 ?_
  refine wX9_salaryIn_2 ?_
  refine wX9_salaryIn_3 hM.c (mX9_yearNumber hM hp ?_)
  refine wX9_salaryIn_6 ?_
  refine wX9_salaryIn_7 ?_
  refine wX9_salaryIn_8 ?_
  refine wX9_salaryIn_9 (fun c9 => ?_) (fun c9 => ?_)
  · refine wX9_salaryIn_16 ?_
    refine wX9_salaryIn_17 ?_
    refine wX9_salaryIn_18 ?_
    refine wX9_salaryIn_19 hM.c (mX9_ofPlayer (w := 3) hM hp (by decide) ?_)
    refine wX9_salaryIn_22 ?_
    refine wX9_salaryIn_23 ?_
    refine wX9_salaryIn_24 ?_
    refine wX9_salaryIn_25 hM.c (mX9_ofPlayer (w := 4) hM hp (by decide) ?_)
    refine wX9_salaryIn_28 ?_
    refine wX9_salaryIn_29 (mX9_salaryBy ?_)
    refine wX9_salaryIn_32  ?_
    first
      | (have q9 : r_yn (m_r M) p x = -1 := c9; exact q_cv (by rw [r_sl, if_pos q9]) hk)
      | (have q9 : ¬ r_yn (m_r M) p x = -1 := c9; exact q_cv (by rw [r_sl, if_neg q9]) hk)
  · refine wX9_salaryIn_12 ?_
    refine wX9_salaryIn_13 ?_
    refine wX9_salaryIn_32  ?_
    first
      | (have q9 : r_yn (m_r M) p x = -1 := c9; exact q_cv (by rw [r_sl, if_pos q9]) hk)
      | (have q9 : ¬ r_yn (m_r M) p x = -1 := c9; exact q_cv (by rw [r_sl, if_neg q9]) hk)
theorem r_yn_has {r : Nat → Int64} {p : Nat} {x : Int32} (q : ¬ r_yn r p x = -1) : r_has r p = true := by
  unfold r_yn at q
  split at q
  · rename_i q2; exact q2.1
  · exact absurd rfl q
theorem mX9_shareIn {a : Nat} {M : q_Mo} {p : Nat} {x : Int32} {P : Int32 → q_H → Option Nat → Prop} (hM : isM h a M) (hp : p < 24) (hn : r_has (m_r M) p = true → ¬ r_op (m_r M) p 5 = 0) (hk : P (r_sh (m_r M) p x) h z) : QMi V iX9_shareIn [.ref a, .int (nI p), .int x] h z P Kx := by
  refine eX9_shareIn ?_
  refine wX9_shareIn_0 ?_
  refine wX9_shareIn_1 ?_
  refine wX9_shareIn_2 ?_
  refine wX9_shareIn_3 hM.c (mX9_yearNumber hM hp ?_)
  refine wX9_shareIn_6 ?_
  refine wX9_shareIn_7 ?_
  refine wX9_shareIn_8 ?_
  refine wX9_shareIn_9 (fun c9 => ?_) (fun c9 => ?_)
  · refine wX9_shareIn_22 ?_
    refine wX9_shareIn_23 ?_
    refine wX9_shareIn_43  ?_
    first
      | (have q9 : r_yn (m_r M) p x = -1 := c9; exact q_cv (by rw [r_sh, if_pos (Or.inl q9)]) hk)
      | (have q9 : r_op (m_r M) p 9 = 0 := c19; exact q_cv (by rw [r_sh, if_pos (Or.inr q9)]) hk)
      | (have q9 : ¬ r_op (m_r M) p 9 = 0 := c19; exact q_cv (by rw [r_sh, if_neg (fun q => q.elim c9 q9)]) hk)
  · refine wX9_shareIn_12 ?_
    refine wX9_shareIn_13 ?_
    refine wX9_shareIn_14 ?_
    refine wX9_shareIn_16 hM.c (mX9_ofPlayer (w := 9) hM hp (by decide) ?_)
    refine wX9_shareIn_19 (fun c19 => ?_) (fun c19 => ?_)
    · refine wX9_shareIn_26 ?_
      refine wX9_shareIn_27 ?_
      refine wX9_shareIn_28 ?_
      refine wX9_shareIn_30 hM.c (mX9_ofPlayer (w := 6) hM hp (by decide) ?_)
      refine wX9_shareIn_33 ?_
      refine wX9_shareIn_34 ?_
      refine wX9_shareIn_35 ?_
      refine wX9_shareIn_36 hM.c (mX9_ofPlayer (w := 5) hM hp (by decide) ?_)
      refine wX9_shareIn_39 ?_
      refine wX9_shareIn_40 (mX9_shareBy (hn (r_yn_has c9)) ?_)
      refine wX9_shareIn_43  ?_
      first
        | (have q9 : r_yn (m_r M) p x = -1 := c9; exact q_cv (by rw [r_sh, if_pos (Or.inl q9)]) hk)
        | (have q9 : r_op (m_r M) p 9 = 0 := c19; exact q_cv (by rw [r_sh, if_pos (Or.inr q9)]) hk)
        | (have q9 : ¬ r_op (m_r M) p 9 = 0 := c19; exact q_cv (by rw [r_sh, if_neg (fun q => q.elim c9 q9)]) hk)
    · refine wX9_shareIn_22 ?_
      refine wX9_shareIn_23 ?_
      refine wX9_shareIn_43  ?_
      first
        | (have q9 : r_yn (m_r M) p x = -1 := c9; exact q_cv (by rw [r_sh, if_pos (Or.inl q9)]) hk)
        | (have q9 : r_op (m_r M) p 9 = 0 := c19; exact q_cv (by rw [r_sh, if_pos (Or.inr q9)]) hk)
        | (have q9 : ¬ r_op (m_r M) p 9 = 0 := c19; exact q_cv (by rw [r_sh, if_neg (fun q => q.elim c9 q9)]) hk)
theorem mX9_sharesFrom {a : Nat} {M : q_Mo} {p : Nat} {P : Int32 → q_H → Option Nat → Prop} (hM : isM h a M) (hp : p < 24) (hn : r_has (m_r M) p = true → ¬ r_op (m_r M) p 5 = 0) (hk : P (r_sf (m_r M) p) h z) : QMi V iX9_sharesFrom [.ref a, .int (nI p)] h z P Kx := by
  refine eX9_sharesFrom ?_
  refine wX9_sharesFrom_0 ?_
  refine wX9_sharesFrom_1 ?_
  refine wX9_sharesFrom_2 ?_
  refine wX9_sharesFrom_3 ?_
  refine q_for (P := fun k => QW V iX9_sharesFrom 4 [some (.ref a), some (.int (nI p)), some (.int (q_ac 0 (fun x => r_sh (m_r M) p (nI x)) k)), some (.int (nI k))] [] h z 0 0 (q_Ki P) Kx) 5 ?_ (fun k hkn ih => ?_)
  · refine wX9_sharesFrom_4 ?_
    refine wX9_sharesFrom_5 ?_
    refine wX9_sharesFrom_6 (fun c6 => ?_) (fun c6 => absurd (by decide) c6)
    refine wX9_sharesFrom_24 ?_
    refine wX9_sharesFrom_25  ?_
    exact hk
  · refine wX9_sharesFrom_4 ?_
    refine wX9_sharesFrom_5 ?_
    refine wX9_sharesFrom_6 (fun c6 => absurd c6 (nI_ge (b := 5) hkn (by decide))) (fun c6 => ?_)
    refine wX9_sharesFrom_9 ?_
    refine wX9_sharesFrom_10 ?_
    refine wX9_sharesFrom_11 ?_
    refine wX9_sharesFrom_12 ?_
    refine wX9_sharesFrom_13 hM.c (mX9_shareIn hM hp hn ?_)
    refine wX9_sharesFrom_16 ?_
    refine wX9_sharesFrom_17 ?_
    refine wX9_sharesFrom_18 ?_
    refine wX9_sharesFrom_21 ?_
    refine q_ls ?_ ih
    rw [nI_1]; try rfl
theorem nI_lt32 {n : Nat} (hn : n < 2147483648) (c : ¬ (32 : Int32) ≤ nI n) : n < 32 := by
  by_cases q : n < 32
  · exact q
  · exact absurd (nI_le (show 32 ≤ n by omega) hn) c
theorem q_cvA {y : q_I} {a : Nat} {v w x : Int32} {P : Int64 → q_H → Option Nat → Prop} (e : x = w) (kk : QMl V y [.ref a, .int v, .int w] h z P Kx) : QMl V y [.ref a, .int v, .int x] h z P Kx := e ▸ kk
theorem mX9_deadIn {a : Nat} {M : q_Mo} {t x w : Nat} {P : Int32 → q_H → Option Nat → Prop} (hM : isM h a M) (ht : t < 4) (hw : r_nw (m_r M) = nI w) (hwl : w < 1000) (hx : x < 1000) (hk : P (r_dd (m_r M) w t x) h z) : QMi V iX9_deadIn [.ref a, .int (nI t), .int (nI x)] h z P Kx := by
  refine eX9_deadIn ?_
  refine wX9_deadIn_0 ?_
  refine wX9_deadIn_1 hM.c (mX9_now hM ?_)
  rw [hw]
  refine wX9_deadIn_4 ?_
  refine wX9_deadIn_5 ?_
  rw [nI_add]
  refine wX9_deadIn_6 ?_
  refine wX9_deadIn_7 ?_
  refine wX9_deadIn_8 ?_
  refine wX9_deadIn_10 (fun c10 => ?_) (fun c10 => ?_)
  · refine wX9_deadIn_25 ?_
    refine wX9_deadIn_26  ?_
    first
      | (have q9 := c10; exact q_cv (by rw [r_dd, if_neg (fun q => nI_ge (show w + x < 32 from q) (by decide) q9)]) hk)
      | (have q9 := c10; exact q_cv (by rw [r_dd, if_pos (nI_lt32 (by omega) q9)]) hk)
  · refine wX9_deadIn_13 ?_
    refine wX9_deadIn_14 ?_
    refine wX9_deadIn_15 ?_
    refine wX9_deadIn_16 ?_
    refine wX9_deadIn_17 ?_
    refine wX9_deadIn_18 hM.c (q_cvA (nI_add 3 (w + x)) (mX9_ofTeam hM ht (show 3 + (w + x) < 35 by have := nI_lt32 (by omega) c10; omega) ?_))
    refine wX9_deadIn_21 ?_
    refine wX9_deadIn_22 ?_
    refine wX9_deadIn_26  ?_
    first
      | (have q9 := c10; exact q_cv (by rw [r_dd, if_neg (fun q => nI_ge (show w + x < 32 from q) (by decide) q9)]) hk)
      | (have q9 := c10; exact q_cv (by rw [r_dd, if_pos (nI_lt32 (by omega) q9)]) hk)
theorem mX9_chargeOf {a : Nat} {M : q_Mo} {t x : Nat} {w nt np nb : Nat} {P : Int32 → q_H → Option Nat → Prop} (hM : isM h a M) (hO : okM M w nt np nb) (ht : t < 4) (hx : x < 1000) (hk : P (r_ch (m_r M) np w t x) h z) : QMi V iX9_chargeOf [.ref a, .int (nI t), .int (nI x)] h z P Kx := by
  have hnp := hO.2.2.1.1
  have hnn := hO.2.2.1.2
  refine eX9_chargeOf ?_
  refine wX9_chargeOf_0 ?_
  refine wX9_chargeOf_1 ?_
  refine wX9_chargeOf_2 ?_
  refine wX9_chargeOf_3 hM.c (mX9_deadIn hM ht hO.1.2 (by have := hO.1.1; omega) hx ?_)
  refine wX9_chargeOf_6 ?_
  refine wX9_chargeOf_7 ?_
  refine wX9_chargeOf_8 ?_
  refine q_for (P := fun k => QW V iX9_chargeOf 10 [some (.ref a), some (.int (nI t)), some (.int (nI x)), some (.int (q_ac (r_dd (m_r M) w t x) (fun p => if r_op (m_r M) p 0 = nI t then r_sl (m_r M) p (nI x) + r_sh (m_r M) p (nI x) else 0) k)), some (.int (nI k))] [] h z 0 0 (q_Ki P) Kx) np ?_ (fun k hkn ih => ?_)
  · refine wX9_chargeOf_10 ?_
    refine wX9_chargeOf_12 ?_
    refine wX9_chargeOf_13 hM.c ?_
    refine wX9_chargeOf_16 (fun c16 => ?_) (fun c16 => absurd (by rw [hnn]; exact nI_le (Nat.le_refl _) (by omega)) c16)
    refine wX9_chargeOf_58 ?_
    refine wX9_chargeOf_59  ?_
    exact hk
  · refine wX9_chargeOf_10 ?_
    refine wX9_chargeOf_12 ?_
    refine wX9_chargeOf_13 hM.c ?_
    refine wX9_chargeOf_16 (fun c16 => absurd c16 (by rw [hnn]; exact nI_ge hkn (by omega))) (fun c16 => ?_)
    refine wX9_chargeOf_19 ?_
    refine wX9_chargeOf_20 ?_
    refine wX9_chargeOf_21 ?_
    refine wX9_chargeOf_23 ?_
    refine wX9_chargeOf_24 hM.c (mX9_ofPlayer (w := 0) hM (show k < 24 by omega) (by decide) ?_)
    refine wX9_chargeOf_27 ?_
    refine wX9_chargeOf_28 (fun c28 => ?_) (fun c28 => ?_)
    · refine wX9_chargeOf_49 ?_
      refine wX9_chargeOf_50 ?_
      refine wX9_chargeOf_51 ?_
      refine wX9_chargeOf_52 ?_
      refine wX9_chargeOf_55 ?_
      refine q_ls ?_ ih
      rw [nI_1]
      first
        | (have q9 : r_op (m_r M) k 0 = nI t := c28; rw [q_ac, if_pos q9]; try rfl)
        | (have q9 : ¬ r_op (m_r M) k 0 = nI t := c28; rw [q_ac, if_neg q9]; try rfl)
    · refine wX9_chargeOf_31 ?_
      refine wX9_chargeOf_32 ?_
      refine wX9_chargeOf_34 ?_
      refine wX9_chargeOf_35 hM.c (mX9_salaryIn hM (show k < 24 by omega) ?_)
      refine wX9_chargeOf_38 ?_
      refine wX9_chargeOf_39 ?_
      refine wX9_chargeOf_41 ?_
      refine wX9_chargeOf_42 hM.c (mX9_shareIn hM (show k < 24 by omega) (hO.2.2.2.2.2 k (by omega)) ?_)
      refine wX9_chargeOf_45 ?_
      refine wX9_chargeOf_46 ?_
      refine wX9_chargeOf_50 ?_
      refine wX9_chargeOf_51 ?_
      refine wX9_chargeOf_52 ?_
      refine wX9_chargeOf_55 ?_
      refine q_ls ?_ ih
      rw [nI_1]
      first
        | (have q9 : r_op (m_r M) k 0 = nI t := c28; rw [q_ac, if_pos q9]; try rfl)
        | (have q9 : ¬ r_op (m_r M) k 0 = nI t := c28; rw [q_ac, if_neg q9]; try rfl)
theorem mX9_grown {a : Nat} {M : q_Mo} {f : Int32} {y : Nat} {P : Int32 → q_H → Option Nat → Prop} (hM : isM h a M) (hy : y < 2147483648) (hk : P (te_g f (M.1 10) y).toInt32 h z) : QMi V iX9_grown [.ref a, .int f, .int (nI y)] h z P Kx := by
  refine eX9_grown ?_
  refine wX9_grown_0 ?_
  refine wX9_grown_1 ?_
  refine wX9_grown_2 ?_
  refine wX9_grown_3 ?_
  refine wX9_grown_4 ?_
  refine q_for (P := fun k => QW V iX9_grown 6 [some (.ref a), some (.int f), some (.int (nI y)), some (.long (te_g f (M.1 10) k)), none, some (.int (nI k))] [] h z 0 0 (q_Ki P) Kx) y ?_ (fun k hkn ih => ?_)
  · refine wX9_grown_6 ?_
    refine wX9_grown_8 ?_
    refine wX9_grown_9 (fun c9 => ?_) (fun c9 => absurd (nI_le (Nat.le_refl _) hy) c9)
    refine wX9_grown_34 ?_
    refine wX9_grown_35 ?_
    refine wX9_grown_36  ?_
    exact hk
  · refine wX9_grown_6 ?_
    refine wX9_grown_8 ?_
    refine wX9_grown_9 (fun c9 => absurd c9 (nI_ge hkn hy)) (fun c9 => ?_)
    refine wX9_grown_12 ?_
    refine wX9_grown_13 ?_
    refine wX9_grown_16 ?_
    refine wX9_grown_17 hM.c ?_
    refine wX9_grown_20 ?_
    refine wX9_grown_21 ?_
    refine wX9_grown_22 ?_
    refine wX9_grown_23 ?_
    refine wX9_grown_26 (by decide) ?_
    refine wX9_grown_27 ?_
    refine wX9_grown_28 ?_
    refine wX9_grown_31 ?_
    refine q_ls ?_ ih
    rw [nI_1]; try rfl
theorem mX9_capIn {a : Nat} {M : q_Mo} {x w : Nat} {P : Int32 → q_H → Option Nat → Prop} (hM : isM h a M) (hw : r_nw (m_r M) = nI w) (hwl : w < 1000) (hx : x < 1000) (hk : P (r_cap M.1 w x) h z) : QMi V iX9_capIn [.ref a, .int (nI x)] h z P Kx := by
  refine eX9_capIn ?_
  refine wX9_capIn_0 ?_
  refine wX9_capIn_1 ?_
  refine wX9_capIn_2 hM.c ?_
  refine wX9_capIn_5 ?_
  refine wX9_capIn_6 hM.c (mX9_now hM ?_)
  rw [hw]
  refine wX9_capIn_9 ?_
  refine wX9_capIn_10 ?_
  rw [nI_add]
  refine wX9_capIn_11 hM.c (mX9_grown hM (by omega) ?_)
  refine wX9_capIn_14 ?_
  exact hk
theorem mX9_lineIn {a : Nat} {M : q_Mo} {x w : Nat} {P : Int32 → q_H → Option Nat → Prop} (hM : isM h a M) (hw : r_nw (m_r M) = nI w) (hwl : w < 1000) (hx : x < 1000) (hk : P (r_ln M.1 w x) h z) : QMi V iX9_lineIn [.ref a, .int (nI x)] h z P Kx := by
  refine eX9_lineIn ?_
  refine wX9_lineIn_0 ?_
  refine wX9_lineIn_1 ?_
  refine wX9_lineIn_2 hM.c ?_
  refine wX9_lineIn_5 ?_
  refine wX9_lineIn_6 hM.c (mX9_now hM ?_)
  rw [hw]
  refine wX9_lineIn_9 ?_
  refine wX9_lineIn_10 ?_
  rw [nI_add]
  refine wX9_lineIn_11 hM.c (mX9_grown hM (by omega) ?_)
  refine wX9_lineIn_14 ?_
  exact hk
theorem mX9_roomOf {a : Nat} {M : q_Mo} {t : Nat} {w nt np nb : Nat} {P : Int32 → q_H → Option Nat → Prop} (hM : isM h a M) (hO : okM M w nt np nb) (ht : t < 4) (hk : P (r_room M.1 (m_r M) np w t) h z) : QMi V iX9_roomOf [.ref a, .int (nI t)] h z P Kx := by
  refine eX9_roomOf ?_
  refine wX9_roomOf_0 ?_
  refine wX9_roomOf_1 ?_
  refine wX9_roomOf_2 hM.c (mX9_capIn (x := 0) hM hO.1.2 (by have := hO.1.1; omega) (by decide) ?_)
  refine wX9_roomOf_5 ?_
  refine wX9_roomOf_6 ?_
  refine wX9_roomOf_7 ?_
  refine wX9_roomOf_8 hM.c (mX9_chargeOf (x := 0) hM hO ht (by decide) ?_)
  refine wX9_roomOf_11 ?_
  refine wX9_roomOf_12  ?_
  exact hk
theorem mX9_rosterOf {a : Nat} {M : q_Mo} {t : Nat} {w nt np nb : Nat} {P : Int32 → q_H → Option Nat → Prop} (hM : isM h a M) (hO : okM M w nt np nb) (hk : P (r_set (m_r M) t np) h z) : QMi V iX9_rosterOf [.ref a, .int (nI t)] h z P Kx := by
  have hnp := hO.2.2.1.1
  have hnn := hO.2.2.1.2
  refine eX9_rosterOf ?_
  refine wX9_rosterOf_0 ?_
  refine wX9_rosterOf_1 ?_
  refine wX9_rosterOf_2 ?_
  refine wX9_rosterOf_3 ?_
  refine q_for (P := fun k => QW V iX9_rosterOf 4 [some (.ref a), some (.int (nI t)), some (.int (r_set (m_r M) t k)), some (.int (nI k))] [] h z 0 0 (q_Ki P) Kx) np ?_ (fun k hkn ih => ?_)
  · refine wX9_rosterOf_4 ?_
    refine wX9_rosterOf_5 ?_
    refine wX9_rosterOf_6 hM.c ?_
    refine wX9_rosterOf_9 (fun c9 => ?_) (fun c9 => absurd (by rw [hnn]; exact nI_le (Nat.le_refl _) (by omega)) c9)
    refine wX9_rosterOf_38 ?_
    refine wX9_rosterOf_39  ?_
    exact hk
  · refine wX9_rosterOf_4 ?_
    refine wX9_rosterOf_5 ?_
    refine wX9_rosterOf_6 hM.c ?_
    refine wX9_rosterOf_9 (fun c9 => absurd c9 (by rw [hnn]; exact nI_ge hkn (by omega))) (fun c9 => ?_)
    refine wX9_rosterOf_12 ?_
    refine wX9_rosterOf_13 ?_
    refine wX9_rosterOf_14 ?_
    refine wX9_rosterOf_15 ?_
    refine wX9_rosterOf_16 hM.c (mX9_ofPlayer (w := 0) hM (show k < 24 by omega) (by decide) ?_)
    refine wX9_rosterOf_19 ?_
    refine wX9_rosterOf_20 (fun c20 => ?_) (fun c20 => ?_)
    · refine wX9_rosterOf_29 ?_
      refine wX9_rosterOf_30 ?_
      refine wX9_rosterOf_31 ?_
      refine wX9_rosterOf_32 ?_
      refine wX9_rosterOf_35 ?_
      refine q_ls ?_ ih
      rw [nI_1]
      first
        | (have q9 : r_op (m_r M) k 0 = nI t := c20; rw [r_set, if_pos q9]; try rfl)
        | (have q9 : ¬ r_op (m_r M) k 0 = nI t := c20; rw [r_set, if_neg q9]; try rfl)
    · refine wX9_rosterOf_23 ?_
      refine wX9_rosterOf_24 ?_
      refine wX9_rosterOf_25 ?_
      refine wX9_rosterOf_26 ?_
      refine wX9_rosterOf_30 ?_
      refine wX9_rosterOf_31 ?_
      refine wX9_rosterOf_32 ?_
      refine wX9_rosterOf_35 ?_
      refine q_ls ?_ ih
      rw [nI_1]
      first
        | (have q9 : r_op (m_r M) k 0 = nI t := c20; rw [r_set, if_pos q9]; try rfl)
        | (have q9 : ¬ r_op (m_r M) k 0 = nI t := c20; rw [r_set, if_neg q9]; try rfl)
theorem mX9_taxOn {a : Nat} {M : q_Mo} {ab : Int32} {rp : Bool} {w nt np nb : Nat} {P : Int64 → q_H → Option Nat → Prop} (hM : isM h a M) (hO : okM M w nt np nb) (hk : P (r_txo M nb ab rp) h z) : QMl V iX9_taxOn [.ref a, .int ab, .int (q_b rp)] h z P Kx := by
  have hnb := hO.2.2.2.1.1
  have hnn := hO.2.2.2.1.2
  have hj : ¬ ab ≤ 0 → QW V iX9_taxOn 23 [some (.ref a), some (.int ab), some (.int (q_b rp)), some (.long (r_lp (M.1 7) (M.2.2 3) (M.2.2 4) (if rp = true then ab.toInt64 else 0) ab 0).1), none, some (.int (r_lp (M.1 7) (M.2.2 3) (M.2.2 4) (if rp = true then ab.toInt64 else 0) ab 0).2), some (.int (nI 0)), none] [] h z 0 0 (q_Kl P) Kx := by
    intro q0
    refine q_for (P := fun k => QW V iX9_taxOn 23 [some (.ref a), some (.int ab), some (.int (q_b rp)), some (.long (r_lp (M.1 7) (M.2.2 3) (M.2.2 4) (if rp = true then ab.toInt64 else 0) ab k).1), none, some (.int (r_lp (M.1 7) (M.2.2 3) (M.2.2 4) (if rp = true then ab.toInt64 else 0) ab k).2), some (.int (nI k)), none] [] h z 0 0 (q_Kl P) Kx) nb ?_ (fun k hkn ih => ?_)
    · refine wX9_taxOn_23 ?_
      refine wX9_taxOn_25 ?_
      refine wX9_taxOn_26 hM.c ?_
      refine wX9_taxOn_29 (fun c29 => ?_) (fun c29 => absurd (by rw [hnn]; exact nI_le (Nat.le_refl _) (by omega)) c29)
      refine wX9_taxOn_94 ?_
      refine wX9_taxOn_95  ?_
      exact q_cv (by rw [r_txo, if_neg q0]) hk
    · refine wX9_taxOn_23 ?_
      refine wX9_taxOn_25 ?_
      refine wX9_taxOn_26 hM.c ?_
      refine wX9_taxOn_29 (fun c29 => absurd c29 (by rw [hnn]; exact nI_ge hkn (by omega))) (fun c29 => ?_)
      refine wX9_taxOn_32 ?_
      refine wX9_taxOn_34 ?_
      refine wX9_taxOn_35 hM.c ?_
      refine wX9_taxOn_38 ?_
      refine wX9_taxOn_39 ?_
      refine wX9_taxOn_40 (fun c40 => ?_) (fun c40 => ?_)
      · refine wX9_taxOn_48 ?_
        refine wX9_taxOn_50 ?_
        refine wX9_taxOn_51 hM.c ?_
        refine wX9_taxOn_54 ?_
        refine wX9_taxOn_56 hM.a3 rfl (by have := hnb; omega) (by decide) ?_
        refine wX9_taxOn_57 ?_
        refine wX9_taxOn_60 ?_
        refine wX9_taxOn_62 ?_
        refine wX9_taxOn_63 ?_
        refine wX9_taxOn_65 ?_
        refine wX9_taxOn_66 ?_
        refine wX9_taxOn_67 hM.c ?_
        refine wX9_taxOn_70 ?_
        refine wX9_taxOn_72 hM.a4 rfl (by have := hnb; omega) (by decide) ?_
        refine wX9_taxOn_73 ?_
        refine wX9_taxOn_74 ?_
        refine wX9_taxOn_75 ?_
        refine wX9_taxOn_78 (by decide) ?_
        refine wX9_taxOn_79 ?_
        refine wX9_taxOn_80 ?_
        refine wX9_taxOn_81 ?_
        refine wX9_taxOn_83 ?_
        refine wX9_taxOn_85 ?_
        refine wX9_taxOn_86 ?_
        refine wX9_taxOn_88 ?_
        refine wX9_taxOn_91 ?_
        refine q_drp 7 (q_ls ?_ ih)
        rw [nI_1]
        first
          | (have q9 : nI k = M.1 7 - 1 := c40; rw [r_lp, r_pt, if_pos q9]; try rfl)
          | (have q9 : ¬ nI k = M.1 7 - 1 := c40; rw [r_lp, r_pt, if_neg q9]; try rfl)
      · refine wX9_taxOn_43 ?_
        refine wX9_taxOn_45 ?_
        refine wX9_taxOn_60 ?_
        refine wX9_taxOn_62 ?_
        refine wX9_taxOn_63 ?_
        refine wX9_taxOn_65 ?_
        refine wX9_taxOn_66 ?_
        refine wX9_taxOn_67 hM.c ?_
        refine wX9_taxOn_70 ?_
        refine wX9_taxOn_72 hM.a4 rfl (by have := hnb; omega) (by decide) ?_
        refine wX9_taxOn_73 ?_
        refine wX9_taxOn_74 ?_
        refine wX9_taxOn_75 ?_
        refine wX9_taxOn_78 (by decide) ?_
        refine wX9_taxOn_79 ?_
        refine wX9_taxOn_80 ?_
        refine wX9_taxOn_81 ?_
        refine wX9_taxOn_83 ?_
        refine wX9_taxOn_85 ?_
        refine wX9_taxOn_86 ?_
        refine wX9_taxOn_88 ?_
        refine wX9_taxOn_91 ?_
        refine q_drp 7 (q_ls ?_ ih)
        rw [nI_1]
        first
          | (have q9 : nI k = M.1 7 - 1 := c40; rw [r_lp, r_pt, if_pos q9]; try rfl)
          | (have q9 : ¬ nI k = M.1 7 - 1 := c40; rw [r_lp, r_pt, if_neg q9]; try rfl)
  refine eX9_taxOn ?_
  refine wX9_taxOn_0 ?_
  refine wX9_taxOn_1 (fun c1 => ?_) (fun c1 => ?_)
  · refine wX9_taxOn_6 ?_
    refine wX9_taxOn_7 (fun c7 => ?_) (fun c7 => ?_)
    · refine wX9_taxOn_15 ?_
      refine wX9_taxOn_16 ?_
      refine wX9_taxOn_17 ?_
      refine wX9_taxOn_18 ?_
      refine wX9_taxOn_20 ?_
      refine wX9_taxOn_21 ?_
      first
        | (have q9 := q_b0 c7; subst q9; exact hj (Int32.not_le.mpr c1))
        | (have q9 := q_b1 c7; subst q9; exact hj (Int32.not_le.mpr c1))
        | (have q9 := q_b0 c7; subst q9; exact hj c1)
        | (have q9 := q_b1 c7; subst q9; exact hj c1)
    · refine wX9_taxOn_10 ?_
      refine wX9_taxOn_11 ?_
      refine wX9_taxOn_12 ?_
      refine wX9_taxOn_16 ?_
      refine wX9_taxOn_17 ?_
      refine wX9_taxOn_18 ?_
      refine wX9_taxOn_20 ?_
      refine wX9_taxOn_21 ?_
      first
        | (have q9 := q_b0 c7; subst q9; exact hj (Int32.not_le.mpr c1))
        | (have q9 := q_b1 c7; subst q9; exact hj (Int32.not_le.mpr c1))
        | (have q9 := q_b0 c7; subst q9; exact hj c1)
        | (have q9 := q_b1 c7; subst q9; exact hj c1)
  · refine wX9_taxOn_4 ?_
    refine wX9_taxOn_5  ?_
    first
      | (have q9 : ab ≤ 0 := c1; exact q_cv (by rw [r_txo, if_pos q9]) hk)
      | (have q9 : ab ≤ 0 := Int32.not_lt.mp c1; exact q_cv (by rw [r_txo, if_pos q9]) hk)
theorem mX9_aboveLine {a : Nat} {M : q_Mo} {t x : Nat} {w nt np nb : Nat} {P : Int32 → q_H → Option Nat → Prop} (hM : isM h a M) (hO : okM M w nt np nb) (ht : t < 4) (hx : x < 1000) (hk : P (r_ab M.1 (m_r M) np w t x) h z) : QMi V iX9_aboveLine [.ref a, .int (nI t), .int (nI x)] h z P Kx := by
  refine eX9_aboveLine ?_
  refine wX9_aboveLine_0 ?_
  refine wX9_aboveLine_1 ?_
  refine wX9_aboveLine_2 ?_
  refine wX9_aboveLine_3 hM.c (mX9_chargeOf hM hO ht hx ?_)
  refine wX9_aboveLine_6 ?_
  refine wX9_aboveLine_7 ?_
  refine wX9_aboveLine_8 hM.c (mX9_lineIn hM hO.1.2 (by have := hO.1.1; omega) hx ?_)
  refine wX9_aboveLine_11 ?_
  refine wX9_aboveLine_12  ?_
  exact hk
theorem mX9_taxedOf {a : Nat} {M : q_Mo} {t : Nat} {P : Int32 → q_H → Option Nat → Prop} (hM : isM h a M) (ht : t < 4) (hk : P ((r_ot (m_r M) t 1).toInt32) h z) : QMi V iX9_taxedOf [.ref a, .int (nI t)] h z P Kx := by
  refine eX9_taxedOf ?_
  refine wX9_taxedOf_0 ?_
  refine wX9_taxedOf_1 ?_
  refine wX9_taxedOf_2 ?_
  refine wX9_taxedOf_3 hM.c (mX9_ofTeam (w := 1) hM ht (by decide) ?_)
  refine wX9_taxedOf_6 ?_
  refine wX9_taxedOf_7  ?_
  exact hk
theorem mX9_taxOf {a : Nat} {M : q_Mo} {t : Nat} {w nt np nb : Nat} {P : Int64 → q_H → Option Nat → Prop} (hM : isM h a M) (hO : okM M w nt np nb) (ht : t < 4) (hk : P (r_tax M nb np w t) h z) : QMl V iX9_taxOf [.ref a, .int (nI t)] h z P Kx := by
  refine eX9_taxOf ?_
  refine wX9_taxOf_0 ?_
  refine wX9_taxOf_1 ?_
  refine wX9_taxOf_2 ?_
  refine wX9_taxOf_3 ?_
  refine wX9_taxOf_4 hM.c (mX9_aboveLine (x := 0) hM hO ht (by decide) ?_)
  refine wX9_taxOf_7 ?_
  refine wX9_taxOf_8 ?_
  refine wX9_taxOf_9 hM.c (mX9_taxedOf hM ht ?_)
  refine wX9_taxOf_12 ?_
  refine wX9_taxOf_13 hM.c (mX9_now hM ?_)
  refine wX9_taxOf_16 (mX9_isRepeatedN (y := w) (by have := hO.1.1; omega) hO.1.2 ?_)
  refine wX9_taxOf_19 hM.c (mX9_taxOn hM hO ?_)
  refine wX9_taxOf_22  ?_
  exact hk
theorem mX9_firstShare {a : Nat} {M : q_Mo}  {P : Int32 → q_H → Option Nat → Prop} (hM : isM h a M) (hn : ¬ r_oo (m_r M) 2 = 0) (hk : P (r_fs (m_r M)) h z) : QMi V iX9_firstShare [.ref a] h z P Kx := by
  refine eX9_firstShare ?_
  refine wX9_firstShare_0 ?_
  refine wX9_firstShare_1 ?_
  refine wX9_firstShare_2 hM.c (mX9_ofOffer (w := 3) hM (by decide) ?_)
  refine wX9_firstShare_5 ?_
  refine wX9_firstShare_6 ?_
  refine wX9_firstShare_7 hM.c (mX9_ofOffer (w := 2) hM (by decide) ?_)
  refine wX9_firstShare_10 ?_
  refine wX9_firstShare_11 (mX9_shareBy hn ?_)
  refine wX9_firstShare_14  ?_
  exact hk
theorem mX9_firstCost {a : Nat} {M : q_Mo}  {P : Int32 → q_H → Option Nat → Prop} (hM : isM h a M) (hn : ¬ r_oo (m_r M) 2 = 0) (hk : P (r_fc (m_r M)) h z) : QMi V iX9_firstCost [.ref a] h z P Kx := by
  refine eX9_firstCost ?_
  refine wX9_firstCost_0 ?_
  refine wX9_firstCost_1 ?_
  refine wX9_firstCost_2 hM.c (mX9_ofOffer (w := 0) hM (by decide) ?_)
  refine wX9_firstCost_5 ?_
  refine wX9_firstCost_6 hM.c (mX9_firstShare hM hn ?_)
  refine wX9_firstCost_9 ?_
  refine wX9_firstCost_10  ?_
  exact hk
end CX9a
