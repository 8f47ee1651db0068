/-! Trades on both sides -/
section REL8
theorem b_mv_tail {B : q_Bk} {s : Int32} {f : Nat} {t : Int32} {m n : Nat} (hm : m ≤ n) (h : ∀ k, m ≤ k → k < n → q_bit s k = false) : b_mv B s f t n = b_mv B s f t m := by
  induction n with
  | zero => have : m = 0 := by omega
            rw [this]
  | succ n ih =>
    by_cases e : m = n + 1
    · rw [e]
    · rw [b_mv, h n (by omega) (by omega), if_neg (by decide)]; exact ih (by omega) (fun k h1 h2 => h k h1 (by omega))
theorem b_mv_t {B : q_Bk} {s : Int32} {f : Nat} {t : Int32} {j : Nat} (hj : ¬ j = f) (k : Nat) : b_t (b_mv B s f t k) j = b_t B j := by
  induction k with
  | zero => rfl
  | succ k ih =>
    rw [b_mv]
    cases q_bit s k
    · rw [if_neg (by decide)]; exact ih
    · rw [if_pos rfl]
      show (if j = f then _ else b_t (b_mv B s f t k) j) = _
      rw [if_neg hj]; exact ih
theorem b_mv_in {B : q_Bk} {s : Int32} {f w : Nat} {t : Int32} (hw : w < 27) (ew : b_w B = nI w) (k : Nat) : t_in (b_t (b_mv B s f t k) f) (nI w) = q_ac (t_in (b_t B f) (nI w)) (fun k => if q_bit s k = true then pl_sl (b_p B k) (nI w) else 0) k := by
  induction k with
  | zero => rfl
  | succ k ih =>
    rw [b_mv, q_ac, ← ih]
    cases hb : q_bit s k
    · rw [if_neg (by decide), if_neg (by decide), Int32.add_zero]
    · rw [if_pos rfl, if_pos rfl]
      show t_in (if f = f then t_add (b_t (b_mv B s f t k) f) (b_w B) (pl_sl (b_p (b_mv B s f t k) k) (b_w B)) else b_t (b_mv B s f t k) f) (nI w) = _
      rw [if_pos rfl, ew, b_mv_p, if_neg (fun z => absurd z.1 (by omega)), t_add_w hw]
      unfold t_in
      rw [if_neg (fun z => z.elim (nI_pos (by omega)) (fun z => (nI_ge (a := w) (b := 27) (by omega) (by decide)) z)), if_neg (fun z => z.elim (nI_pos (by omega)) (fun z => (nI_ge (a := w) (b := 27) (by omega) (by decide)) z)), nI_clamp (by omega)]
      exact if_pos rfl
/-- what is moved stands on the team's set -/
theorem q_sub_p {B : q_Bk} {s : Int32} {j : Nat} (h : s &&& (b_set B (nI j) 24 ^^^ -1) = 0) : (∀ k, k < 24 → q_bit s k = true → p_t (b_p B k) = nI j) ∧ q_T s < 16777216 := by
  refine ⟨fun k hk hb => ?_, q_T_24 (fun i h1 h2 => ?_)⟩
  · have := q_sub_v h (by omega) hb
    rw [b_set_v (by decide) (by omega), decide_eq_true hk, Bool.true_and] at this
    exact of_decide_eq_true this
  · cases hb : s.toBitVec.getLsbD i
    · rfl
    · have := q_sub_v h h2 (by rw [q_bitv h2]; exact hb)
      rw [b_set_v (by decide) h2, decide_eq_false (by omega)] at this
      cases this
theorem r_ty_cn {s : Int32} (n : Nat) (hn : n ≤ 24) : r_ty s n = nI (q_cn s n) := by
  induction n with
  | zero => rfl
  | succ n ih =>
    have ih := ih (by omega)
    unfold r_ty at ih ⊢
    rw [q_ac, ih, q_bit_01 (by omega), q_cn]
    split
    · rw [show (1 : Int32) = nI 1 from rfl, nI_add]
    · rw [Int32.add_zero]; rfl
theorem q_cn_le {s : Int32} (k : Nat) : q_cn s k ≤ k := by
  induction k with
  | zero => exact Nat.le_refl 0
  | succ k ih => rw [q_cn]; split <;> omega
theorem q_cn_4 {a b x y : Int32} (n : Nat) (h : ∀ k, k < n → (if q_bit a k = true then 1 else 0) + (if q_bit b k = true then 1 else 0) = (if q_bit x k = true then 1 else 0) + (if q_bit y k = true then 1 else 0 : Nat)) : q_cn a n + q_cn b n = q_cn x n + q_cn y n := by
  induction n with
  | zero => rfl
  | succ n ih =>
    have h1 := ih (fun k hk => h k (by omega))
    have h2 := h n (by omega)
    rw [q_cn, q_cn, q_cn, q_cn]; omega
theorem q_cn_2 {a b : Int32} (n : Nat) (h : ∀ k, k < n → q_bit a k = true → q_bit b k = true) : q_cn a n ≤ q_cn b n := by
  induction n with
  | zero => exact Nat.le_refl 0
  | succ n ih =>
    have h1 := ih (fun k hk => h k (by omega))
    rw [q_cn, q_cn]
    cases hb : q_bit a n
    · rw [if_neg (by decide)]; omega
    · rw [if_pos rfl, if_pos (h n (by omega) hb)]; omega
section
variable {B : q_Bk} {j m : Nat} {s v : Int32}
/-- the players behind a trade -/
theorem l_mv_p (hs : ∀ k, k < 24 → q_bit s k = true → p_t (b_p B k) = nI j) (hv : ∀ k, k < 24 → q_bit v k = true → p_t (b_p B k) = nI m) (hjm : ¬ j = m) (hj : j < 4) (hm : m < 4) {k : Nat} (hk : k < 24) :
    b_p (l_mv B j m s v) k = (if q_bit v k = true then pl_mv (b_p B k) (nI j) else if q_bit s k = true then pl_mv (b_p B k) (nI m) else b_p B k) ∧ ¬ (q_bit s k = true ∧ q_bit v k = true) := by
  have hx : ¬ (q_bit s k = true ∧ q_bit v k = true) := fun z => hjm (nI_inj (by omega) (by omega) ((hs k hk z.1).symm.trans (hv k hk z.2)))
  refine ⟨?_, hx⟩
  unfold l_mv
  rw [b_mv_p, b_mv_p]
  by_cases e1 : q_bit v k = true
  · rw [if_pos ⟨hk, e1⟩, if_pos e1, if_neg (fun z => hx ⟨z.2, e1⟩)]
  · rw [if_neg (fun z => e1 z.2), if_neg e1]
    by_cases e2 : q_bit s k = true
    · rw [if_pos ⟨hk, e2⟩, if_pos e2]
    · rw [if_neg (fun z => e2 z.2), if_neg e2]
theorem l_mv_plf (hs : ∀ k, k < 24 → q_bit s k = true → p_t (b_p B k) = nI j) (hv : ∀ k, k < 24 → q_bit v k = true → p_t (b_p B k) = nI m) (hjm : ¬ j = m) (hj : j < 4) (hm : m < 4) {k : Nat} (hk : k < 24) (t : Nat) (ht : t < 4) :
    b_plf (l_mv B j m s v) k (nI t) = (if q_bit v k = true then decide (j = t) else if q_bit s k = true then decide (m = t) else b_plf B k (nI t)) := by
  have h1 := (l_mv_p hs hv hjm hj hm hk).1
  unfold b_plf
  rw [h1]
  split
  · exact decide_eq_decide.mpr ⟨fun z => nI_inj (by omega) (by omega) z, fun z => by rw [z]; rfl⟩
  · split
    · exact decide_eq_decide.mpr ⟨fun z => nI_inj (by omega) (by omega) z, fun z => by rw [z]; rfl⟩
    · rfl
theorem l_mv_cn (hs : ∀ k, k < 24 → q_bit s k = true → p_t (b_p B k) = nI j) (hv : ∀ k, k < 24 → q_bit v k = true → p_t (b_p B k) = nI m) (hjm : ¬ j = m) (hj : j < 4) (hm : m < 4) :
    q_cn (b_set (l_mv B j m s v) (nI j) 24) 24 + q_cn s 24 = q_cn (b_set B (nI j) 24) 24 + q_cn v 24 ∧ q_cn (b_set (l_mv B j m s v) (nI m) 24) 24 + q_cn v 24 = q_cn (b_set B (nI m) 24) 24 + q_cn s 24 ∧
    (∀ t, t < 4 → ¬ t = j → ¬ t = m → q_cn (b_set (l_mv B j m s v) (nI t) 24) 24 = q_cn (b_set B (nI t) 24) 24) ∧ q_cn s 24 ≤ q_cn (b_set B (nI j) 24) 24 ∧ q_cn v 24 ≤ q_cn (b_set B (nI m) 24) 24 := by
  have hpl : ∀ k, k < 24 → ∀ t, t < 4 → ∀ i, i < 4 → p_t (b_p B k) = nI i → b_plf B k (nI t) = decide (i = t) := fun k hk t ht i hi e => by
    unfold b_plf; rw [e]; exact decide_eq_decide.mpr ⟨fun z => nI_inj (by omega) (by omega) z, fun z => by rw [z]⟩
  refine ⟨q_cn_4 24 (fun k hk => ?_), q_cn_4 24 (fun k hk => ?_), fun t ht h1 h2 => ?_, q_cn_2 24 (fun k hk hb => ?_), q_cn_2 24 (fun k hk hb => ?_)⟩
  · rw [b_set_bit hk, b_set_bit hk, l_mv_plf hs hv hjm hj hm hk j hj]
    have hx := (l_mv_p hs hv hjm hj hm hk).2
    cases e1 : q_bit v k
    · cases e2 : q_bit s k
      · rfl
      · rw [hpl k hk j hj j hj (hs k hk e2), decide_eq_true rfl, decide_eq_false (fun z => hjm z.symm)]; rfl
    · cases e2 : q_bit s k
      · rw [hpl k hk j hj m hm (hv k hk e1), decide_eq_true rfl, decide_eq_false (fun z => hjm z.symm)]; rfl
      · exact absurd ⟨e2, e1⟩ hx
  · rw [b_set_bit hk, b_set_bit hk, l_mv_plf hs hv hjm hj hm hk m hm]
    have hx := (l_mv_p hs hv hjm hj hm hk).2
    cases e1 : q_bit v k
    · cases e2 : q_bit s k
      · rfl
      · rw [hpl k hk m hm j hj (hs k hk e2), decide_eq_true rfl, decide_eq_false hjm]; rfl
    · cases e2 : q_bit s k
      · rw [hpl k hk m hm m hm (hv k hk e1), decide_eq_true rfl, decide_eq_false hjm]; rfl
      · exact absurd ⟨e2, e1⟩ hx
  · have := q_cn_4 (a := b_set (l_mv B j m s v) (nI t) 24) (b := 0) (x := b_set B (nI t) 24) (y := 0) 24 (fun k hk => by
      rw [b_set_bit hk, b_set_bit hk, l_mv_plf hs hv hjm hj hm hk t ht]
      cases e1 : q_bit v k
      · cases e2 : q_bit s k
        · rfl
        · rw [hpl k hk t ht j hj (hs k hk e2), decide_eq_false (show ¬ j = t from fun z => h1 z.symm), decide_eq_false (show ¬ m = t from fun z => h2 z.symm)]; rfl
      · rw [hpl k hk t ht m hm (hv k hk e1), decide_eq_false (show ¬ j = t from fun z => h1 z.symm), decide_eq_false (show ¬ m = t from fun z => h2 z.symm)]; rfl)
    omega
  · rw [b_set_bit hk]; exact decide_eq_true (hs k hk hb)
  · rw [b_set_bit hk]; exact decide_eq_true (hv k hk hb)
/-- the books behind a trade that keeps the sizes -/
theorem RB.tr {r : Nat → Int64} {w nt np c : Nat} (h : RB B r w nt np c) (hc : c ≤ 600) (hs : ∀ k, k < 24 → q_bit s k = true → p_t (b_p B k) = nI j) (hv : ∀ k, k < 24 → q_bit v k = true → p_t (b_p B k) = nI m) (hjm : ¬ j = m) (hj : j < nt) (hm : m < nt)
    (hn1 : q_cn (b_set (l_mv B j m s v) (nI j) 24) 24 ≤ 12) (hn2 : q_cn (b_set (l_mv B j m s v) (nI m) 24) 24 ≤ 12) : RB (l_mv B j m s v) (r_tr2 r w np j s m v) w nt np (c + 1) := by
  have hnt := h.1.2.2.2.1
  have hnp := h.1.2.2.2.2
  have hj4 : j < 4 := by omega
  have hm4 : m < 4 := by omega
  obtain ⟨c1, c2, c3, c4, c5⟩ := l_mv_cn hs hv hjm hj4 hm4
  have cnB : ∀ t, t < 4 → q_cn (b_set B (nI t) 24) 24 ≤ 12 := fun t ht => by
    obtain ⟨n, hn, en⟩ := h.2.2.2.2.2 t ht
    rw [q_bc_ty b_set_24, r_ty_cn 24 (by omega)] at en
    have := nI_inj (by have := q_cn_le (s := b_set B (nI t) 24) 24; omega) (by omega) en
    omega
  have hs0 : ∀ k, np ≤ k → k < 24 → q_bit s k = false := fun k h1 h2 => by
    cases hb : q_bit s k
    · rfl
    · exact absurd (h.on h2 hj4 (hs k h2 hb)).1 (by omega)
  have hv0 : ∀ k, np ≤ k → k < 24 → q_bit v k = false := fun k h1 h2 => by
    cases hb : q_bit v k
    · rfl
    · exact absurd (h.on h2 hm4 (hv k h2 hb)).1 (by omega)
  have b1 := cnB j hj4
  have b2 := cnB m hm4
  have cb : ∀ x : Int32, q_cn x np ≤ q_cn x 24 := fun x => by
    have : ∀ d, q_cn x np ≤ q_cn x (np + d) := fun d => by
      induction d with
      | zero => exact Nat.le_refl _
      | succ d ih => rw [← Nat.add_assoc, q_cn]; omega
    have := this (24 - np)
    rwa [Nat.add_sub_cancel' hnp] at this
  have cs := cb s
  have cv := cb v
  have m1 := h.d.mv (s := s) (f := j) (t := m) hj4 hm hs (by omega) np hnp
  have m2 := m1.mv (s := v) (f := m) (t := j) hm4 hj (fun k hk hb => by
    rw [b_mv_p, if_neg (fun z => hjm (nI_inj (by omega) (by omega) ((hs k hk z.2).symm.trans (hv k hk hb))))]; exact hv k hk hb) (by rw [if_neg (fun z => hjm z.symm)]; omega) np hnp
  have e1 : b_mv (b_mv B s j (nI m) np) v m (nI j) np = l_mv B j m s v := by
    unfold l_mv
    rw [b_mv_tail (n := 24) hnp hs0, b_mv_tail (n := 24) hnp hv0]
  rw [e1] at m2
  refine m2.b (fun t ht => ?_) (fun t ht => ?_)
  · by_cases q1 : t = m
    · rw [if_pos q1, if_neg (fun z => hjm (z.symm.trans q1))]; omega
    · rw [if_neg q1]
      by_cases q2 : t = j
      · rw [if_pos q2]; omega
      · rw [if_neg q2]; omega
  · have key : q_cn (b_set (l_mv B j m s v) (nI t) 24) 24 ≤ 12 := by
      by_cases q1 : t = m
      · rw [q1]; exact hn2
      · by_cases q2 : t = j
        · rw [q2]; exact hn1
        · rw [c3 t ht q2 q1]; exact cnB t ht
    exact ⟨_, key, by rw [q_bc_ty b_set_24, r_ty_cn 24 (by omega)]⟩
end
end REL8
