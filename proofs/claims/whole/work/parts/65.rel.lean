/-! The class's books beside the reference's row: what both say of players, teams, sums -/
section REL
def RP (P : q_Pl) (r : Nat → Int64) (i w nt np : Nat) : Prop :=
  r_op r i 0 = p_t P ∧ r_op r i 1 = p_l P ∧ r_op r i 2 = p_n P ∧
  (pl_has P = true → i < np ∧ (∃ j, j < nt ∧ p_t P = nI j) ∧ (r_op r i 3 = d_b (p_d P) ∧ r_op r i 4 = d_r (p_d P) ∧ r_op r i 5 = d_n (p_d P) ∧ r_op r i 7 = d_g (p_d P) ∧ r_op r i 8 = p_s P) ∧
    ((r_op r i 9 = 1 ∧ r_op r i 6 = d_s (p_d P)) ∨ (r_op r i 9 = 0 ∧ d_s (p_d P) = 0)) ∧ okD (p_d P) ∧ ∃ s l, p_s P = nI s ∧ d_n (p_d P) = nI l ∧ s ≤ w ∧ w < s + l ∧ l ≤ 5)
def RTm (T : q_Tm) (r : Nat → Int64) (t w c : Nat) : Prop :=
  (∀ y, y < 27 → (r_ot r t (3 + y)).toInt32 = t_d T y ∧ 0 ≤ (t_d T y).toInt ∧ (t_d T y).toInt ≤ (c : Int) * 1300000) ∧ r_ot r t 0 = (t_m T).toInt64 ∧ (0 ≤ t_m T ∧ t_m T ≤ 99999) ∧
  r_ot r t 1 = (t_x T).toInt64 ∧ q_T (t_x T) < 2 ^ w ∧ r_ot r t 2 = t_p T
def RB (B : q_Bk) (r : Nat → Int64) (w nt np c : Nat) : Prop :=
  (w ≤ 15 ∧ r_nw r = nI w ∧ b_w B = nI w ∧ nt ≤ 4 ∧ np ≤ 24) ∧ (∀ i, i < 24 → RP (b_p B i) r i w nt np) ∧ (∀ t, t < 4 → RTm (b_t B t) r t w c) ∧
  (r_oo r 0 = d_b (b_o B) ∧ r_oo r 1 = d_r (b_o B) ∧ r_oo r 2 = d_n (b_o B) ∧ r_oo r 3 = d_s (b_o B) ∧ r_oo r 4 = d_g (b_o B)) ∧ okD (b_o B) ∧ ∀ j, j < 4 → ∃ n, n ≤ 12 ∧ q_bc (b_set B (nI j) 24) = nI n
theorem okD_n {d : q_Dl} (h : okD d) : ∃ l g : Nat, d_n d = nI l ∧ 1 ≤ l ∧ l ≤ 5 ∧ d_g d = nI g ∧ g ≤ l := by
  obtain ⟨l, hl, el⟩ := nI_of2 (M := 5) (n := 5) rfl (fun q => absurd (Int32.lt_of_le_of_lt h.2.2.1.1 q) (by decide)) h.2.2.1.2
  obtain ⟨g, hg, eg⟩ := nI_of2 (M := d_n d) (n := l) (by rw [el]; exact nI_toInt (by omega)) (fun q => absurd (Int32.lt_of_le_of_lt h.2.2.2.2.1 q) (by decide)) h.2.2.2.2.2
  refine ⟨l, g, el, Nat.pos_of_ne_zero (fun e => ?_), hl, eg, hg⟩
  have := h.2.2.1.1
  rw [el, e] at this
  exact absurd this (by decide)
theorem nI_neg1 {k : Nat} (hk : k < 2147483648) : ¬ nI k = -1 := fun e => nI_pos hk (by rw [e]; decide)
section
variable {P : q_Pl} {r : Nat → Int64} {i w nt np : Nat}
theorem RP.has (h : RP P r i w nt np) : r_has r i = pl_has P := by unfold r_has pl_has; rw [h.1]
theorem RP.no (h : RP P r i w nt np) (hn : pl_has P = false) (x : Int32) : r_yn r i x = -1 := by
  unfold r_yn; rw [if_neg (fun q => by rw [h.has, hn] at q; cases q.1)]
/-- the years' number -/
theorem RP.yn (h : RP P r i w nt np) (hw : r_nw r = nI w) (hw15 : w ≤ 15) (hh : pl_has P = true) {s l : Nat} (es : p_s P = nI s) (el : d_n (p_d P) = nI l) (hs : s ≤ w) (hl5 : l ≤ 5) {y : Nat} (hy : y < 1000) : r_yn r i (nI y) = if w - s + y < l then nI (w - s + y) else -1 := by
  obtain ⟨-, -, ⟨-, -, h5, -, h8⟩, -, -, -⟩ := h.2.2.2 hh
  have e1 : r_nw r - r_op r i 8 + nI y = nI (w - s + y) := by rw [hw, h8, es, nI_sb hs, nI_add]
  unfold r_yn
  rw [e1, h5, el]
  by_cases q : w - s + y < l
  · rw [if_pos q, if_pos ⟨h.has.trans hh, nI_lti (by omega) q⟩]
  · rw [if_neg q, if_neg (fun z => q (nI_lto (by omega) z.2))]
theorem nI_wy (w y s : Nat) (hs : s ≤ w) : nI w + nI y - nI s = nI (w - s + y) := by
  rw [nI_add, nI_sb (by omega)]; congr 1; omega
theorem RP.sl (h : RP P r i w nt np) (hw : r_nw r = nI w) (hw15 : w ≤ 15) {y : Nat} (hy : y < 1000) : r_sl r i (nI y) = pl_sal P (nI w + nI y) := by
  cases hh : pl_has P
  · unfold r_sl pl_sal; rw [if_pos (h.no hh _), hh, if_neg (by decide)]
  · obtain ⟨-, -, ⟨h3, h4, h5, -, h8⟩, -, -, s, l, es, el, hs, hwl, hl5⟩ := h.2.2.2 hh
    have yn := h.yn hw hw15 hh es el hs hl5 hy
    unfold r_sl pl_sal d_sal
    rw [hh, if_pos rfl, yn, es, nI_wy w y s hs, el]
    by_cases q : w - s + y < l
    · rw [if_pos q, if_neg (nI_neg1 (by omega)), if_neg (fun z => z.elim (nI_pos (by omega)) (fun z => z (nI_lti (by omega) q))), h3, h4]; rfl
    · rw [if_neg q, if_pos rfl, if_pos (Or.inr (fun z => q (nI_lto (by omega) z)))]
theorem q_part_shb {x y n : Int32} : r_shb x y n = q_part x y n := by
  unfold r_shb q_part
  by_cases q : n < x - x / y * y
  · rw [if_pos q, if_neg (Int32.not_le.mpr q)]
  · rw [if_neg q, if_pos (Int32.not_lt.mp q)]
theorem q_part_0 : ∀ l, l < 12 → 1 ≤ l → ∀ k, k < 11 → q_part 0 (nI l) (nI k) = 0 := by decide
theorem RP.sh (h : RP P r i w nt np) (hw : r_nw r = nI w) (hw15 : w ≤ 15) {y : Nat} (hy : y < 1000) : r_sh r i (nI y) = pl_shr P (nI w + nI y) := by
  cases hh : pl_has P
  · unfold r_sh pl_shr; rw [if_pos (Or.inl (h.no hh _)), hh, if_neg (by decide)]
  · obtain ⟨-, -, ⟨h3, h4, h5, -, h8⟩, h9, -, s, l, es, el, hs, hwl, hl5⟩ := h.2.2.2 hh
    have yn := h.yn hw hw15 hh es el hs hl5 hy
    unfold r_sh pl_shr d_shr
    rw [hh, if_pos rfl, yn, es, nI_wy w y s hs, h5, el]
    by_cases q : w - s + y < l
    · rw [if_pos q, if_neg (fun z : _ ∨ _ => z.elim (nI_pos (by omega)) (fun z => z (nI_lti (by omega) q)))]
      rcases h9 with ⟨k9, k6⟩ | ⟨k9, k6⟩
      · rw [if_neg (fun z => z.elim (nI_neg1 (by omega)) (fun z => by rw [k9] at z; exact absurd z (by decide))), k6, q_part_shb]
      · rw [if_pos (Or.inr k9), k6, q_part_0 l (by omega) (by omega) _ (by omega)]
    · rw [if_neg q, if_pos (Or.inl rfl), if_pos (Or.inr (fun z => q (nI_lto (by omega) z)))]
theorem RP.cost (h : RP P r i w nt np) (hw : r_nw r = nI w) (hw15 : w ≤ 15) {y : Nat} (hy : y < 1000) : r_sl r i (nI y) + r_sh r i (nI y) = pl_cost P (nI w + nI y) := by
  rw [h.sl hw hw15 hy, h.sh hw hw15 hy]
  unfold pl_sal pl_shr pl_cost
  cases pl_has P <;> rfl
theorem RP.cost0 (h : RP P r i w nt np) (hw : r_nw r = nI w) (hw15 : w ≤ 15) : r_cost r i = pl_cost P (nI w) := by
  have := h.cost hw hw15 (y := 0) (by omega)
  rw [show nI w + nI 0 = nI w from Int32.add_zero _] at this
  exact this
theorem q_ac_tail {f : Nat → Int32} {i : Int32} {m n : Nat} (h : ∀ x, m ≤ x → x < n → f x = 0) (hm : m ≤ n) : q_ac i f n = q_ac i f m := by
  induction n with
  | zero => have : m = 0 := by omega
            rw [this]
  | succ n ih =>
    by_cases e : m = n + 1
    · rw [e]
    · rw [q_ac, ih (fun x h1 h2 => h x h1 (by omega)) (by omega), h n (by omega) (by omega), Int32.add_zero]
theorem q_sm_ac {f : Int32 → Int32} {n : Int32} (m : Nat) : q_sm f n m = q_ac 0 (fun i => f (n + nI i)) m := by
  induction m with
  | zero => rfl
  | succ m ih => rw [q_sm, q_ac, ih]
theorem d_ct_nI {k l : Nat} (hk : k < 2147483648) (hl : l < 2147483648) : d_ct (nI k) (nI l) = l - k := by
  unfold d_ct; rw [nI_toInt hk, nI_toInt hl]; omega
/-- the shares still due -/
theorem RP.sf (h : RP P r i w nt np) (hw : r_nw r = nI w) (hw15 : w ≤ 15) : r_sf r i = pl_sl P (nI w) := by
  cases hh : pl_has P
  · unfold r_sf pl_sl
    rw [hh, if_neg (by decide)]
    refine (q_ac_tail (m := 0) (fun x _ hx => ?_) (by omega)).trans rfl
    unfold r_sh; rw [if_pos (Or.inl (h.no hh _))]
  · obtain ⟨-, -, -, -, -, s, l, es, el, hs, hwl, hl5⟩ := h.2.2.2 hh
    unfold r_sf pl_sl d_sf
    rw [hh, if_pos rfl, es, el, nI_sb hs, d_ct_nI (by omega) (by omega), q_sm_ac]
    rw [q_ac_tail (m := l - (w - s)) (fun x h1 h2 => ?_) (by omega)]
    · refine q_ac_c (fun x hx => ?_)
      rw [h.sh hw hw15 (by omega)]
      unfold pl_shr
      rw [hh, if_pos rfl, es, nI_wy w x s hs, nI_add]
    · rw [h.sh hw hw15 (by omega)]
      unfold pl_shr d_shr
      rw [hh, if_pos rfl, es, nI_wy w x s hs, el, if_pos (Or.inr (fun z => by have := nI_lto (by omega) z; omega))]
end
section
variable {B : q_Bk} {r : Nat → Int64} {w nt np c : Nat}
theorem RB.p (h : RB B r w nt np c) {i : Nat} (hi : i < 24) : RP (b_p B i) r i w nt np := h.2.1 i hi
theorem RB.dd (h : RB B r w nt np c) {t x : Nat} (ht : t < 4) (hx : x < 12) : r_dd r w t x = t_in (b_t B t) (nI w + nI x) := by
  have hw := h.1.1
  unfold r_dd t_in
  rw [if_pos (by omega), nI_add, if_neg (fun z => z.elim (nI_pos (by omega)) (fun z => (nI_ge (a := w + x) (b := 27) (by omega) (by decide)) z)), nI_clamp (by omega)]
  exact ((h.2.2.1 t ht).1 (w + x) (by omega)).1
/-- who is with a team stands below the number of players -/
theorem RB.on (h : RB B r w nt np c) {i t : Nat} (hi : i < 24) (ht : t < 4) (e : p_t (b_p B i) = nI t) : i < np ∧ pl_has (b_p B i) = true := by
  have hh : pl_has (b_p B i) = true := decide_eq_true (by rw [e]; exact nI_neg1 (by omega))
  exact ⟨((h.p hi).2.2.2 hh).1, hh⟩
theorem RB.ch (h : RB B r w nt np c) {t x : Nat} (ht : t < 4) (hx : x < 12) : r_ch r np w t x = b_ch B t (nI w + nI x) := by
  unfold r_ch b_ch
  rw [h.dd ht hx]
  have hnp := h.1.2.2.2.2
  rw [q_ac_tail (m := np) (n := 24) (f := fun k => if b_plf B k (nI t) = true then pl_cost (b_p B k) (nI w + nI x) else 0) (fun k h1 h2 => ?_) hnp]
  · refine q_ac_c (fun k hk => ?_)
    rw [(h.p (show k < 24 by omega)).cost h.1.2.1 h.1.1 (by omega), (h.p (show k < 24 by omega)).1]
    unfold b_plf
    by_cases e : p_t (b_p B k) = nI t
    · rw [if_pos e, if_pos (decide_eq_true e)]
    · rw [if_neg e, if_neg (fun z => e (of_decide_eq_true z))]
  · rw [if_neg (fun z => by have := (h.on h2 ht (of_decide_eq_true z)).1; omega)]
theorem RB.ch0 (h : RB B r w nt np c) {t : Nat} (ht : t < 4) : r_ch r np w t 0 = b_ch B t (b_w B) := by
  rw [h.ch ht (by omega), h.1.2.2.1, show nI w + nI 0 = nI w from Int32.add_zero _]
theorem r_set_tail {t n m : Nat} (hm : m ≤ n) (h : ∀ k, m ≤ k → k < n → ¬ r_op r k 0 = nI t) : r_set r t n = r_set r t m := by
  induction n with
  | zero => have : m = 0 := by omega
            rw [this]
  | succ n ih =>
    by_cases e : m = n + 1
    · rw [e]
    · rw [r_set, ih (by omega) (fun k h1 h2 => h k h1 (by omega)), if_neg (h n (by omega) (by omega)), Int32.or_zero]
theorem RB.set (h : RB B r w nt np c) {t : Nat} (ht : t < 4) : r_set r t np = b_set B (nI t) 24 := by
  rw [← r_set_tail (n := 24) h.1.2.2.2.2 (fun k h1 h2 e => by
    rw [(h.p h2).1] at e
    have := (h.on h2 ht e).1; omega)]
  have : ∀ n, n ≤ 24 → r_set r t n = b_set B (nI t) n := by
    intro n
    induction n with
    | zero => intro _; rfl
    | succ n ih =>
      intro hn
      rw [r_set, b_set, ih (by omega), (h.p (show n < 24 by omega)).1]
      unfold b_plf
      by_cases e : p_t (b_p B n) = nI t
      · rw [if_pos e, if_pos (decide_eq_true e)]
      · rw [if_neg e, if_neg (fun z => e (of_decide_eq_true z)), Int32.or_zero]
  exact this 24 (Nat.le_refl _)
theorem RB.cnt (h : RB B r w nt np c) {t : Nat} (ht : t < 4) : r_ty (r_set r t np) 24 = q_bc (b_set B (nI t) 24) := by
  rw [h.set ht, q_bc_ty b_set_24]
theorem RB.sls (h : RB B r w nt np c) {s : Int32} (hs : ∀ k, np ≤ k → k < 24 → q_bit s k = false) : r_sls r s np = b_sn B s := by
  unfold r_sls b_sn
  rw [q_ac_tail (m := np) (n := 24) (f := fun k => if q_bit s k = true then pl_sal (b_p B k) (b_w B) else 0) (fun k h1 h2 => by rw [hs k h1 h2, if_neg (by decide)]) h.1.2.2.2.2]
  refine q_ac_c (fun k hk => ?_)
  have hnp := h.1.2.2.2.2
  have := (h.p (show k < 24 by omega)).sl h.1.2.1 h.1.1 (y := 0) (by omega)
  rw [show nI w + nI 0 = nI w from Int32.add_zero _] at this
  rw [h.1.2.2.1, ← this]; rfl
end
end REL
