/-! Moves of players on both sides -/
section REL7
theorem q_ac_i {i : Int32} {f : Nat → Int32} (n : Nat) : q_ac i f n = i + q_ac 0 f n := by
  induction n with
  | zero => exact (Int32.add_zero _).symm
  | succ n ih => rw [q_ac, q_ac, ih, Int32.add_assoc]
theorem q_ac_2 {f g : Nat → Int32} (n : Nat) : q_ac 0 (fun k => f k + g k) n = q_ac 0 f n + q_ac 0 g n := by
  induction n with
  | zero => rfl
  | succ n ih =>
    rw [q_ac, q_ac, q_ac, ih]
    rw [Int32.add_assoc, Int32.add_assoc, ← Int32.add_assoc (q_ac 0 g n), Int32.add_comm (q_ac 0 g n) (f n), Int32.add_assoc]
theorem q_part_bd2 {x : Int32} {l : Nat} (hx : 0 ≤ x.toInt ∧ x.toInt ≤ 1000000) (hl : 1 ≤ l) (hl2 : l < 100) (n : Int32) : 0 ≤ (q_part x (nI l) n).toInt ∧ (q_part x (nI l) n).toInt ≤ x.toInt / l + 1 := by
  have el : (nI l).toInt = l := nI_toInt (by omega)
  have e1 : (x / nI l).toInt = x.toInt / l := by
    rw [Int32.toInt_div_of_ne_right _ _ (fun z => by have := nI_neg1 (k := l) (by omega); exact this z), el, Int.tdiv_eq_ediv_of_nonneg hx.1]
  have h1 : 0 ≤ x.toInt / (l : Int) := Int.ediv_nonneg hx.1 (by omega)
  have h2 : x.toInt / (l : Int) ≤ x.toInt := Int.ediv_le_self _ hx.1
  unfold q_part
  split
  · rw [Int32.add_zero, e1]; omega
  · rw [q_add_i (by rw [e1, show (1 : Int32).toInt = 1 from by decide]; omega) (by rw [e1, show (1 : Int32).toInt = 1 from by decide]; omega), e1, show (1 : Int32).toInt = 1 from by decide]; omega
/-- what is left of a signing bonus is at most the bonus, and the years -/
theorem d_sf_bd {d : q_Dl} (h : okD d) {k : Nat} (hk : k < 100) : 0 ≤ (d_sf d (nI k)).toInt ∧ (d_sf d (nI k)).toInt ≤ 100010 := by
  obtain ⟨l, g, el, hl1, hl5, eg, hg⟩ := okD_n h
  have b1 := q_i32.mp h.2.2.2.1.1; have b2 := q_i32.mp h.2.2.2.1.2
  rw [show (0 : Int32).toInt = 0 from by decide] at b1
  rw [show (99999 : Int32).toInt = 99999 from by decide] at b2
  have hq : 0 ≤ (d_s d).toInt / (l : Int) := Int.ediv_nonneg b1 (by omega)
  have m1 : ((l - k : Nat) : Int) * ((d_s d).toInt / (l : Int) + 1) ≤ (l : Int) * ((d_s d).toInt / (l : Int) + 1) := Int.mul_le_mul_of_nonneg_right (by omega) (by omega)
  have m2 : (l : Int) * ((d_s d).toInt / (l : Int)) ≤ (d_s d).toInt := Int.mul_ediv_self_le (by omega)
  have m3 : (l : Int) * ((d_s d).toInt / (l : Int) + 1) = (l : Int) * ((d_s d).toInt / (l : Int)) + l := by rw [Int.mul_add, Int.mul_one]
  have hf : ∀ i, i < l - k → 0 ≤ (d_shr d (nI k + nI i)).toInt ∧ (d_shr d (nI k + nI i)).toInt ≤ (d_s d).toInt / (l : Int) + 1 := fun i _ => by
    unfold d_shr
    split
    · rw [show (0 : Int32).toInt = 0 from by decide]; omega
    · rw [el]; exact q_part_bd2 (by omega) hl1 (by omega) _
  unfold d_sf
  rw [el, d_ct_nI (by omega) (by omega), q_sm_ac]
  have := q_ac_bd (i := 0) (A := 0) (n := l - k) (by decide) hf (by omega) (by omega)
  omega
theorem RP.sl_bd {P : q_Pl} {r : Nat → Int64} {i w nt np : Nat} (h : RP P r i w nt np) (hw15 : w ≤ 15) : 0 ≤ (pl_sl P (nI w)).toInt ∧ (pl_sl P (nI w)).toInt ≤ 100010 := by
  unfold pl_sl
  cases hh : pl_has P
  · rw [if_neg (by decide)]; decide
  · rw [if_pos rfl]
    obtain ⟨-, -, -, -, hd, s, l, es, el, hs, hwl, hl5⟩ := h.2.2.2 hh
    rw [es, nI_sb hs]
    exact d_sf_bd hd (by omega)
/-- a team beside its row, with the bound of its dead money -/
def RTd (T : q_Tm) (r : Nat → Int64) (t w : Nat) (D : Int) : Prop :=
  (∀ y, y < 27 → (r_ot r t (3 + y)).toInt32 = t_d T y ∧ 0 ≤ (t_d T y).toInt ∧ (t_d T y).toInt ≤ D) ∧ r_ot r t 0 = (t_m T).toInt64 ∧ (0 ≤ t_m T ∧ t_m T ≤ 99999) ∧
  r_ot r t 1 = (t_x T).toInt64 ∧ q_T (t_x T) < 2 ^ w ∧ r_ot r t 2 = t_p T
theorem RTd.cg {T : q_Tm} {r r' : Nat → Int64} {t w : Nat} {D D' : Int} (h : RTd T r t w D) (e : ∀ u, u < 30 → r_ot r' t u = r_ot r t u) (hD : D ≤ D') : RTd T r' t w D' := by
  obtain ⟨h1, h2, h3, h4, h5, h6⟩ := h
  refine ⟨fun y hy => ?_, (e 0 (by omega)).trans h2, h3, (e 1 (by omega)).trans h4, h5, (e 2 (by omega)).trans h6⟩
  have := h1 y hy
  rw [e (3 + y) (by omega)]
  exact ⟨this.1, this.2.1, by omega⟩
theorem RP.cg {P : q_Pl} {r r' : Nat → Int64} {i w nt np : Nat} (h : RP P r i w nt np) (e : ∀ u, u < 10 → r_op r' i u = r_op r i u) : RP P r' i w nt np := by
  obtain ⟨h0, h1, h2, h3⟩ := h
  refine ⟨(e 0 (by omega)).trans h0, (e 1 (by omega)).trans h1, (e 2 (by omega)).trans h2, fun hh => ?_⟩
  rw [e 3 (by omega), e 4 (by omega), e 5 (by omega), e 7 (by omega), e 8 (by omega), e 9 (by omega), e 6 (by omega)]
  exact h3 hh
theorem t_add_w {T : q_Tm} {w : Nat} {v : Int32} (hw : w < 27) : t_add T (nI w) v = (upd (t_d T) w (t_d T w + v), T.2) := by
  unfold t_add
  rw [if_neg (fun z => z.elim (nI_pos (by omega)) (fun z => (nI_ge (a := w) (b := 27) (by omega) (by decide)) z)), nI_clamp (by omega)]
theorem RTd.add {T : q_Tm} {r : Nat → Int64} {t w y : Nat} {D V : Int} {v : Int32} (h : RTd T r t w D) (hy : y < 27) (hv : 0 ≤ v.toInt ∧ v.toInt ≤ V) (hD : D + V < 2147483648) (hD0 : 0 ≤ D) : RTd (t_add T (nI y) v) (ra r t (3 + y) v.toInt64) t w (D + V) := by
  obtain ⟨h1, h2, h3, h4, h5, h6⟩ := h
  rw [t_add_w hy]
  refine ⟨fun z hz => ?_, ?_, h3, ?_, h5, ?_⟩
  · show (r_ot (ra r t (3 + y) v.toInt64) t (3 + z)).toInt32 = upd (t_d T) y (t_d T y + v) z ∧ 0 ≤ (upd (t_d T) y (t_d T y + v) z).toInt ∧ (upd (t_d T) y (t_d T y + v) z).toInt ≤ D + V
    rw [ra_ot (by omega) (by omega)]
    have hz1 := h1 z hz
    by_cases e : z = y
    · subst e
      rw [if_pos ⟨rfl, rfl⟩, Int64.toInt32_add, hz1.1, Int32.toInt32_toInt64, show upd (t_d T) z (t_d T z + v) z = t_d T z + v from if_pos rfl, q_add_i (by omega) (by omega)]
      exact ⟨rfl, by omega, by omega⟩
    · rw [if_neg (fun q => e (by omega)), show upd (t_d T) y (t_d T y + v) z = t_d T z from if_neg e]
      exact ⟨hz1.1, hz1.2.1, by omega⟩
  · rw [ra_ot (by omega) (by omega), if_neg (fun q => by omega)]; exact h2
  · rw [ra_ot (by omega) (by omega), if_neg (fun q => by omega)]; exact h4
  · rw [ra_ot (by omega) (by omega), if_neg (fun q => by omega)]; exact h6
/-- books beside a row, while moves are under way -/
def RBd (B : q_Bk) (r : Nat → Int64) (w nt np : Nat) (D : Nat → Int) : Prop :=
  (w ≤ 15 ∧ r_nw r = nI w ∧ b_w B = nI w ∧ nt ≤ 4 ∧ np ≤ 24) ∧ (∀ i, i < 24 → RP (b_p B i) r i w nt np) ∧ (∀ t, t < 4 → RTd (b_t B t) r t w (D t)) ∧
  (r_oo r 0 = d_b (b_o B) ∧ r_oo r 1 = d_r (b_o B) ∧ r_oo r 2 = d_n (b_o B) ∧ r_oo r 3 = d_s (b_o B) ∧ r_oo r 4 = d_g (b_o B)) ∧ okD (b_o B)
theorem RB.d {B : q_Bk} {r : Nat → Int64} {w nt np c : Nat} (h : RB B r w nt np c) : RBd B r w nt np (fun _ => (c : Int) * 1300000) := ⟨h.1, h.2.1, h.2.2.1, h.2.2.2.1, h.2.2.2.2.1⟩
theorem RBd.b {B : q_Bk} {r : Nat → Int64} {w nt np c : Nat} {D : Nat → Int} (h : RBd B r w nt np D) (hD : ∀ t, t < 4 → D t ≤ (c : Int) * 1300000) (hn : ∀ j, j < 4 → ∃ n, n ≤ 12 ∧ q_bc (b_set B (nI j) 24) = nI n) : RB B r w nt np c :=
  ⟨h.1, h.2.1, fun t ht => (h.2.2.1 t ht).cg (fun _ _ => rfl) (hD t ht), h.2.2.2.1, h.2.2.2.2, hn⟩
theorem okD_0 {d : q_Dl} (h : okD d) : okD (d_b d, d_r d, d_n d, 0, d_g d) := ⟨h.1, h.2.1, h.2.2.1, ⟨show (0 : Int32) ≤ 0 from by decide, show (0 : Int32) ≤ 99999 from by decide⟩, h.2.2.2.2⟩
theorem RP.mv {P : q_Pl} {r r' : Nat → Int64} {k w nt np t : Nat} (h : RP P r k w nt np) (hh : pl_has P = true) (ht : t < nt) (ht4 : t < 4) (e : ∀ u, u < 10 → r_op r' k u = if u = 0 ∨ u = 1 then nI t else if u = 9 then 0 else r_op r k u) : RP (pl_mv P (nI t)) r' k w nt np := by
  obtain ⟨h0, h1, h2, h3⟩ := h
  obtain ⟨a1, a2, ⟨b3, b4, b5, b7, b8⟩, a4, a5, a6⟩ := h3 hh
  refine ⟨e 0 (by omega), e 1 (by omega), (e 2 (by omega)).trans h2, fun _ => ⟨a1, ⟨t, ht, rfl⟩, ⟨(e 3 (by omega)).trans b3, (e 4 (by omega)).trans b4, (e 5 (by omega)).trans b5, (e 7 (by omega)).trans b7, (e 8 (by omega)).trans b8⟩, Or.inr ⟨e 9 (by omega), rfl⟩, okD_0 a5, a6⟩⟩
theorem r_mvp_ot {r : Nat → Int64} {w f t k s u : Nat} (hk : k < 24) (hw : w < 32) (hu : u < 35) : r_ot (r_mvp r w f t k) s u = if s = f ∧ u = 3 + w then r_ot r f (3 + w) + (r_sf r k).toInt64 else r_ot r s u := by
  unfold r_mvp
  rw [rp_ot hk (by decide), rp_ot hk (by decide), rp_ot hk (by decide), ra_ot (by omega) hu]
theorem RBd.mv1 {B : q_Bk} {r : Nat → Int64} {w nt np k f t : Nat} {D D' : Nat → Int} (h : RBd B r w nt np D) (hk : k < 24) (hf : f < 4) (ht : t < nt) (hp : p_t (b_p B k) = nI f) (hD : 0 ≤ D f ∧ D f + 105000 ≤ D' f ∧ D f + 105000 < 2147483648) (hD2 : ∀ j, j < 4 → ¬ j = f → D j ≤ D' j) :
    RBd (b_sP (b_sT B f (t_add (b_t B f) (b_w B) (pl_sl (b_p B k) (b_w B)))) k (pl_mv (b_p B k) (nI t))) (r_mvp r w f t k) w nt np D' := by
  obtain ⟨h1, h2, h3, h4, h5⟩ := h
  have hh : pl_has (b_p B k) = true := decide_eq_true (by rw [hp]; exact nI_neg1 (by omega))
  have hsf := (h2 k hk).sf h1.2.1 h1.1
  have hbd := (h2 k hk).sl_bd h1.1
  refine ⟨⟨h1.1, r_mvp_nw.trans h1.2.1, h1.2.2.1, h1.2.2.2⟩, fun i hi => ?_, fun j hj => ?_, ?_, h5⟩
  · show RP (if i = k then pl_mv (b_p B k) (nI t) else b_p B i) (r_mvp r w f t k) i w nt np
    by_cases e : i = k
    · subst e
      rw [if_pos rfl]
      refine (h2 i hi).mv hh ht (by omega) (fun u hu => ?_)
      rw [r_mvp_op hi hu]
      by_cases q : u = 0 ∨ u = 1
      · rw [if_pos ⟨rfl, q⟩, if_pos q]
      · rw [if_neg (fun z => q z.2), if_neg q]
        by_cases q9 : u = 9
        · rw [if_pos ⟨rfl, q9⟩, if_pos q9]
        · rw [if_neg (fun z => q9 z.2), if_neg q9]
    · rw [if_neg e]
      exact (h2 i hi).cg (fun u hu => by rw [r_mvp_op hi hu, if_neg (fun z => e z.1), if_neg (fun z => e z.1)])
  · show RTd (if j = f then t_add (b_t B f) (b_w B) (pl_sl (b_p B k) (b_w B)) else b_t B j) (r_mvp r w f t k) j w (D' j)
    by_cases e : j = f
    · subst e
      rw [if_pos rfl, h1.2.2.1]
      refine ((h3 j hj).add (y := w) (by omega) (v := pl_sl (b_p B k) (nI w)) (V := 105000) (by omega) (by omega) (by omega)).cg (fun u hu => ?_) hD.2.1
      rw [r_mvp_ot hk (by omega) (by omega), ra_ot (by omega) (by omega), hsf]
    · rw [if_neg e]
      exact (h3 j hj).cg (fun u hu => by rw [r_mvp_ot hk (by omega) (by omega), if_neg (fun z => e z.1)]) (hD2 j hj e)
  · rw [r_mvp_oo (by decide), r_mvp_oo (by decide), r_mvp_oo (by decide), r_mvp_oo (by decide), r_mvp_oo (by decide)]; exact h4
/-- the bits of a set below -/
def q_cn (s : Int32) : Nat → Nat
  | 0 => 0
  | k + 1 => q_cn s k + (if q_bit s k = true then 1 else 0)
theorem b_mv_p {B : q_Bk} {s : Int32} {f : Nat} {t : Int32} {i : Nat} (k : Nat) : b_p (b_mv B s f t k) i = if i < k ∧ q_bit s i = true then pl_mv (b_p B i) t else b_p B i := by
  induction k with
  | zero => rw [if_neg (fun z => absurd z.1 (by omega))]; rfl
  | succ k ih =>
    rw [b_mv]
    cases hb : q_bit s k
    · rw [if_neg (by decide), ih]
      by_cases e : i = k
      · subst e; rw [if_neg (fun z => absurd z.1 (by omega)), if_neg (fun z => by rw [hb] at z; cases z.2)]
      · by_cases q : i < k ∧ q_bit s i = true
        · rw [if_pos q, if_pos ⟨by omega, q.2⟩]
        · rw [if_neg q, if_neg (fun z => q ⟨by omega, z.2⟩)]
    · rw [if_pos rfl]
      show (if i = k then pl_mv (b_p (b_mv B s f t k) k) t else b_p (b_mv B s f t k) i) = _
      by_cases e : i = k
      · subst e
        rw [if_pos rfl, if_pos ⟨by omega, hb⟩, ih, if_neg (fun z => absurd z.1 (by omega))]
      · rw [if_neg e, ih]
        by_cases q : i < k ∧ q_bit s i = true
        · rw [if_pos q, if_pos ⟨by omega, q.2⟩]
        · rw [if_neg q, if_neg (fun z => q ⟨by omega, z.2⟩)]
theorem RBd.mv {B : q_Bk} {r : Nat → Int64} {w nt np f t : Nat} {s : Int32} {D : Nat → Int} (h : RBd B r w nt np D) (hf : f < 4) (ht : t < nt) (hs : ∀ k, k < 24 → q_bit s k = true → p_t (b_p B k) = nI f) (hD : 0 ≤ D f ∧ D f < 2000000000) (k : Nat) (hk : k ≤ 24) :
    RBd (b_mv B s f (nI t) k) (r_mv r w s f t k) w nt np (fun j => if j = f then D j + 105000 * (q_cn s k : Int) else D j) := by
  induction k with
  | zero => exact ⟨h.1, h.2.1, fun j hj => (h.2.2.1 j hj).cg (fun _ _ => rfl) (by show D j ≤ if j = f then D j + 105000 * ((0 : Nat) : Int) else D j; split <;> omega), h.2.2.2⟩
  | succ k ih =>
    have ih := ih (by omega)
    rw [b_mv, r_mv]
    cases hb : q_bit s k
    · rw [if_neg (by decide), if_neg (by decide)]
      have : q_cn s (k + 1) = q_cn s k := by rw [q_cn, hb, if_neg (by decide)]; rfl
      rw [this]; exact ih
    · rw [if_pos rfl, if_pos rfl]
      have e : q_cn s (k + 1) = q_cn s k + 1 := by rw [q_cn, hb, if_pos rfl]
      have hcn : ∀ k, q_cn s k ≤ k := fun k => by
        induction k with
        | zero => exact Nat.le_refl 0
        | succ k ih => rw [q_cn]; split <;> omega
      have := hcn k
      have hk24 : k < 24 := by omega
      have q1 : p_t (b_p (b_mv B s f (nI t) k) k) = nI f := by
        rw [b_mv_p, if_neg (fun z => absurd z.1 (by omega))]; exact hs k hk24 hb
      have st := RBd.mv1 (B := b_mv B s f (nI t) k) (r := r_mv r w s f t k) (k := k) (f := f) (t := t) (D := fun j => if j = f then D j + 105000 * (q_cn s k : Int) else D j) (D' := fun j => if j = f then D j + 105000 * (q_cn s (k + 1) : Int) else D j) ih hk24 hf ht q1
        (by rw [if_pos rfl, if_pos rfl, e]; omega) (fun j hj e => by rw [if_neg e, if_neg e]; exact Int.le_refl _)
      rw [b_mv_w] at st
      exact st
end REL7
