/-! A release keeps the relation -/
section RELE
theorem d_gf_bd {d : q_Dl} (h : okD d) {k : Nat} (hk : k < 50) : 0 ≤ (d_gf d (nI k)).toInt ∧ (d_gf d (nI k)).toInt ≤ 1000000 := by
  obtain ⟨l, g, el, hl1, hl5, eg, hg⟩ := okD_n h
  unfold d_gf
  rw [eg, d_ct_nI (by omega) (by omega), q_sm_ac]
  have := q_ac_bd (i := 0) (A := 0) (D := 200000) (n := g - k) (f := fun i => d_sal d (nI k + nI i)) (by decide) (fun i hi => by
    show 0 ≤ (d_sal d (nI k + nI i)).toInt ∧ (d_sal d (nI k + nI i)).toInt ≤ 200000
    rw [nI_add]; exact d_sal_bd h (by omega)) (by omega) (by omega)
  omega
theorem RP.rc_bd {P : q_Pl} {r : Nat → Int64} {i w nt np : Nat} (h : RP P r i w nt np) (hw15 : w ≤ 15) (hh : pl_has P = true) (st : Int32) {q : Nat} (hq : q < 12) : 0 ≤ (pl_rc P (nI w) st (nI q)).toInt ∧ (pl_rc P (nI w) st (nI q)).toInt ≤ 1200000 := by
  obtain ⟨-, -, -, -, hd, s, l, es, el, hs, hwl, hl5⟩ := h.2.2.2 hh
  obtain ⟨l2, g, el2, hl1, -, eg, hg⟩ := okD_n hd
  have i0 : (0 : Int32).toInt = 0 := by decide
  have a1 : 0 ≤ (if nI q = 0 then d_sf (p_d P) (nI (w - s)) else 0).toInt ∧ (if nI q = 0 then d_sf (p_d P) (nI (w - s)) else 0).toInt ≤ 100010 := by
    split
    · exact d_sf_bd hd (by omega)
    · rw [i0]; omega
  have a2 : 0 ≤ (if st = 0 then d_gp (p_d P) (nI (w - s)) (nI q) else d_str (p_d P) (nI (w - s)) (nI q)).toInt ∧ (if st = 0 then d_gp (p_d P) (nI (w - s)) (nI q) else d_str (p_d P) (nI (w - s)) (nI q)).toInt ≤ 1000001 := by
    split
    · unfold d_gp
      split
      · rw [i0]; omega
      · rw [nI_add]
        have := d_sal_bd hd (k := w - s + q) (by omega)
        omega
    · unfold d_str
      split
      · rw [i0]; omega
      · have ey : 2 * (nI l - nI (w - s)) + 1 = nI (2 * (l - (w - s)) + 1) := by
          rw [nI_sb (by omega), show (2 : Int32) = nI 2 from rfl, nI_mul, nI_1]
        rw [el, ey]
        have b1 := d_gf_bd hd (k := w - s) (by omega)
        have := q_part_bd (x := d_gf (p_d P) (nI (w - s))) (l := 2 * (l - (w - s)) + 1) b1 (by omega) (by omega) (nI q)
        omega
  unfold pl_rc
  rw [es, nI_sb hs, q_add_i (by omega) (by omega)]
  omega
theorem r_rla_op {r : Nat → Int64} {j w q u : Nat} {d : Nat → Int32} (hq : q < 24) (hu : u < 10) (k : Nat) : r_op (r_rla r j w d k) q u = r_op r q u := by
  induction k with
  | zero => rfl
  | succ k ih => rw [r_rla, ra_op hq hu, ih]
theorem r_rla_oo {r : Nat → Int64} {j w u : Nat} {d : Nat → Int32} (hu : u < 5) (k : Nat) : r_oo (r_rla r j w d k) u = r_oo r u := by
  induction k with
  | zero => rfl
  | succ k ih => rw [r_rla, ra_oo hu, ih]
theorem r_rla_ot {r : Nat → Int64} {j w t u : Nat} {d : Nat → Int32} (hu : u < 35) (k : Nat) (hk : w + k ≤ 32) : r_ot (r_rla r j w d k) t u = if t = j ∧ 3 + w ≤ u ∧ u < 3 + w + k then r_ot r t u + (d (u - (3 + w))).toInt64 else r_ot r t u := by
  induction k with
  | zero => rw [if_neg (by omega)]; rfl
  | succ k ih =>
    have ih := ih (by omega)
    rw [r_rla, ra_ot (by omega) hu]
    by_cases e : t = j ∧ u = 3 + w + k
    · obtain ⟨e1, e2⟩ := e
      subst e1
      rw [← e2, if_pos ⟨rfl, rfl⟩, ih, if_neg (by omega), if_pos (by omega), show u - (3 + w) = k from by omega]
    · rw [if_neg e, ih]
      by_cases q : t = j ∧ 3 + w ≤ u ∧ u < 3 + w + k
      · rw [if_pos q, if_pos (by omega)]
      · rw [if_neg q, if_neg (by omega)]
theorem t_dis_d {T : q_Tm} {P : q_Pl} {w : Nat} {st : Int32} (n : Nat) (hn : w + n ≤ 27) : (t_dis T P (nI w) st n).2 = T.2 ∧ ∀ y, t_d (t_dis T P (nI w) st n) y = if w ≤ y ∧ y < w + n then t_d T y + pl_rc P (nI w) st (nI (y - w)) else t_d T y := by
  induction n with
  | zero => exact ⟨rfl, fun y => by rw [if_neg (by omega)]; rfl⟩
  | succ n ih =>
    obtain ⟨i1, i2⟩ := ih (by omega)
    rw [t_dis, nI_add, t_add_w (by omega)]
    refine ⟨i1, fun y => ?_⟩
    show upd (t_d (t_dis T P (nI w) st n)) (w + n) (t_d (t_dis T P (nI w) st n) (w + n) + pl_rc P (nI w) st (nI n)) y = _
    rw [upd_at]
    by_cases e : y = w + n
    · subst e
      rw [if_pos rfl, i2, if_neg (by omega), if_pos (by omega), show w + n - w = n from by omega]
    · rw [if_neg e, i2]
      by_cases q : w ≤ y ∧ y < w + n
      · rw [if_pos q, if_pos (by omega)]
      · rw [if_neg q, if_neg (by omega)]
section
variable {B : q_Bk} {r : Nat → Int64} {w nt np c : Nat}
theorem r_rel_op {r : Nat → Int64} {j w p q u : Nat} {st : Int32} (hq : q < 24) (hu : u < 10) : r_op (r_rel r j w p st) q u = if q = p ∧ (u = 0 ∨ u = 1) then -1 else if q = p ∧ u = 2 then 0 else r_op r q u := by
  unfold r_rel
  rw [rp_op (by decide) hu, rp_op (by decide) hu, rp_op (by decide) hu, r_rla_op hq hu]
  by_cases e : q = p
  · by_cases u2 : u = 2
    · rw [if_pos ⟨e, u2⟩, if_neg (fun z => by omega), if_pos ⟨e, u2⟩]
    · rw [if_neg (fun z => u2 z.2)]
      by_cases u1 : u = 1
      · rw [if_pos ⟨e, u1⟩, if_pos ⟨e, Or.inr u1⟩]
      · rw [if_neg (fun z => u1 z.2)]
        by_cases u0 : u = 0
        · rw [if_pos ⟨e, u0⟩, if_pos ⟨e, Or.inl u0⟩]
        · rw [if_neg (fun z => u0 z.2), if_neg (fun z => by omega), if_neg (fun z => u2 z.2)]
  · rw [if_neg (fun z => e z.1), if_neg (fun z => e z.1), if_neg (fun z => e z.1), if_neg (fun z => e z.1), if_neg (fun z => e z.1)]
theorem r_rel_ot {r : Nat → Int64} {j w p t u : Nat} {st : Int32} (hp : p < 24) : r_ot (r_rel r j w p st) t u = r_ot (r_rla r j w (r_ld r p st) 12) t u := by
  unfold r_rel
  rw [rp_ot hp (by decide), rp_ot hp (by decide), rp_ot hp (by decide)]
theorem RB.dis (h : RB B r w nt np c) (hc : c ≤ 600) {i j : Nat} (hi : i < 24) (hj : j < 4) (hh : pl_has (b_p B i) = true) (e : p_t (b_p B i) = nI j) (st : Int32) : RB (b_dis B i j st) (r_rel r j w i st) w nt np (c + 1) := by
  have hw15 := h.1.1
  have plf : ∀ k, k < 24 → ∀ t, t < 4 → b_plf (b_dis B i j st) k (nI t) = true → b_plf B k (nI t) = true := fun k hk t ht z => by
    unfold b_plf at z ⊢
    rw [show b_p (b_dis B i j st) k = if k = i then pl_no (b_p B i) else b_p B k from rfl] at z
    by_cases q : k = i
    · rw [if_pos q] at z
      exact absurd (of_decide_eq_true z).symm (nI_neg1 (by omega))
    · rw [if_neg q] at z; exact z
  refine ⟨⟨h.1.1, ?_, h.1.2.2⟩, fun k hk => ?_, fun t ht => ?_, ?_, h.2.2.2.2.1, fun t ht => ?_⟩
  · unfold r_rel; rw [rp_nw, rp_nw, rp_nw, r_rla_nw]; exact h.1.2.1
  · show RP (if k = i then pl_no (b_p B i) else b_p B k) _ k w nt np
    by_cases q : k = i
    · subst q
      rw [if_pos rfl]
      refine ⟨?_, ?_, ?_, fun z => ?_⟩
      · rw [r_rel_op hk (by decide), if_pos ⟨rfl, Or.inl rfl⟩]; rfl
      · rw [r_rel_op hk (by decide), if_pos ⟨rfl, Or.inr rfl⟩]; rfl
      · rw [r_rel_op hk (by decide), if_neg (fun z => by omega), if_pos ⟨rfl, rfl⟩]; rfl
      · exact absurd rfl (of_decide_eq_true z)
    · rw [if_neg q]
      exact (h.p hk).cg (fun u hu => by rw [r_rel_op hk hu, if_neg (fun z => q z.1), if_neg (fun z => q z.1)])
  · show RTm (if t = j then t_dis (b_t B j) (b_p B i) (b_w B) st 12 else b_t B t) _ t w (c + 1)
    obtain ⟨t1, t2, t3, t4, t5, t6⟩ := h.2.2.1 t ht
    have ot : ∀ u, u < 35 → r_ot (r_rel r j w i st) t u = if t = j ∧ 3 + w ≤ u ∧ u < 3 + w + 12 then r_ot r t u + (r_ld r i st (u - (3 + w))).toInt64 else r_ot r t u := fun u hu => by
      rw [r_rel_ot hi, r_rla_ot hu 12 (by omega)]
    by_cases q : t = j
    · subst q
      rw [if_pos rfl, h.1.2.2.1]
      obtain ⟨d1, d2⟩ := t_dis_d (T := b_t B t) (P := b_p B i) (w := w) (st := st) 12 (by omega)
      refine ⟨fun y hy => ?_, ?_, ?_, ?_, ?_, ?_⟩
      · have := t1 y hy
        rw [d2, ot (3 + y) (by omega)]
        by_cases q : w ≤ y ∧ y < w + 12
        · have hrc := (h.p hi).rc_bd hw15 hh st (q := y - w) (by omega)
          rw [if_pos q, if_pos (by omega), show 3 + y - (3 + w) = y - w from by omega, (h.p hi).ld h.1.2.1 hw15 hh st (by omega), Int64.toInt32_add, this.1, Int32.toInt32_toInt64, q_add_i (by omega) (by omega)]
          exact ⟨rfl, by omega, by omega⟩
        · rw [if_neg q, if_neg (by omega)]
          exact ⟨this.1, this.2.1, by omega⟩
      · rw [ot 0 (by omega), if_neg (by omega), t2]; exact congrArg (fun z => (t_m (t_d (b_t B t), z)).toInt64) d1.symm
      · rw [show t_m (t_dis (b_t B t) (b_p B i) (nI w) st 12) = t_m (b_t B t) from congrArg (fun z => t_m (t_d (b_t B t), z)) d1]; exact t3
      · rw [ot 1 (by omega), if_neg (by omega), t4]; exact congrArg (fun z => (t_x (t_d (b_t B t), z)).toInt64) d1.symm
      · rw [show t_x (t_dis (b_t B t) (b_p B i) (nI w) st 12) = t_x (b_t B t) from congrArg (fun z => t_x (t_d (b_t B t), z)) d1]; exact t5
      · rw [ot 2 (by omega), if_neg (by omega), t6]; exact congrArg (fun z => t_p (t_d (b_t B t), z)) d1.symm
    · rw [if_neg q]
      exact RTd.cg (D := (c : Int) * 1300000) (h.2.2.1 t ht) (fun u hu => by rw [ot u (by omega), if_neg (fun z => q z.1)]) (by omega)
  · show r_oo (r_rel r j w i st) 0 = _ ∧ r_oo (r_rel r j w i st) 1 = _ ∧ r_oo (r_rel r j w i st) 2 = _ ∧ r_oo (r_rel r j w i st) 3 = _ ∧ r_oo (r_rel r j w i st) 4 = _
    have oo : ∀ u, u < 5 → r_oo (r_rel r j w i st) u = r_oo r u := fun u hu => by unfold r_rel; rw [rp_oo hu, rp_oo hu, rp_oo hu, r_rla_oo hu]
    rw [oo 0 (by decide), oo 1 (by decide), oo 2 (by decide), oo 3 (by decide), oo 4 (by decide)]
    exact h.2.2.2.1
  · have hcn := h.cn ht
    have := q_cn_2 (a := b_set (b_dis B i j st) (nI t) 24) (b := b_set B (nI t) 24) 24 (fun k hk hb => by
      rw [b_set_bit hk] at hb ⊢
      exact plf k hk t ht hb)
    exact ⟨_, Nat.le_trans this hcn, by rw [q_bc_ty b_set_24, r_ty_cn 24 (by omega)]⟩
end
end RELE
