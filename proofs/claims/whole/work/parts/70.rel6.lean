/-! Questions on both sides: the greatest base, the best rule, a player's values, mean salaries -/
section REL6
/-- a 64-bit figure cut at the most a base may be -/
theorem q_cl {X : Int32} {L : Int64} (e : L = X.toInt64) : (if L < 99999 then L else 99999).toInt32 = if 99999 < X then 99999 else X := by
  subst e
  have hx := Int32.toInt_lt X
  have hx2 := Int32.le_toInt X
  have e1 : (X.toInt64 < 99999) ↔ X < 99999 := by rw [show (99999 : Int64) = (99999 : Int32).toInt64 from rfl]; exact q_tl
  by_cases q : X < 99999
  · rw [if_pos (e1.mpr q), Int32.toInt32_toInt64, if_neg (fun z => by rw [Int32.lt_iff_toInt_lt] at z q; omega)]
  · rw [if_neg (fun z => q (e1.mp z))]
    by_cases q2 : (99999 : Int32) < X
    · rw [if_pos q2]; rfl
    · rw [if_neg q2]
      have : X = 99999 := Int32.toInt_inj.mp (by rw [Int32.lt_iff_toInt_lt] at q q2; omega)
      rw [this]; rfl
theorem q_sum0 {g : Nat → Nat} (n : Nat) : (((List.range n).map g).sum = 0 → ∀ k, k < n → g k = 0) ∧ ((∀ k, k < n → g k ≤ 1) → ((List.range n).map g).sum ≤ n) := by
  induction n with
  | zero => exact ⟨fun _ k hk => absurd hk (by omega), fun _ => Nat.le_refl 0⟩
  | succ n ih =>
    rw [List.range_succ, List.map_append, List.sum_append, List.map_cons, List.map_nil, List.sum_cons, List.sum_nil]
    refine ⟨fun e k hk => ?_, fun e => ?_⟩
    · by_cases q : k = n
      · subst q; omega
      · exact ih.1 (by omega) k (by omega)
    · have h1 := ih.2 (fun k hk => e k (by omega))
      have h2 := e n (by omega)
      omega
theorem q_bits0 {x : Nat} (n : Nat) (hx : x < 2 ^ n) (h : ∀ k, k < n → x / 2 ^ k % 2 = 0) : x = 0 := by
  induction n with
  | zero => omega
  | succ n ih =>
    refine ih ?_ (fun k hk => h k (by omega))
    have h1 := h n (by omega)
    have h2 : x / 2 ^ n < 2 := by rw [Nat.div_lt_iff_lt_mul (Nat.two_pow_pos n)]; rw [Nat.pow_succ] at hx; omega
    have h3 : x / 2 ^ n = 0 := by
      revert h1 h2
      generalize x / 2 ^ n = y
      intro h1 h2; omega
    exact (Nat.div_eq_zero_iff_lt (Nat.two_pow_pos n)).mp h3
/-- none counted: the set is empty -/
theorem r_ty_0 {s : Int32} (h : q_T s < 16777216) : r_ty s 24 = 0 ↔ s = 0 := by
  constructor
  · intro e
    rw [r_ty_n] at e
    have hb := (q_sum0 (g := fun k => q_T s / 2 ^ k % 2) 24).2 (fun k _ => Nat.le_of_lt_succ (Nat.mod_lt _ (by decide)))
    have e2 : ((List.range 24).map (fun k => q_T s / 2 ^ k % 2)).sum = 0 := nI_inj (by omega) (by decide) e
    have e3 : q_T s = 0 := q_bits0 24 h ((q_sum0 (g := fun k => q_T s / 2 ^ k % 2) 24).1 e2)
    exact q_T_inj (e3.trans (by decide))
  · intro e; rw [e]; decide
section
variable {S : q_Ls} {M : q_Mo} {w nt np nb c : Nat}
theorem RB.cnt0 {B : q_Bk} {r : Nat → Int64} (h : RB B r w nt np c) {t : Nat} (ht : t < 4) : (r_set r t np = 0 ↔ q_bc (b_set B (nI t) 24) = 0) ∧ (¬ r_set r t np = 0 → ¬ r_ty (r_set r t np) 24 = 0) := by
  have h0 := r_ty_0 (r_set_24 (r := r) (t := t) h.1.2.2.2.2)
  refine ⟨?_, fun z z2 => z (h0.mp z2)⟩
  rw [← h.cnt ht]
  exact h0.symm
theorem b_set_bit {b : q_Bk} {t : Int32} {k : Nat} (hk : k < 24) : q_bit (b_set b t 24) k = b_plf b k t := by
  rw [q_bitv (by omega), b_set_v (by decide) (by omega), decide_eq_true hk, Bool.true_and]
theorem RB.mn (h : RB (ls_B S) (m_r M) w nt np c) {t : Nat} (ht : t < 4) : r_mn (m_r M) np t = l_mn S t := by
  unfold r_mn l_mn
  rw [h.cnt ht, h.set ht, h.sls (fun k h1 h2 => ?_)]
  rw [b_set_bit h2]
  refine decide_eq_false (fun z => ?_)
  have := (h.on h2 ht z).1
  omega
theorem r_room_ro {m : Nat → Int32} {r : Nat → Int64} {n w t : Nat} : r_room m (ro r 0 1) n w t = r_room m r n w t := by
  unfold r_room r_ch r_dd r_sl r_sh r_yn r_has
  simp only [ro_op (w := 0) (by decide), ro_ot (w := 0) (by decide), ro_nw]
/-- with the least base of all -/
theorem RB.al1 (h : RB (ls_B S) (m_r M) w nt np c) (he : RE (ls_T S) M nt np nb) (hc : c ≤ 600) {t i : Nat} (ht : t < 4) (hi : i < 24) (x : Int32) : r_al M.1 (ro (m_r M) 0 1) np w t i x = decide (1 ≤ l_bl S t i x) ∧ (1 ≤ l_bl S t i x → (if r_most M.1 (m_r M) np w t x < 99999 then r_most M.1 (m_r M) np w t x else 99999).toInt32 = if 99999 < l_bl S t i x then 99999 else l_bl S t i x) := by
  have hs : 0 ≤ (d_shr (b_o (ls_B S)) 0).toInt ∧ (d_shr (b_o (ls_B S)) 0).toInt ≤ 100000 := d_shr_bd h.2.2.2.2.1 0
  obtain ⟨o0, o1, o2, o3, o4⟩ := h.2.2.2.1
  have i1 : (1 : Int32).toInt = 1 := by decide
  have i0 : (0 : Int32).toInt = 0 := by decide
  have efs : r_fs (ro (m_r M) 0 1) = d_shr (b_o (ls_B S)) 0 := by
    unfold r_fs; rw [ro_oo, ro_oo, if_neg (by decide), if_neg (by decide)]; exact h.fs
  have efc : r_fc (ro (m_r M) 0 1) = 1 + d_shr (b_o (ls_B S)) 0 := by
    unfold r_fc; rw [efs, ro_oo, if_pos rfl]
  have ei : (1 + d_shr (b_o (ls_B S)) 0).toInt = 1 + (d_shr (b_o (ls_B S)) 0).toInt := by
    rw [q_add_i (by omega) (by omega), i1]
  have q0 : ∀ b : Int32, b = 0 → ¬ 1 ≤ b := fun b e z => by rw [e, q_i32] at z; omega
  unfold r_al l_bl r_most
  by_cases x0 : x = 0
  · rw [if_pos x0, if_pos x0, if_pos x0]
    have hr := h.room_bd he hc ht
    have es : (l_room S t - d_shr (b_o (ls_B S)) 0).toInt = (l_room S t).toInt - (d_shr (b_o (ls_B S)) 0).toInt := q_sub_i (by omega) (by omega)
    refine ⟨decide_eq_decide.mpr ?_, fun _ => q_cl (by rw [h.fs, h.room he ht])⟩
    rw [efc, show r_room M.1 (ro (m_r M) 0 1) np w t = r_room M.1 (m_r M) np w t from r_room_ro, h.room he ht, q_i32, q_i32, ei, es]; omega
  · rw [if_neg x0, if_neg x0, if_neg x0]
    by_cases x1 : x = 1
    · rw [if_pos x1, if_pos x1, if_pos x1]
      have hm := (h.2.2.1 t ht).mid
      have em := (h.2.2.1 t ht).2.1
      have es : (t_m (b_t (ls_B S) t) - d_shr (b_o (ls_B S)) 0).toInt = (t_m (b_t (ls_B S) t)).toInt - (d_shr (b_o (ls_B S)) 0).toInt := q_sub_i (by omega) (by omega)
      rw [ro_ot (by decide), ro_oo, if_neg (by decide), o2, em, efc, h.fs]
      by_cases q : d_n (b_o (ls_B S)) ≤ 3
      · rw [if_neg (Int32.not_lt.mpr q)]
        refine ⟨decide_eq_decide.mpr ?_, fun _ => q_cl (q_sub_64 (by omega) (by omega)).symm⟩
        have g1 : (t_m (b_t (ls_B S) t) < 1 + d_shr (b_o (ls_B S)) 0) ↔ (t_m (b_t (ls_B S) t)).toInt < 1 + (d_shr (b_o (ls_B S)) 0).toInt := by rw [Int32.lt_iff_toInt_lt, ei]
        have g2 : (1 ≤ t_m (b_t (ls_B S) t) - d_shr (b_o (ls_B S)) 0) ↔ 1 ≤ (t_m (b_t (ls_B S) t)).toInt - (d_shr (b_o (ls_B S)) 0).toInt := by rw [q_i32, es, i1]
        rw [q_tl, g1, g2]
        constructor
        · intro z; have := z.1; omega
        · intro z; exact ⟨by omega, q⟩
      · rw [if_pos (Int32.not_le.mp q)]
        exact ⟨decide_eq_decide.mpr ⟨fun z => absurd z.2 q, fun z => absurd z (q0 0 rfl)⟩, fun z => absurd z (q0 0 rfl)⟩
    · rw [if_neg x1, if_neg x1, if_neg x1]
      by_cases x2 : x = 2
      · rw [if_pos x2, if_pos x2, if_pos x2, ro_oo, ro_oo, ro_oo, ro_oo, if_pos rfl, if_neg (by decide), if_neg (by decide), if_neg (by decide), o1, o2, o3]
        have hu := he.2.2.2.2.2.2.1
        by_cases q : d_r (b_o (ls_B S)) = 0 ∧ d_s (b_o (ls_B S)) = 0 ∧ ¬ 2 < d_n (b_o (ls_B S))
        · rw [if_pos q, ← hu]
          exact ⟨decide_eq_decide.mpr ⟨fun z => z.1, fun z => ⟨z, q.1, q.2.1, Int32.not_lt.mp q.2.2⟩⟩, fun _ => q_cl rfl⟩
        · rw [if_neg q]
          exact ⟨decide_eq_decide.mpr ⟨fun z => absurd ⟨z.2.1, z.2.2.1, Int32.not_lt.mpr z.2.2.2⟩ q, fun z => absurd z (q0 0 rfl)⟩, fun z => absurd z (q0 0 rfl)⟩
      · rw [if_neg x2, if_neg x2, if_neg x2]
        obtain ⟨-, p1, p2, -⟩ := h.p hi
        rw [ro_op (by decide), ro_op (by decide), p1, p2]
        by_cases q : p_l (b_p (ls_B S) i) = nI t ∧ ¬ p_n (b_p (ls_B S) i) < 2
        · rw [if_pos q]
          exact ⟨decide_eq_decide.mpr ⟨fun _ => by decide, fun _ => q⟩, fun _ => by decide⟩
        · rw [if_neg q]
          exact ⟨decide_eq_decide.mpr ⟨fun z => absurd z q, fun z => absurd z (q0 0 rfl)⟩, fun z => absurd z (q0 0 rfl)⟩
theorem RB.gb (h : RB (ls_B S) (m_r M) w nt np c) (he : RE (ls_T S) M nt np nb) (hc : c ≤ 600) {t i : Nat} (ht : t < 4) (hi : i < 24) (x : Int32) : r_gb M.1 (m_r M) np w t i x = l_gb S t i x := by
  obtain ⟨a1, a2⟩ := h.al1 he hc ht hi x
  have e1 : (1 ≤ (if 99999 < l_bl S t i x then 99999 else l_bl S t i x)) ↔ 1 ≤ l_bl S t i x := by
    split
    · next q => exact ⟨fun _ => by rw [q_i32, show (1 : Int32).toInt = 1 from by decide]; rw [Int32.lt_iff_toInt_lt, show (99999 : Int32).toInt = 99999 from by decide] at q; omega, fun _ => by decide⟩
    · exact Iff.rfl
  unfold r_gb l_gb l_pe
  rw [(h.p hi).has, a1]
  cases hh : pl_has (b_p (ls_B S) i)
  · rw [if_neg (show ¬ (false = true) from by decide)]
    by_cases q : q_bc (b_set (ls_B S) (nI t) 24) < 12
    · rw [if_neg (fun z => Or.elim z (fun z => by cases z) (fun z => (h.full ht).mp z q)), if_pos q, if_pos rfl]
      by_cases q2 : 1 ≤ l_bl S t i x
      · rw [decide_eq_true q2, if_pos rfl, if_pos (e1.mpr q2), a2 q2]
      · rw [decide_eq_false q2, if_neg (show ¬ (false = true) from by decide), if_neg (fun z => q2 (e1.mp z))]
    · rw [if_pos (Or.inr ((h.full ht).mpr q)), if_neg q]; rfl
  · rw [if_pos (Or.inl rfl), if_pos rfl]; rfl
theorem l_br_at {S : q_Ls} {j i : Nat} : ∀ n k m, k ≤ m → m < k + n → (∀ s, k ≤ s → s < m → ¬ l_se S j i (nI s) = 0) → l_se S j i (nI m) = 0 → l_br S j i n k = nI m
  | 0, k, m, h1, h2, _, _ => absurd h2 (by omega)
  | n + 1, k, m, h1, h2, h3, h4 => by
    rw [l_br]
    by_cases e : k = m
    · subst e; rw [if_pos h4]
    · rw [if_neg (h3 k (by omega) (by omega))]; exact l_br_at n (k + 1) m (by omega) (by omega) (fun s hs => h3 s (by omega)) h4
theorem l_br_no {S : q_Ls} {j i : Nat} : ∀ n k, (∀ s, k ≤ s → s < k + n → ¬ l_se S j i (nI s) = 0) → l_br S j i n k = -2
  | 0, _, _ => rfl
  | n + 1, k, h => by rw [l_br, if_neg (h k (by omega) (by omega))]; exact l_br_no n (k + 1) (fun s h1 h2 => h s (by omega) (by omega))
theorem RB.pv (h : RB (ls_B S) (m_r M) w nt np c) {i : Nat} (hi : i < 24) {y : Nat} (hy : y < 7) : r_pv (m_r M) i y = l_pv S i (nI y) := by
  have hp := h.p hi
  unfold r_pv l_pv
  rw [hp.has]
  obtain ⟨h0, h1, h2, h3⟩ := hp
  have hp := h.p hi
  have hz : ∀ a, a < 7 → (nI y = nI a ↔ y = a) := fun a ha => ⟨fun z => nI_inj (by omega) (by omega) z, fun z => by rw [z]⟩
  by_cases y3 : y < 3
  · rw [if_pos y3]
    match y, y3 with
    | 0, _ => exact h0
    | 1, _ => exact h1
    | 2, _ => exact h2
  · rw [if_neg y3, if_neg (show ¬ nI y = 0 from fun z => by have := (hz 0 (by omega)).mp z; omega), if_neg (show ¬ nI y = 1 from fun z => by have := (hz 1 (by omega)).mp z; omega), if_neg (show ¬ nI y = 2 from fun z => by have := (hz 2 (by omega)).mp z; omega)]
    cases hh : pl_has (b_p (ls_B S) i)
    · rfl
    · rw [if_pos rfl, if_pos rfl]
      obtain ⟨-, -, ⟨-, -, h5, h7, -⟩, -, hd, s, l, es, el, hs, hwl, hl5⟩ := h3 hh
      have yn := hp.yn h.1.2.1 h.1.1 hh es el hs hl5 (y := 0) (by omega)
      rw [if_pos (by omega), Nat.add_zero] at yn
      have yn0 : r_yn (m_r M) i 0 = nI (w - s) := yn
      have sf := hp.sf h.1.2.1 h.1.1
      unfold pl_sl at sf
      rw [hh, if_pos rfl] at sf
      unfold l_cv
      rw [h.1.2.2.1, yn0, h5, h7, sf, es, nI_sb hs]
      match y, y3, hy with
      | 0, y3, _ => exact absurd y3 (by decide)
      | 1, y3, _ => exact absurd y3 (by decide)
      | 2, y3, _ => exact absurd y3 (by decide)
      | 3, _, _ => rfl
      | 4, _, _ => rfl
      | 5, _, _ => rfl
      | 6, _, _ => rfl
end
end REL6
