/-! The end of a year keeps the relation -/
section RELK
theorem q_T_ti {x : Int32} (h : q_T x < 2147483648) : x.toInt = (q_T x : Int) := by
  have h1 := x.toBitVec.toInt_eq_toNat_cond
  have h2 : x.toBitVec.toNat < 2147483648 := h
  show x.toBitVec.toInt = (x.toBitVec.toNat : Int)
  rw [h1, if_pos (by omega)]
/-- a year's bit, added or put in -/
theorem q_or_add {x : Int32} {w : Nat} (hw : w < 15) (hx : q_T x < 2 ^ w) : (x ||| ((1 : Int32) <<< (nI w &&& 31))).toInt64 = x.toInt64 + ((1 : Int64) <<< ((nI w).toInt64 &&& 63)) ∧ q_T (x ||| ((1 : Int32) <<< (nI w &&& 31))) < 2 ^ (w + 1) := by
  have h2 : 2 ^ w ≤ 2 ^ 14 := Nat.pow_le_pow_right (by decide) (by omega)
  have e1 : q_T ((1 : Int32) <<< (nI w &&& 31)) = 2 ^ w := (by decide : ∀ w, w < 15 → q_T ((1 : Int32) <<< (nI w &&& 31)) = 2 ^ w) w hw
  have e2 : ((1 : Int64) <<< ((nI w).toInt64 &&& 63)).toInt = ((2 ^ w : Nat) : Int) := (by decide : ∀ w, w < 15 → ((1 : Int64) <<< ((nI w).toInt64 &&& 63)).toInt = ((2 ^ w : Nat) : Int)) w hw
  have e3 : q_T (x ||| ((1 : Int32) <<< (nI w &&& 31))) = q_T x + 2 ^ w := by
    have e4 : q_T (x ||| ((1 : Int32) <<< (nI w &&& 31))) = q_T x ||| q_T ((1 : Int32) <<< (nI w &&& 31)) := by unfold q_T; rw [Int32.toBitVec_or, BitVec.toNat_or]
    have e5 := Nat.two_pow_add_eq_or_of_lt hx 1
    rw [Nat.mul_one] at e5
    rw [e4, e1, Nat.or_comm, ← e5, Nat.add_comm]
  rw [Nat.pow_succ]
  obtain ⟨p, ep⟩ : ∃ p, p = 2 ^ w := ⟨_, rfl⟩
  rw [← ep] at h2 hx e2 e3 ⊢
  refine ⟨?_, by omega⟩
  apply Int64.toInt_inj.mp
  rw [Int32.toInt_toInt64, Int64.toInt_add, Int32.toInt_toInt64, e2, q_T_ti (by omega), q_T_ti (x := x) (by omega), e3]
  have : ((q_T x + p : Nat) : Int) = (q_T x : Int) + (p : Int) := by omega
  rw [this]
  exact (Int.bmod_eq_of_le (by omega) (by omega)).symm
theorem r_yn_cg {r r' : Nat → Int64} {p : Nat} {x : Int32} (hop : ∀ u, u < 10 → r_op r' p u = r_op r p u) (hnw : r_nw r' = r_nw r) : r_yn r' p x = r_yn r p x := by
  unfold r_yn r_has; rw [hop 0 (by omega), hop 8 (by omega), hop 5 (by omega), hnw]
theorem r_ch_cg {r r' : Nat → Int64} {np w t x : Nat} (hop : ∀ p, p < 24 → ∀ u, u < 10 → r_op r' p u = r_op r p u) (hnw : r_nw r' = r_nw r) (hot : ∀ u, 3 ≤ u → u < 35 → r_ot r' t u = r_ot r t u) (hn : np ≤ 24) : r_ch r' np w t x = r_ch r np w t x := by
  unfold r_ch
  have e : r_dd r' w t x = r_dd r w t x := by
    unfold r_dd
    by_cases q : w + x < 32
    · rw [if_pos q, if_pos q, hot _ (by omega) (by omega)]
    · rw [if_neg q, if_neg q]
  rw [e]
  refine q_ac_c (fun p hp => ?_)
  have h1 := hop p (by omega)
  show (if r_op r' p 0 = nI t then r_sl r' p (nI x) + r_sh r' p (nI x) else 0) = (if r_op r p 0 = nI t then r_sl r p (nI x) + r_sh r p (nI x) else 0)
  unfold r_sl r_sh
  rw [r_yn_cg h1 hnw, h1 0 (by omega), h1 3 (by omega), h1 4 (by omega), h1 5 (by omega), h1 6 (by omega), h1 9 (by omega)]
/-- a team behind its taxes -/
def l_nt (S : q_Ls) (t : Nat) : q_Tm := (t_d (b_t (ls_B S) t), t_p (b_t (ls_B S) t) + l_tax S t (l_cn S t), (if te_tx (ls_T S) (l_cn S t) (b_w (ls_B S)) = true then t_x (b_t (ls_B S) t) ||| ((1 : Int32) <<< (b_w (ls_B S) &&& 31)) else t_x (b_t (ls_B S) t)), t_m (b_t (ls_B S) t))
theorem l_ny_x {S : q_Ls} (k : Nat) : b_p (l_ny S k).1 = b_p (ls_B S) ∧ b_o (l_ny S k).1 = b_o (ls_B S) ∧ b_w (l_ny S k).1 = b_w (ls_B S) ∧ (∀ t, b_t (l_ny S k).1 t = if t < k then l_nt S t else b_t (ls_B S) t) := by
  induction k with
  | zero => exact ⟨rfl, rfl, rfl, fun t => (if_neg (Nat.not_lt_zero t)).symm⟩
  | succ k ih =>
    rw [l_ny]
    obtain ⟨C, eC⟩ : ∃ C, C = (l_ny S k).1 := ⟨_, rfl⟩
    rw [← eC] at ih ⊢
    obtain ⟨i1, i2, i3, i4⟩ := ih
    have ek : b_t C k = b_t (ls_B S) k := by rw [i4, if_neg (Nat.lt_irrefl k)]
    have ecn : l_cn (ls_sB S C) k = l_cn S k := by
      show b_ch C k (b_w C) = b_ch (ls_B S) k (b_w (ls_B S))
      unfold b_ch b_plf; rw [i1, i3, ek]
    have etx : l_tax (ls_sB S C) k (l_cn S k) = l_tax S k (l_cn S k) := by
      show te_tax (ls_T S) _ (b_w C) (t_x (b_t C k)) = te_tax (ls_T S) _ (b_w (ls_B S)) (t_x (b_t (ls_B S) k))
      rw [i3, ek]
    have e1 : b_t (l_p1 (ls_sB S C) k) k = (t_d (b_t C k), t_p (b_t C k) + l_tax (ls_sB S C) k (l_cn (ls_sB S C) k), t_x (b_t C k), t_m (b_t C k)) := if_pos rfl
    have e1' : ∀ t, ¬ t = k → b_t (l_p1 (ls_sB S C) k) t = b_t C t := fun t ht => if_neg ht
    have ew : b_w (l_p1 (ls_sB S C) k) = b_w C := rfl
    show b_p (l_py (ls_sB S C) k) = _ ∧ b_o (l_py (ls_sB S C) k) = _ ∧ b_w (l_py (ls_sB S C) k) = _ ∧ ∀ t, b_t (l_py (ls_sB S C) k) t = _
    unfold l_py
    rw [ew, show ls_T (ls_sB S C) = ls_T S from rfl, ecn, i3]
    rw [ecn, etx, ek] at e1
    by_cases q : te_tx (ls_T S) (l_cn S k) (b_w (ls_B S)) = true
    · rw [if_pos q]
      refine ⟨i1, i2, i3, fun t => ?_⟩
      show (if t = k then (t_d (b_t (l_p1 (ls_sB S C) k) k), t_p (b_t (l_p1 (ls_sB S C) k) k), t_x (b_t (l_p1 (ls_sB S C) k) k) ||| ((1 : Int32) <<< (b_w (l_p1 (ls_sB S C) k) &&& 31)), t_m (b_t (l_p1 (ls_sB S C) k) k)) else b_t (l_p1 (ls_sB S C) k) t) = _
      by_cases e : t = k
      · subst e
        rw [if_pos rfl, if_pos (Nat.lt_succ_self t), e1, ew, i3]
        unfold l_nt
        rw [if_pos q]; rfl
      · rw [if_neg e, e1' t e, i4]
        by_cases z : t < k
        · rw [if_pos z, if_pos (by omega)]
        · rw [if_neg z, if_neg (by omega)]
    · rw [if_neg q]
      refine ⟨i1, i2, i3, fun t => ?_⟩
      by_cases e : t = k
      · subst e
        rw [if_pos (Nat.lt_succ_self t), e1]
        unfold l_nt
        rw [if_neg q]
      · rw [e1' t e, i4]
        by_cases z : t < k
        · rw [if_pos z, if_pos (by omega)]
        · rw [if_neg z, if_neg (by omega)]
theorem l_ny_s {S : q_Ls} (k : Nat) : (l_ny S (k + 1)).2 = (l_ny S k).2 + l_tax S k (l_cn S k) := by
  obtain ⟨i1, i2, i3, i4⟩ := l_ny_x (S := S) k
  rw [l_ny]
  obtain ⟨C, eC⟩ : ∃ C, C = (l_ny S k).1 := ⟨_, rfl⟩
  rw [← eC] at i1 i2 i3 i4 ⊢
  have ek : b_t C k = b_t (ls_B S) k := by rw [i4, if_neg (Nat.lt_irrefl k)]
  have ecn : l_cn (ls_sB S C) k = l_cn S k := by
    show b_ch C k (b_w C) = b_ch (ls_B S) k (b_w (ls_B S))
    unfold b_ch b_plf; rw [i1, i3, ek]
  show (l_ny S k).2 + l_tax (ls_sB S C) k (l_cn (ls_sB S C) k) = _
  rw [ecn]
  show (l_ny S k).2 + te_tax (ls_T S) _ (b_w C) (t_x (b_t C k)) = (l_ny S k).2 + te_tax (ls_T S) _ (b_w (ls_B S)) (t_x (b_t (ls_B S) k))
  rw [i3, ek]
def r_nb (M : q_Mo) (np w t : Nat) : Int64 := if r_ab M.1 (m_r M) np w t 0 ≤ 0 then 0 else (1 : Int64) <<< ((nI w).toInt64 &&& 63)
theorem r_ny_x {M : q_Mo} {nb np w : Nat} (hnp : np ≤ 24) (k : Nat) : (∀ p, p < 24 → ∀ u, u < 10 → r_op (r_ny M nb np w k).1 p u = r_op (m_r M) p u) ∧ (∀ u, u < 5 → r_oo (r_ny M nb np w k).1 u = r_oo (m_r M) u) ∧ r_nw (r_ny M nb np w k).1 = r_nw (m_r M) ∧
    (∀ t u, u < 35 → r_ot (r_ny M nb np w k).1 t u = if t < k then (if u = 0 then (M.1 11).toInt64 else if u = 1 then r_ot (m_r M) t 1 + r_nb M np w t else if u = 2 then r_ot (m_r M) t 2 + r_tax M nb np w t else r_ot (m_r M) t u) else r_ot (m_r M) t u) ∧ (r_ny M nb np w (k + 1)).2 = (r_ny M nb np w k).2 + r_tax M nb np w k := by
  have eT : ∀ R : Nat → Int64, ∀ k, (∀ p, p < 24 → ∀ u, u < 10 → r_op R p u = r_op (m_r M) p u) → r_nw R = r_nw (m_r M) → (∀ u, u < 35 → r_ot R k u = r_ot (m_r M) k u) → r_nyt M nb np w R k = r_tax M nb np w k := fun R k i1 i3 i4 => by
    show r_txo M nb (r_ch R np w k 0 - r_ln M.1 w 0) (r_rp (r_ot R k 1).toInt32 w) = r_txo M nb (r_ch (m_r M) np w k 0 - r_ln M.1 w 0) (r_rp (r_ot (m_r M) k 1).toInt32 w)
    rw [r_ch_cg i1 i3 (fun u _ h => i4 u h) hnp, i4 1 (by omega)]
  induction k with
  | zero =>
    refine ⟨fun _ _ _ _ => rfl, fun _ _ => rfl, rfl, fun t u _ => (if_neg (Nat.not_lt_zero t)).symm, ?_⟩
    show 0 + r_nyt M nb np w (m_r M) 0 = 0 + r_tax M nb np w 0
    rw [eT (m_r M) 0 (fun _ _ _ _ => rfl) rfl (fun _ _ => rfl)]
  | succ k ih =>
    obtain ⟨i1, i2, i3, i4, -⟩ := ih
    have eK : ∀ u, u < 35 → r_ot (r_ny M nb np w k).1 k u = r_ot (m_r M) k u := fun u hu => by rw [i4 k u hu, if_neg (Nat.lt_irrefl k)]
    have eTk := eT (r_ny M nb np w k).1 k i1 i3 eK
    have all : (∀ p, p < 24 → ∀ u, u < 10 → r_op (r_ny M nb np w (k + 1)).1 p u = r_op (m_r M) p u) ∧ (∀ u, u < 5 → r_oo (r_ny M nb np w (k + 1)).1 u = r_oo (m_r M) u) ∧ r_nw (r_ny M nb np w (k + 1)).1 = r_nw (m_r M) ∧
        (∀ t u, u < 35 → r_ot (r_ny M nb np w (k + 1)).1 t u = if t < k + 1 then (if u = 0 then (M.1 11).toInt64 else if u = 1 then r_ot (m_r M) t 1 + r_nb M np w t else if u = 2 then r_ot (m_r M) t 2 + r_tax M nb np w t else r_ot (m_r M) t u) else r_ot (m_r M) t u) := by
      rw [r_ny]
      show (∀ p, p < 24 → ∀ u, u < 10 → r_op (r_ny4 M.1 (r_ny3 M.1 (r_ny2 (r_ny M nb np w k).1 k (r_nyt M nb np w (r_ny M nb np w k).1 k)) np w k) k) p u = r_op (m_r M) p u) ∧ (∀ u, u < 5 → r_oo (r_ny4 M.1 (r_ny3 M.1 (r_ny2 (r_ny M nb np w k).1 k (r_nyt M nb np w (r_ny M nb np w k).1 k)) np w k) k) u = r_oo (m_r M) u) ∧ r_nw (r_ny4 M.1 (r_ny3 M.1 (r_ny2 (r_ny M nb np w k).1 k (r_nyt M nb np w (r_ny M nb np w k).1 k)) np w k) k) = r_nw (m_r M) ∧ (∀ t u, u < 35 → r_ot (r_ny4 M.1 (r_ny3 M.1 (r_ny2 (r_ny M nb np w k).1 k (r_nyt M nb np w (r_ny M nb np w k).1 k)) np w k) k) t u = _)
      rw [eTk]
      generalize (r_ny M nb np w k).1 = R at i1 i2 i3 i4 eK
      have eab : r_ab M.1 (r_ny2 R k (r_tax M nb np w k)) np w k 0 = r_ab M.1 (m_r M) np w k 0 := by
        unfold r_ab
        rw [r_ch_cg (r := m_r M) (r' := r_ny2 R k (r_tax M nb np w k)) (fun p hp u hu => (ra_op hp hu).trans (i1 p hp u hu)) (ra_nw.trans i3) (fun u h1 h2 => (ra_ot (by decide) h2).trans (by rw [if_neg (by omega)]; exact eK u h2)) hnp]
      refine ⟨fun p hp u hu => ?_, fun u hu => ?_, ?_, fun t u hu => ?_⟩
      · unfold r_ny4 r_ny3 r_ny2; rw [ra_op hp hu, ra_op hp hu, ra_op hp hu]; exact i1 p hp u hu
      · unfold r_ny4 r_ny3 r_ny2; rw [ra_oo hu, ra_oo hu, ra_oo hu]; exact i2 u hu
      · unfold r_ny4 r_ny3 r_ny2; rw [ra_nw, ra_nw, ra_nw]; exact i3
      · unfold r_ny4
        rw [ra_ot (by decide) hu]
        by_cases e : t = k
        · subst e
          rw [if_pos (Nat.lt_succ_self t)]
          by_cases u0 : u = 0
          · rw [if_pos ⟨rfl, u0⟩, if_pos u0, Int64.add_comm, Int64.sub_add_cancel]
          · rw [if_neg (fun z => u0 z.2), if_neg u0]
            unfold r_ny3
            rw [ra_ot (by decide) hu, eab]
            unfold r_ny2
            by_cases u1 : u = 1
            · rw [if_pos ⟨rfl, u1⟩, if_pos u1, ra_ot (by decide) (by decide), if_neg (fun z => absurd z.2 (by decide)), eK 1 (by omega)]; rfl
            · rw [if_neg (fun z => u1 z.2), if_neg u1, ra_ot (by decide) hu]
              by_cases u2 : u = 2
              · rw [if_pos ⟨rfl, u2⟩, if_pos u2, eK 2 (by omega)]
              · rw [if_neg (fun z => u2 z.2), if_neg u2]; exact eK u hu
        · rw [if_neg (fun z => e z.1)]
          unfold r_ny3
          rw [ra_ot (by decide) hu, if_neg (fun z => e z.1)]
          unfold r_ny2
          rw [ra_ot (by decide) hu, if_neg (fun z => e z.1), i4 t u hu]
          by_cases z : t < k
          · rw [if_pos z, if_pos (show t < k + 1 by omega)]
          · rw [if_neg z, if_neg (show ¬ t < k + 1 by omega)]
    refine ⟨all.1, all.2.1, all.2.2.1, all.2.2.2, ?_⟩
    show (r_ny M nb np w (k + 1)).2 + r_nyt M nb np w (r_ny M nb np w (k + 1)).1 (k + 1) = _
    rw [eT _ (k + 1) all.1 all.2.2.1 (fun u hu => by rw [all.2.2.2 (k + 1) u hu, if_neg (Nat.lt_irrefl _)])]
theorem r_ey_x {r : Nat → Int64} (k : Nat) (hk : k ≤ 24) : (∀ p, p < 24 → ∀ u, u < 10 → r_op (r_ey r k) p u = if p < k ∧ r_has r p = true then (if u = 0 then (if r_yn r p 0 = -1 then -1 else r_op r p 0) else if u = 2 then r_op r p 2 + 1 else r_op r p u) else r_op r p u) ∧ (∀ u, u < 5 → r_oo (r_ey r k) u = r_oo r u) ∧ r_nw (r_ey r k) = r_nw r ∧ (∀ t u, r_ot (r_ey r k) t u = r_ot r t u) := by
  induction k with
  | zero => exact ⟨fun p _ u _ => (if_neg (fun z => absurd z.1 (by omega))).symm, fun _ _ => rfl, rfl, fun _ _ => rfl⟩
  | succ k ih =>
    obtain ⟨i1, i2, i3, i4⟩ := ih (by omega)
    rw [r_ey]
    generalize r_ey r k = Q at i1 i2 i3 i4
    have eK : ∀ u, u < 10 → r_op Q k u = r_op r k u := fun u hu => by rw [i1 k (by omega) u hu, if_neg (fun z => absurd z.1 (by omega))]
    have eh : r_has Q k = r_has r k := by unfold r_has; rw [eK 0 (by omega)]
    rw [eh]
    cases hh : r_has r k
    · rw [if_neg (by decide)]
      refine ⟨fun p hp u hu => ?_, i2, i3, i4⟩
      rw [i1 p hp u hu]
      by_cases e : p = k
      · subst e; rw [if_neg (c := p < p ∧ r_has r p = true) (fun z => absurd z.1 (by omega)), if_neg (c := p < p + 1 ∧ r_has r p = true) (fun z => by rw [hh] at z; cases z.2)]
      · by_cases z : p < k ∧ r_has r p = true
        · rw [if_pos z, if_pos (c := p < k + 1 ∧ r_has r p = true) ⟨by omega, z.2⟩]
        · rw [if_neg z, if_neg (c := p < k + 1 ∧ r_has r p = true) (fun y => z ⟨by omega, y.2⟩)]
    · rw [if_pos rfl]
      have e2 : ∀ u, u < 10 → ¬ u = 2 → r_op (rp Q k 2 (r_op Q k 2 + 1)) k u = r_op r k u := fun u hu h2 => by rw [rp_op (by decide) hu, if_neg (fun z => h2 z.2)]; exact eK u hu
      have ey : r_yn (rp Q k 2 (r_op Q k 2 + 1)) k 0 = r_yn r k 0 := by
        unfold r_yn r_has
        rw [e2 0 (by omega) (by omega), e2 8 (by omega) (by omega), e2 5 (by omega) (by omega), rp_nw, i3]
      unfold r_eyp
      rw [ey]
      have eo : ∀ p, p < 24 → ¬ p = k → ∀ u, u < 10 → r_op Q p u = if p < k + 1 ∧ r_has r p = true then (if u = 0 then (if r_yn r p 0 = -1 then -1 else r_op r p 0) else if u = 2 then r_op r p 2 + 1 else r_op r p u) else r_op r p u := fun p hp e u hu => by
        rw [i1 p hp u hu]
        by_cases z : p < k ∧ r_has r p = true
        · rw [if_pos z, if_pos (c := p < k + 1 ∧ r_has r p = true) ⟨by omega, z.2⟩]
        · rw [if_neg z, if_neg (c := p < k + 1 ∧ r_has r p = true) (fun y => z ⟨by omega, y.2⟩)]
      by_cases q : r_yn r k 0 = -1
      · rw [if_pos q]
        refine ⟨fun p hp u hu => ?_, fun u hu => by rw [rp_oo hu, rp_oo hu]; exact i2 u hu, by rw [rp_nw, rp_nw]; exact i3, fun t u => by rw [rp_ot (by omega) (by decide), rp_ot (by omega) (by decide)]; exact i4 t u⟩
        rw [rp_op (by decide) hu, rp_op (by decide) hu]
        by_cases e : p = k
        · subst e
          rw [if_pos (c := p < p + 1 ∧ r_has r p = true) ⟨by omega, hh⟩, if_pos q]
          by_cases u0 : u = 0
          · rw [if_pos ⟨rfl, u0⟩, if_pos u0]
          · rw [if_neg (fun z => u0 z.2), if_neg u0]
            by_cases u2 : u = 2
            · rw [if_pos ⟨rfl, u2⟩, if_pos u2, eK 2 (by omega)]
            · rw [if_neg (fun z => u2 z.2), if_neg u2]; exact eK u hu
        · rw [if_neg (fun z => e z.1), if_neg (fun z => e z.1)]; exact eo p hp e u hu
      · rw [if_neg q]
        refine ⟨fun p hp u hu => ?_, fun u hu => by rw [rp_oo hu]; exact i2 u hu, by rw [rp_nw]; exact i3, fun t u => by rw [rp_ot (by omega) (by decide)]; exact i4 t u⟩
        rw [rp_op (by decide) hu]
        by_cases e : p = k
        · subst e
          rw [if_pos (c := p < p + 1 ∧ r_has r p = true) ⟨by omega, hh⟩, if_neg q]
          by_cases u0 : u = 0
          · subst u0
            rw [if_neg (fun z => absurd z.2 (by decide)), if_pos rfl]; exact eK 0 (by omega)
          · rw [if_neg u0]
            by_cases u2 : u = 2
            · rw [if_pos ⟨rfl, u2⟩, if_pos u2, eK 2 (by omega)]
            · rw [if_neg (fun z => u2 z.2), if_neg u2]; exact eK u hu
        · rw [if_neg (fun z => e z.1)]; exact eo p hp e u hu
section
variable {S : q_Ls} {M : q_Mo} {w nt np nb c : Nat}
theorem RB.nys (h : RB (ls_B S) (m_r M) w nt np c) (he : RE (ls_T S) M nt np nb) (hc : c ≤ 600) (k : Nat) (hk : k ≤ 4) : (l_ny S k).2 = (r_ny M nb np w k).2 := by
  have hnp := h.1.2.2.2.2
  induction k with
  | zero => rfl
  | succ k ih => rw [l_ny_s, (r_ny_x hnp k).2.2.2.2, ih (by omega), h.tax he hc (show k < 4 by omega)]; rfl
theorem RB.ny (h : RB (ls_B S) (m_r M) w nt np c) (he : RE (ls_T S) M nt np nb) (hx : RX (ls_B S) nt (te_m (ls_T S))) (hc : c ≤ 600) (hw : w < 15) : RY (b_ey (l_ny S nt).1 (te_m (ls_T S))) (r_ey (r_w1 (r_ny M nb np w nt).1) np) (w + 1) nt np (c + 1) (te_m (ls_T S)) := by
  have hnp := h.1.2.2.2.2
  have hnt := h.1.2.2.2.1
  obtain ⟨a1, a2, a3, a4⟩ := l_ny_x (S := S) nt
  obtain ⟨b1, b2, b3, b4, -⟩ := r_ny_x (M := M) (nb := nb) (w := w) hnp nt
  obtain ⟨C, eC⟩ : ∃ C, C = (l_ny S nt).1 := ⟨_, rfl⟩
  obtain ⟨R, eR⟩ : ∃ R, R = (r_ny M nb np w nt).1 := ⟨_, rfl⟩
  rw [← eC] at a1 a2 a3 a4 ⊢
  rw [← eR] at b1 b2 b3 b4 ⊢
  have w1 : r_nw (r_w1 R) = nI (w + 1) := by
    show (R 0 + 1).toInt32 = nI (w + 1)
    rw [Int64.toInt32_add, show (R 0).toInt32 = r_nw R from rfl, b3, h.1.2.1]; exact nI_1 w
  have wop : ∀ p, p < 24 → ∀ u, u < 10 → r_op (r_w1 R) p u = r_op (m_r M) p u := fun p hp u hu => by
    rw [← b1 p hp u hu]; unfold r_op r_w1 vp_updL; rw [if_neg (by omega)]
  have woo : ∀ u, u < 5 → r_oo (r_w1 R) u = r_oo (m_r M) u := fun u hu => by
    rw [← b2 u hu]; unfold r_oo r_w1 vp_updL; rw [if_neg (by omega)]
  have wot : ∀ t u, r_ot (r_w1 R) t u = r_ot R t u := fun t u => by unfold r_ot r_w1 vp_updL; rw [if_neg (by omega)]
  obtain ⟨c1, c2, c3, c4⟩ := r_ey_x (r := r_w1 R) np hnp
  have whas : ∀ i, i < 24 → r_has (r_w1 R) i = pl_has (b_p (ls_B S) i) := fun i hi => by
    rw [← (h.p hi).has]; unfold r_has; rw [wop i hi 0 (by omega)]
  have ep : ∀ i, b_p (b_ey C (te_m (ls_T S))) i = pl_end (b_p (ls_B S) i) (nI (w + 1)) := fun i => by
    show pl_end (b_p C i) (b_w C + 1) = _
    rw [a1, a3, h.1.2.2.1, nI_1]
  have e11 : te_m (ls_T S) = M.1 11 := he.2.2.2.2.2.1
  have hb11 := he.2.2.2.2.2.2.2.2.2.2.2.1
  refine ⟨⟨⟨by omega, c3.trans w1, ?_, hnt, hnp⟩, fun i hi => ?_, fun t ht => ?_, ?_, ?_, fun t ht => ?_⟩, fun t _ _ => rfl⟩
  · show b_w C + 1 = nI (w + 1)
    rw [a3, h.1.2.2.1, nI_1]
  · rw [ep]
    have hp := h.p hi
    have wi := wop i hi
    cases hh : pl_has (b_p (ls_B S) i)
    · have ee : pl_end (b_p (ls_B S) i) (nI (w + 1)) = b_p (ls_B S) i := by unfold pl_end; rw [hh]; rfl
      have eu : ∀ u, u < 10 → r_op (r_ey (r_w1 R) np) i u = r_op (m_r M) i u := fun u hu => by
        rw [c1 i hi u hu, if_neg (fun z => by rw [whas i hi, hh] at z; cases z.2)]; exact wi u hu
      rw [ee]
      exact ⟨(eu 0 (by omega)).trans hp.1, (eu 1 (by omega)).trans hp.2.1, (eu 2 (by omega)).trans hp.2.2.1, fun z => by rw [hh] at z; cases z⟩
    · obtain ⟨k1, k2, ⟨h3, h4, h5, h7, h8⟩, h9, hd, s, l, es, el, hs, hwl, hl5⟩ := hp.2.2.2 hh
      have hyn : r_yn (r_w1 R) i 0 = if w + 1 - s < l then nI (w + 1 - s) else -1 := by
        unfold r_yn
        rw [whas i hi, hh, w1, wi 8 (by omega), wi 5 (by omega), h8, h5, es, el, nI_sb (by omega), Int32.add_zero]
        by_cases q : w + 1 - s < l
        · rw [if_pos q, if_pos ⟨rfl, nI_lti (by omega) q⟩]
        · rw [if_neg q, if_neg (fun z => q (nI_lto (by omega) z.2))]
      have eu : ∀ u, u < 10 → r_op (r_ey (r_w1 R) np) i u = if u = 0 then (if r_yn (r_w1 R) i 0 = -1 then -1 else r_op (m_r M) i 0) else if u = 2 then r_op (m_r M) i 2 + 1 else r_op (m_r M) i u := fun u hu => by
        rw [c1 i hi u hu, if_pos ⟨k1, by rw [whas i hi, hh]⟩, wi 0 (by omega), wi 2 (by omega), wi u hu]
      have ee : pl_end (b_p (ls_B S) i) (nI (w + 1)) = (if w + 1 - s < l then p_t (b_p (ls_B S) i) else -1, p_l (b_p (ls_B S) i), p_n (b_p (ls_B S) i) + 1, p_s (b_p (ls_B S) i), p_d (b_p (ls_B S) i)) := by
        unfold pl_end
        rw [hh, if_pos rfl]
        rw [es, el, nI_sb (by omega)]
        by_cases q : w + 1 - s < l
        · rw [if_pos q, if_pos (nI_lti (by omega) q)]
        · rw [if_neg q, if_neg (fun z => q (nI_lto (by omega) z))]
      rw [ee]
      by_cases q : w + 1 - s < l
      · rw [if_pos q] at hyn ⊢
        have hne : ¬ r_yn (r_w1 R) i 0 = -1 := by rw [hyn]; exact nI_neg1 (by omega)
        refine ⟨?_, ?_, ?_, fun _ => ⟨k1, k2, ⟨?_, ?_, ?_, ?_, ?_⟩, ?_, hd, s, l, es, el, by omega, by omega, hl5⟩⟩
        · rw [eu 0 (by omega), if_pos rfl, if_neg hne]; exact hp.1
        · rw [eu 1 (by omega), if_neg (by decide), if_neg (by decide)]; exact hp.2.1
        · rw [eu 2 (by omega), if_neg (by decide), if_pos rfl, hp.2.2.1]; rfl
        · rw [eu 3 (by omega), if_neg (by decide), if_neg (by decide)]; exact h3
        · rw [eu 4 (by omega), if_neg (by decide), if_neg (by decide)]; exact h4
        · rw [eu 5 (by omega), if_neg (by decide), if_neg (by decide)]; exact h5
        · rw [eu 7 (by omega), if_neg (by decide), if_neg (by decide)]; exact h7
        · rw [eu 8 (by omega), if_neg (by decide), if_neg (by decide)]; exact h8
        · rw [eu 9 (by omega), if_neg (by decide), if_neg (by decide), eu 6 (by omega), if_neg (by decide), if_neg (by decide)]; exact h9
      · rw [if_neg q] at hyn ⊢
        refine ⟨?_, ?_, ?_, fun z => absurd (of_decide_eq_true z) (fun y => y rfl)⟩
        · rw [eu 0 (by omega), if_pos rfl, if_pos hyn]; rfl
        · rw [eu 1 (by omega), if_neg (by decide), if_neg (by decide)]; exact hp.2.1
        · rw [eu 2 (by omega), if_neg (by decide), if_pos rfl, hp.2.2.1]; rfl
  · show RTm (t_mid (b_t C t) (te_m (ls_T S))) (r_ey (r_w1 R) np) t (w + 1) (c + 1)
    have ot : ∀ u, u < 35 → r_ot (r_ey (r_w1 R) np) t u = if t < nt then (if u = 0 then (M.1 11).toInt64 else if u = 1 then r_ot (m_r M) t 1 + r_nb M np w t else if u = 2 then r_ot (m_r M) t 2 + r_tax M nb np w t else r_ot (m_r M) t u) else r_ot (m_r M) t u := fun u hu => by
      rw [c4, wot, b4 t u hu]
    obtain ⟨t1, t2, t3, t4, t5, t6⟩ := h.2.2.1 t ht
    have hb2 : te_m (ls_T S) ≤ 99999 := hb11.2
    rw [a4 t]
    by_cases q : t < nt
    · rw [if_pos q]
      have hch := h.chw hc ht
      have hta := he.tax (w := w) (x := 0) (tx := t_x (b_t (ls_B S) t)) (by omega) hch t5
      rw [← h.w0] at hta
      have hnb : r_nb M np w t = if te_tx (ls_T S) (l_cn S t) (b_w (ls_B S)) = true then (1 : Int64) <<< ((nI w).toInt64 &&& 63) else 0 := by
        unfold r_nb r_ab
        rw [h.ch0 ht]
        cases z : te_tx (ls_T S) (l_cn S t) (b_w (ls_B S))
        · rw [if_pos (hta.2.mpr z), if_neg (by decide)]
        · rw [if_neg (fun y => by have y2 : te_tx (ls_T S) (l_cn S t) (b_w (ls_B S)) = false := hta.2.mp y; rw [z] at y2; cases y2), if_pos rfl]
      have oa := q_or_add (x := t_x (b_t (ls_B S) t)) hw t5
      refine ⟨fun y hy => ?_, ?_, hb11, ?_, ?_, ?_⟩
      · rw [ot (3 + y) (by omega), if_pos q, if_neg (by omega), if_neg (by omega), if_neg (by omega)]
        have := t1 y hy
        exact ⟨this.1, this.2.1, Int.le_trans this.2.2 (by omega)⟩
      · rw [ot 0 (by omega), if_pos q, if_pos rfl, ← e11]; rfl
      · rw [ot 1 (by omega), if_pos q, if_neg (by decide), if_pos rfl, t4, hnb]
        show _ = (if te_tx (ls_T S) (l_cn S t) (b_w (ls_B S)) = true then t_x (b_t (ls_B S) t) ||| ((1 : Int32) <<< (b_w (ls_B S) &&& 31)) else t_x (b_t (ls_B S) t)).toInt64
        cases z : te_tx (ls_T S) (l_cn S t) (b_w (ls_B S))
        · rw [if_neg (by decide), if_neg (by decide), Int64.add_zero]
        · rw [if_pos rfl, if_pos rfl, h.1.2.2.1]; exact oa.1.symm
      · show q_T (if te_tx (ls_T S) (l_cn S t) (b_w (ls_B S)) = true then t_x (b_t (ls_B S) t) ||| ((1 : Int32) <<< (b_w (ls_B S) &&& 31)) else t_x (b_t (ls_B S) t)) < 2 ^ (w + 1)
        cases z : te_tx (ls_T S) (l_cn S t) (b_w (ls_B S))
        · rw [if_neg (by decide)]; exact Nat.lt_of_lt_of_le t5 (Nat.pow_le_pow_right (by decide) (by omega))
        · rw [if_pos rfl, h.1.2.2.1]; exact oa.2
      · rw [ot 2 (by omega), if_pos q, if_neg (by decide), if_neg (by decide), if_pos rfl, t6, h.tax he hc ht]; rfl
    · rw [if_neg q]
      have e0 : t_m (b_t (ls_B S) t) = te_m (ls_T S) := hx t (by omega) ht
      refine ⟨fun y hy => ?_, ?_, hb11, ?_, ?_, ?_⟩
      · rw [ot (3 + y) (by omega), if_neg q]
        have := t1 y hy
        exact ⟨this.1, this.2.1, Int.le_trans this.2.2 (by omega)⟩
      · rw [ot 0 (by omega), if_neg q, t2, e0]; rfl
      · rw [ot 1 (by omega), if_neg q]; exact t4
      · exact Nat.lt_of_lt_of_le t5 (Nat.pow_le_pow_right (by decide) (by omega))
      · rw [ot 2 (by omega), if_neg q]; exact t6
  · show r_oo _ 0 = d_b (b_o C) ∧ r_oo _ 1 = d_r (b_o C) ∧ r_oo _ 2 = d_n (b_o C) ∧ r_oo _ 3 = d_s (b_o C) ∧ r_oo _ 4 = d_g (b_o C)
    rw [a2, c2 0 (by decide), c2 1 (by decide), c2 2 (by decide), c2 3 (by decide), c2 4 (by decide), woo 0 (by decide), woo 1 (by decide), woo 2 (by decide), woo 3 (by decide), woo 4 (by decide)]
    exact h.2.2.2.1
  · show okD (b_o C)
    rw [a2]; exact h.2.2.2.2.1
  · have hcn := h.cn ht
    have := q_cn_2 (a := b_set (b_ey C (te_m (ls_T S))) (nI t) 24) (b := b_set (ls_B S) (nI t) 24) 24 (fun k hk hb => by
      rw [b_set_bit hk] at hb ⊢
      unfold b_plf at hb ⊢
      rw [ep] at hb
      have hb := of_decide_eq_true hb
      refine decide_eq_true ?_
      unfold pl_end at hb
      split at hb
      · have hb : (if nI (w + 1) - p_s (b_p (ls_B S) k) < d_n (p_d (b_p (ls_B S) k)) then p_t (b_p (ls_B S) k) else -1) = nI t := hb
        split at hb
        · exact hb
        · exact absurd hb.symm (nI_neg1 (by omega))
      · exact hb)
    exact ⟨_, Nat.le_trans this hcn, by rw [q_bc_ty b_set_24, r_ty_cn 24 (by omega)]⟩
end
end RELK
