/-! Swaps on both sides -/
section RELA
theorem q_one {p k : Nat} (hp : p < 24) (hk : k < 32) : q_bit ((1 : Int32) <<< (nI p &&& 31)) k = decide (k = p) := by
  rw [q_bitv hk, q_shv (by omega) hk]
theorem q_cn_one : ∀ p, p < 24 → q_cn ((1 : Int32) <<< (nI p &&& 31)) 24 = 1 ∧ ¬ (1 : Int32) <<< (nI p &&& 31) = 0 ∧ q_T ((1 : Int32) <<< (nI p &&& 31)) < 16777216 := by decide +kernel
theorem q_sub_of {s u : Int32} (h : ∀ i, i < 32 → s.toBitVec.getLsbD i = true → u.toBitVec.getLsbD i = true) : s &&& (u ^^^ -1) = 0 := by
  refine Int32.toBitVec_inj.mp (BitVec.eq_of_getLsbD_eq (fun i hi => ?_))
  have h2 : (Int32.toBitVec (-1)).getLsbD i = true := (by decide : ∀ i, i < 32 → (Int32.toBitVec (-1)).getLsbD i = true) i hi
  have h3 : (Int32.toBitVec 0).getLsbD i = false := by simp
  rw [Int32.toBitVec_and, Int32.toBitVec_xor, BitVec.getLsbD_and, BitVec.getLsbD_xor, h2, h3]
  cases e : s.toBitVec.getLsbD i
  · rfl
  · rw [h i hi e]; rfl
theorem q_sub_one {B : q_Bk} {p j : Nat} (hp : p < 24) (h : b_plf B p (nI j) = true) : (1 : Int32) <<< (nI p &&& 31) &&& (b_set B (nI j) 24 ^^^ -1) = 0 := by
  refine q_sub_of (fun i hi e => ?_)
  rw [q_shv (by omega) hi] at e
  have e := of_decide_eq_true e
  subst e
  rw [b_set_v (by decide) hi, decide_eq_true hp, h]; rfl
section
variable {S : q_Ls} {M : q_Mo} {w nt np nb c j m : Nat}
theorem q_cn_1 {B : q_Bk} {p j : Nat} (hp : p < 24) (h : b_plf B p (nI j) = true) : 1 ≤ q_cn (b_set B (nI j) 24) 24 := by
  have := q_cn_2 (a := (1 : Int32) <<< (nI p &&& 31)) (b := b_set B (nI j) 24) 24 (fun k hk hb => by
    rw [q_one hp (by omega)] at hb
    have := of_decide_eq_true hb
    subst this
    rw [b_set_bit hk]; exact h)
  rw [(q_cn_one p hp).1] at this
  exact this
theorem RB.cn {B : q_Bk} {r : Nat → Int64} (h : RB B r w nt np c) {t : Nat} (ht : t < 4) : q_cn (b_set B (nI t) 24) 24 ≤ 12 := by
  obtain ⟨n, hn, en⟩ := h.2.2.2.2.2 t ht
  rw [q_bc_ty b_set_24, r_ty_cn 24 (by omega)] at en
  have := nI_inj (by have := q_cn_le (s := b_set B (nI t) 24) 24; omega) (by omega) en
  omega
theorem RB.te1 (h : RB (ls_B S) (m_r M) w nt np c) (hj : j < 4) (hm : m < 4) {p q : Nat} (hp : p < 24) (hq : q < 24) (h1 : b_plf (ls_B S) p (nI j) = true) (h2 : b_plf (ls_B S) q (nI m) = true) :
    l_te S j ((1 : Int32) <<< (nI p &&& 31)) m ((1 : Int32) <<< (nI q &&& 31)) = 0 ↔ l_sw S (l_cn S j) (nI p) (l_cn S m) (nI q) = true := by
  obtain ⟨p1, p2, p3⟩ := q_cn_one p hp
  obtain ⟨q1, q2, q3⟩ := q_cn_one q hq
  have c1 := q_cn_1 hp h1
  have c2 := q_cn_1 hq h2
  have d1 := h.cn hj
  have d2 := h.cn hm
  have n12 : ∀ c, 1 ≤ c → c ≤ 12 → ¬ (12 : Int32) < nI c - nI 1 + nI 1 := by
    intro c a b
    rw [nI_sb a, nI_add, Nat.sub_add_cancel a]
    exact fun z => by have := nI_lto (a := 12) (b := c) (by decide) z; omega
  unfold l_te
  rw [if_neg (fun z => p2 z.1), if_neg (fun z => z.elim (fun z => z (q_sub_one hp h1)) (fun z => z (q_sub_one hq h2)))]
  rw [q_bc_ty (s := b_set (ls_B S) (nI j) 24) b_set_24, q_bc_ty (s := b_set (ls_B S) (nI m) 24) b_set_24, q_bc_ty p3, q_bc_ty q3, r_ty_cn 24 (by omega), r_ty_cn 24 (by omega), r_ty_cn 24 (by omega), r_ty_cn 24 (by omega), p1, q1]
  rw [if_neg (fun z => z.elim (n12 _ c1 d1) (n12 _ c2 d2))]
  unfold l_sw l_cn
  cases e1 : l_sm S (b_ch (ls_B S) j (b_w (ls_B S))) ((1 : Int32) <<< (nI p &&& 31)) ((1 : Int32) <<< (nI q &&& 31))
  · rw [if_neg (by decide)]; exact ⟨(fun z => by cases z), (fun z => by cases z)⟩
  · rw [if_pos rfl]
    cases e2 : l_sm S (b_ch (ls_B S) m (b_w (ls_B S))) ((1 : Int32) <<< (nI q &&& 31)) ((1 : Int32) <<< (nI p &&& 31))
    · rw [if_neg (by decide)]; exact ⟨(fun z => by cases z), (fun z => by cases z)⟩
    · rw [if_pos rfl]; exact ⟨fun _ => rfl, fun _ => rfl⟩
theorem b_mv_x {B : q_Bk} {s : Int32} {f : Nat} {t : Int32} {j : Nat} (k : Nat) : t_x (b_t (b_mv B s f t k) j) = t_x (b_t B j) := by
  induction k with
  | zero => rfl
  | succ k ih =>
    rw [b_mv]
    cases q_bit s k
    · rw [if_neg (by decide)]; exact ih
    · rw [if_pos rfl]
      show t_x (if j = f then t_add (b_t (b_mv B s f t k) f) _ _ else b_t (b_mv B s f t k) j) = _
      by_cases e : j = f
      · subst e
        rw [if_pos rfl]
        unfold t_add
        split
        · exact ih
        · exact ih
      · rw [if_neg e]; exact ih
/-- the taxes behind a swap -/
theorem RB.swt (h : RB (ls_B S) (m_r M) w nt np c) (he : RE (ls_T S) M nt np nb) (hc : c < 600) (hj : j < nt) (hm : m < nt) (hjm : ¬ j = m) {p q : Nat} (hp : p < 24) (hq : q < 24) (h1 : b_plf (ls_B S) p (nI j) = true) (h2 : b_plf (ls_B S) q (nI m) = true)
    (e : r_trc M.1 (m_r M) w np j ((1 : Int32) <<< (nI p &&& 31)) m ((1 : Int32) <<< (nI q &&& 31)) = 0) : r_swt M nb np w j m p q = l_tx S j m p q := by
  have hnt := h.1.2.2.2.1
  have hj4 : j < 4 := by omega
  have hm4 : m < 4 := by omega
  have e0 : r_tre (m_r M) np j ((1 : Int32) <<< (nI p &&& 31)) m ((1 : Int32) <<< (nI q &&& 31)) = 0 := by
    unfold r_trc at e
    by_cases z : r_tre (m_r M) np j ((1 : Int32) <<< (nI p &&& 31)) m ((1 : Int32) <<< (nI q &&& 31)) = 0
    · exact z
    · rw [if_neg z] at e; exact absurd e z
  obtain ⟨k1, k2, k3, k4⟩ := h.tre hj hm hjm e0
  have h3 := h.tr (by omega) k1 k2 hjm hj hm k3 k4
  obtain ⟨g1, g2⟩ := h.trj k1 k2 hjm hj4 hm4
  have ew := h.1.2.2.1
  have er : r_trr (m_r M) w np j ((1 : Int32) <<< (nI p &&& 31)) m ((1 : Int32) <<< (nI q &&& 31)) = r_tr2 (m_r M) w np j ((1 : Int32) <<< (nI p &&& 31)) m ((1 : Int32) <<< (nI q &&& 31)) := if_pos e0
  unfold r_swt l_tx
  rw [er]
  have tx := fun t (ht : t < 4) => RB.tax (S := ls_sB S (l_mv (ls_B S) j m ((1 : Int32) <<< (nI p &&& 31)) ((1 : Int32) <<< (nI q &&& 31)))) (M := mLr M 1 (r_tr2 (m_r M) w np j ((1 : Int32) <<< (nI p &&& 31)) m ((1 : Int32) <<< (nI q &&& 31)))) (nb := nb) (c := c + 1) h3 he (by omega) (t := t) ht
  rw [tx j hj4, tx m hm4]
  unfold l_tax l_cn
  show te_tax (ls_T S) (b_ch (l_mv (ls_B S) j m _ _) j (b_w (l_mv (ls_B S) j m _ _))) (b_w (l_mv (ls_B S) j m _ _)) (t_x (b_t (l_mv (ls_B S) j m _ _) j)) + te_tax (ls_T S) (b_ch (l_mv (ls_B S) j m _ _) m (b_w (l_mv (ls_B S) j m _ _))) (b_w (l_mv (ls_B S) j m _ _)) (t_x (b_t (l_mv (ls_B S) j m _ _) m)) = _
  rw [b_mv_w2, ew, g1, g2]
  unfold l_mv
  rw [b_mv_x, b_mv_x, b_mv_x, b_mv_x]
/-- what the walk over all swaps keeps -/
def SwI (B : Int32 × Int32 × Int64) (lc : Int32) (lb : Int32 × Int64) (d : Nat) : Prop := ∃ n : Nat, n ≤ d ∧ B.1 = nI n ∧ lc = nI n ∧ B.2 = lb ∧ (n = 0 → lb.1 = -2) ∧ (0 < n → ¬ lb.1 < 0)
theorem q_swn : ∀ p, p < 24 → ∀ q, q < 24 → ¬ 32 * nI p + nI q < 0 := by
  intro p hp q hq
  rw [show (32 : Int32) = nI 32 from rfl, nI_mul, nI_add]
  exact nI_pos (by omega)
theorem RB.sw2 (h : RB (ls_B S) (m_r M) w nt np c) (he : RE (ls_T S) M nt np nb) (hc : c < 600) (hj : j < nt) (hm : m < nt) (hjm : ¬ j = m) {p : Nat} (hp : p < np) (h1 : b_plf (ls_B S) p (nI j) = true) {B : Int32 × Int32 × Int64} {lc : Int32} {lb : Int32 × Int64} {d : Nat} (hd : d ≤ 24 * 24) (hi : SwI B lc lb d) (k : Nat) (hk : k ≤ np) :
    SwI (r_sw2 M nb np w j m p B k) (l_si S j m p k lc) (l_bi S j m p k lb) (d + k) := by
  have hnt := h.1.2.2.2.1
  have hnp := h.1.2.2.2.2
  have hj4 : j < 4 := by omega
  have hm4 : m < 4 := by omega
  induction k with
  | zero => exact hi
  | succ k ih =>
    obtain ⟨n, hn, b1, b2, b3, b4, b5⟩ := ih (by omega)
    rw [r_sw2, r_sw1, l_si, l_bi, h.set hj4, h.set hm4, b_set_bit (by omega), b_set_bit (by omega)]
    cases h2 : b_plf (ls_B S) k (nI m)
    · rw [if_neg (fun z => by cases z.2), if_neg (fun z => by cases z.1), if_neg (fun z => by cases z.1)]
      exact ⟨n, by omega, b1, b2, b3, b4, b5⟩
    · rw [if_pos ⟨h1, rfl⟩, h.trc he (by omega) hj hm hjm]
      have t1 := h.te1 hj4 hm4 (p := p) (q := k) (by omega) (by omega) h1 h2
      by_cases q : l_sw S (l_cn S j) (nI p) (l_cn S m) (nI k) = true
      · have t2 := t1.mpr q
        have t3 := h.swt he hc hj hm hjm (p := p) (q := k) (by omega) (by omega) h1 h2 ((h.trc he (by omega) hj hm hjm).trans t2)
        have qq : true = true ∧ l_sw S (l_cn S j) (nI p) (l_cn S m) (nI k) = true := ⟨rfl, q⟩
        rw [if_pos t2, if_pos qq, if_pos qq, b1, b2, b3, t3]
        have e1 : nI n + 1 = nI (n + 1) := nI_1 n
        have e2 : (nI n = 0 ∨ l_tx S j m p k < (l_bi S j m p k lb).2) ↔ ((l_bi S j m p k lb).1 < 0 ∨ ¬ (l_bi S j m p k lb).2 ≤ l_tx S j m p k) := by
          rw [Int64.not_le]
          constructor
          · rintro (z | z)
            · have : n = 0 := nI_inj (b := 0) (by omega) (by decide) z
              exact Or.inl (by rw [b4 this]; decide)
            · exact Or.inr z
          · rintro (z | z)
            · by_cases n0 : n = 0
              · exact Or.inl (by rw [n0]; rfl)
              · exact absurd z (b5 (by omega))
            · exact Or.inr z
        by_cases z : nI n = 0 ∨ l_tx S j m p k < (l_bi S j m p k lb).2
        · rw [if_pos z, if_pos (e2.mp z)]
          exact ⟨n + 1, by omega, e1, e1, rfl, fun z => absurd z (by omega), fun _ => q_swn p (by omega) k (by omega)⟩
        · rw [if_neg z, if_neg (fun z2 => z (e2.mpr z2))]
          refine ⟨n + 1, by omega, e1, e1, rfl, fun z => absurd z (by omega), fun _ => ?_⟩
          by_cases n0 : n = 0
          · exact absurd (Or.inl (by rw [n0]; rfl)) z
          · exact b5 (by omega)
      · rw [if_neg (fun z => q (t1.mp z)), if_neg (fun z => q z.2), if_neg (fun z => q z.2)]
        exact ⟨n, by omega, (Int32.add_zero _).trans b1, b2, b3, b4, b5⟩
theorem r_sw2_no {M : q_Mo} {nb np w t u p : Nat} {B : Int32 × Int32 × Int64} (h : q_bit (r_set (m_r M) t np) p = false) (k : Nat) : r_sw2 M nb np w t u p B k = B := by
  induction k with
  | zero => rfl
  | succ k ih => rw [r_sw2, r_sw1, h, if_neg (fun z => by cases z.1)]; exact ih
theorem RB.sw (h : RB (ls_B S) (m_r M) w nt np c) (he : RE (ls_T S) M nt np nb) (hc : c < 600) (hj : j < nt) (hm : m < nt) (hjm : ¬ j = m) (p : Nat) (hp : p ≤ np) : SwI (r_sw M nb np w j m p) (l_so S j m np p) (l_bo S j m np p) (24 * p) := by
  have hnt := h.1.2.2.2.1
  have hnp := h.1.2.2.2.2
  have hj4 : j < 4 := by omega
  induction p with
  | zero => exact ⟨0, Nat.le_refl _, rfl, rfl, rfl, fun _ => rfl, fun z => absurd z (by omega)⟩
  | succ p ih =>
    have ih := ih (by omega)
    rw [r_sw, l_so, l_bo]
    cases h1 : b_plf (ls_B S) p (nI j)
    · rw [r_sw2_no (by rw [h.set hj4, b_set_bit (by omega)]; exact h1), if_neg (by decide), if_neg (by decide)]
      obtain ⟨n, hn, r⟩ := ih
      exact ⟨n, by omega, r⟩
    · rw [if_pos rfl, if_pos rfl]
      obtain ⟨n, hn, r⟩ := h.sw2 he hc hj hm hjm (p := p) (by omega) h1 (d := 24 * p) (by omega) ih np (Nat.le_refl _)
      exact ⟨n, by omega, r⟩
end
end RELA
