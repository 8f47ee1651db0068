/-! Charges behind a trade, and a trade's answer -/
section REL9
theorem q_chs {t t' : Int32} {SL F' F V C : Nat → Int32} (ht : t' = q_ac t SL 24) (hk : ∀ k, k < 24 → SL k + F' k = F k + V k + C k) : q_ac t' F' 24 = q_ac t F 24 + q_ac (q_ac 0 V 24) C 24 := by
  have e : q_ac 0 SL 24 + q_ac 0 F' 24 = q_ac 0 F 24 + q_ac 0 V 24 + q_ac 0 C 24 := by
    rw [← q_ac_2, ← q_ac_2, ← q_ac_2]; exact q_ac_c hk
  have e1 := q_ac_i (i := t') (f := F') 24
  have e2 := q_ac_i (i := t) (f := SL) 24
  have e3 := q_ac_i (i := t) (f := F) 24
  have e4 := q_ac_i (i := q_ac 0 V 24) (f := C) 24
  rw [e1, ht, e2, e3, e4, Int32.add_assoc, e, Int32.add_assoc, Int32.add_assoc]
theorem q_ab {a b : Int32} : a = b + (a - b) := by rw [Int32.add_comm, Int32.sub_add_cancel]
theorem RP.mvc {P : q_Pl} {r : Nat → Int64} {i w nt np : Nat} (h : RP P r i w nt np) (hw15 : w ≤ 15) (hh : pl_has P = true) {t : Nat} (ht : t < 4) : pl_cost (pl_mv P (nI t)) (nI w) = pl_sal P (nI w) := by
  obtain ⟨-, -, -, -, hd, s, l, es, el, hs, hwl, hl5⟩ := h.2.2.2 hh
  have hl1 : 1 ≤ l := by omega
  have hh2 : pl_has (pl_mv P (nI t)) = true := decide_eq_true (nI_neg1 (by omega))
  unfold pl_cost pl_sal
  rw [hh2, hh, if_pos rfl, if_pos rfl]
  have e2 : d_shr (p_d (pl_mv P (nI t))) (nI w - p_s (pl_mv P (nI t))) = 0 := by
    show (if nI w - p_s P < 0 ∨ ¬ nI w - p_s P < d_n (p_d P) then 0 else q_part 0 (d_n (p_d P)) (nI w - p_s P)) = 0
    rw [es, el, nI_sb hs]
    split
    · rfl
    · exact q_part_0 l (by omega) hl1 (w - s) (by omega)
  rw [e2, Int32.add_zero]; rfl
section
variable {B : q_Bk} {j m : Nat} {s v : Int32} {r : Nat → Int64} {w nt np c : Nat}
theorem b_mv_w2 {j m : Nat} : b_w (l_mv B j m s v) = b_w B := by unfold l_mv; rw [b_mv_w, b_mv_w]
theorem RB.trj (h : RB B r w nt np c) (hs : ∀ k, k < 24 → q_bit s k = true → p_t (b_p B k) = nI j) (hv : ∀ k, k < 24 → q_bit v k = true → p_t (b_p B k) = nI m) (hjm : ¬ j = m) (hj : j < 4) (hm : m < 4) :
    b_ch (l_mv B j m s v) j (nI w) = b_ch B j (nI w) + b_cc B s v ∧ b_ch (l_mv B j m s v) m (nI w) = b_ch B m (nI w) + b_cc B v s := by
  have ew := h.1.2.2.1
  have hw := h.1.1
  have hpl : ∀ k, k < 24 → ∀ t, t < 4 → ∀ i, i < 4 → p_t (b_p B k) = nI i → b_plf B k (nI t) = decide (i = t) := fun k hk t ht i hi e => by
    unfold b_plf; rw [e]; exact decide_eq_decide.mpr ⟨fun z => nI_inj (by omega) (by omega) z, fun z => by rw [z]⟩
  have t1 : t_in (b_t (l_mv B j m s v) j) (nI w) = q_ac (t_in (b_t B j) (nI w)) (fun k => if q_bit s k = true then pl_sl (b_p B k) (nI w) else 0) 24 := by
    unfold l_mv; rw [b_mv_t hjm, b_mv_in (by omega) ew]
  have t2 : t_in (b_t (l_mv B j m s v) m) (nI w) = q_ac (t_in (b_t B m) (nI w)) (fun k => if q_bit v k = true then pl_sl (b_p B k) (nI w) else 0) 24 := by
    unfold l_mv
    rw [b_mv_in (by omega) ((b_mv_w _ _ _ _ _).trans ew), b_mv_t (fun z => hjm z.symm)]
    refine q_ac_c (fun k hk => ?_)
    cases hb : q_bit v k
    · rw [if_neg (by decide), if_neg (by decide)]
    · rw [if_pos rfl, if_pos rfl, b_mv_p, if_neg (fun z => hjm (nI_inj (by omega) (by omega) ((hs k hk z.2).symm.trans (hv k hk hb))))]
  unfold b_cc b_sn
  rw [ew]
  refine ⟨q_chs t1 (fun k hk => ?_), q_chs t2 (fun k hk => ?_)⟩
  · skip
    obtain ⟨hx1, hx⟩ := l_mv_p hs hv hjm hj hm hk
    rw [l_mv_plf hs hv hjm hj hm hk j hj, hx1]
    cases e1 : q_bit v k
    · cases e2 : q_bit s k
      · simp
      · rw [hpl k hk j hj j hj (hs k hk e2), decide_eq_true rfl, decide_eq_false (show ¬ m = j from fun z => hjm z.symm)]
        simp
        exact q_ab
    · cases e2 : q_bit s k
      · rw [hpl k hk j hj m hm (hv k hk e1), decide_eq_true rfl, decide_eq_false (show ¬ m = j from fun z => hjm z.symm)]
        simp [(h.p hk).mvc hw (h.on hk hm (hv k hk e1)).2 hj]
      · exact absurd ⟨e2, e1⟩ hx
  · skip
    obtain ⟨hx1, hx⟩ := l_mv_p hs hv hjm hj hm hk
    rw [l_mv_plf hs hv hjm hj hm hk m hm, hx1]
    cases e1 : q_bit v k
    · cases e2 : q_bit s k
      · simp
      · rw [hpl k hk m hm j hj (hs k hk e2), decide_eq_true rfl, decide_eq_false hjm]
        simp [(h.p hk).mvc hw (h.on hk hj (hs k hk e2)).2 hm]
    · cases e2 : q_bit s k
      · rw [hpl k hk m hm m hm (hv k hk e1), decide_eq_true rfl, decide_eq_false hjm]
        simp
        exact q_ab
      · exact absurd ⟨e2, e1⟩ hx
end
section
variable {S : q_Ls} {M : q_Mo} {w nt np nb c j m : Nat} {s v : Int32}
/-- do salaries match -/
theorem RB.mt (h : RB (ls_B S) (m_r M) w nt np c) (he : RE (ls_T S) M nt np nb) {ch go co : Int32} {lv cm : Int32} (hgo : go = b_sn (ls_B S) lv) (hco : co = b_sn (ls_B S) cm) : r_mt (ch + b_cc (ls_B S) lv cm) (r_cap M.1 w 0) (r_ln M.1 w 0) ch go co = l_sm S ch lv cm := by
  subst hgo hco
  have hw := h.1.1
  unfold r_mt l_sm r_lim l_lim
  rw [he.cap (by omega), he.line (by omega), ← h.w0]
  by_cases q : te_ci (ls_T S) (b_w (ls_B S)) < ch + b_cc (ls_B S) lv cm
  · rw [if_pos q]
    by_cases q2 : te_li (ls_T S) (b_w (ls_B S)) < ch
    · rw [if_pos q2, if_neg (Int32.not_le.mpr q2)]
      exact decide_eq_decide.mpr ⟨fun z => z.elim (fun z => absurd z (Int32.not_le.mpr q)) id, fun z => Or.inr z⟩
    · rw [if_neg q2, if_pos (Int32.not_lt.mp q2)]
      exact decide_eq_decide.mpr ⟨fun z => z.elim (fun z => absurd z (Int32.not_le.mpr q)) id, fun z => Or.inr z⟩
  · rw [if_neg q]
    exact decide_eq_true (Or.inl (Int32.not_lt.mp q))
/-- what the early answers say -/
theorem RB.tre (h : RB (ls_B S) (m_r M) w nt np c) (hj : j < nt) (hm : m < nt) (hjm : ¬ j = m) (e : r_tre (m_r M) np j s m v = 0) : (∀ k, k < 24 → q_bit s k = true → p_t (b_p (ls_B S) k) = nI j) ∧ (∀ k, k < 24 → q_bit v k = true → p_t (b_p (ls_B S) k) = nI m) ∧
    q_cn (b_set (l_mv (ls_B S) j m s v) (nI j) 24) 24 ≤ 12 ∧ q_cn (b_set (l_mv (ls_B S) j m s v) (nI m) 24) 24 ≤ 12 := by
  have hnt := h.1.2.2.2.1
  have hj4 : j < 4 := by omega
  have hm4 : m < 4 := by omega
  unfold r_tre at e
  rw [h.set hj4, h.set hm4] at e
  by_cases q1 : s = 0 ∧ v = 0
  · rw [if_pos q1] at e; cases e
  rw [if_neg q1] at e
  by_cases q2 : ¬ s &&& (b_set (ls_B S) (nI j) 24 ^^^ -1) = 0 ∨ ¬ v &&& (b_set (ls_B S) (nI m) 24 ^^^ -1) = 0
  · rw [if_pos q2] at e; cases e
  rw [if_neg q2] at e
  have hsj := q_sub_p (Decidable.not_not.mp (fun z => q2 (Or.inl z)))
  have hvm := q_sub_p (Decidable.not_not.mp (fun z => q2 (Or.inr z)))
  obtain ⟨c1, c2, c3, c4, c5⟩ := l_mv_cn hsj.1 hvm.1 hjm hj4 hm4
  refine ⟨hsj.1, hvm.1, ?_⟩
  by_cases q3 : 12 < r_ty (b_set (ls_B S) (nI j) 24) 24 - r_ty s 24 + r_ty v 24 ∨ 12 < r_ty (b_set (ls_B S) (nI m) 24) 24 - r_ty v 24 + r_ty s 24
  · rw [if_pos q3] at e; cases e
  have l1 := q_cn_le (s := b_set (l_mv (ls_B S) j m s v) (nI j) 24) 24
  have l2 := q_cn_le (s := b_set (l_mv (ls_B S) j m s v) (nI m) 24) 24
  have f1 := fun z => q3 (Or.inl z)
  have f2 := fun z => q3 (Or.inr z)
  rw [r_ty_cn 24 (by omega), r_ty_cn 24 (by omega), r_ty_cn 24 (by omega), nI_sb c4, nI_add] at f1
  rw [r_ty_cn 24 (by omega), r_ty_cn 24 (by omega), r_ty_cn 24 (by omega), nI_sb c5, nI_add] at f2
  have g1 := nI_nlto (a := 12) (by omega) f1
  have g2 := nI_nlto (a := 12) (by omega) f2
  omega
theorem RB.trc (h : RB (ls_B S) (m_r M) w nt np c) (he : RE (ls_T S) M nt np nb) (hc : c ≤ 600) (hj : j < nt) (hm : m < nt) (hjm : ¬ j = m) : r_trc M.1 (m_r M) w np j s m v = l_te S j s m v := by
  have hnt := h.1.2.2.2.1
  have hj4 : j < 4 := by omega
  have hm4 : m < 4 := by omega
  have key : r_tre (m_r M) np j s m v = 0 → r_trm M.1 (m_r M) (r_tr2 (m_r M) w np j s m v) w np j s m v = (if l_sm S (b_ch (ls_B S) j (b_w (ls_B S))) s v = true then (if l_sm S (b_ch (ls_B S) m (b_w (ls_B S))) v s = true then 0 else -6) else -5) := fun e => by
    obtain ⟨k1, k2, k3, k4⟩ := h.tre hj hm hjm e
    have h2 := h.tr hc k1 k2 hjm hj hm k3 k4
    have ew := h.1.2.2.1
    obtain ⟨g1, g2⟩ := h.trj k1 k2 hjm hj4 hm4
    have hs0 : ∀ k, np ≤ k → k < 24 → q_bit s k = false := fun k h1 h2 => by
      cases hb : q_bit s k
      · rfl
      · exact absurd (h.on h2 hj4 (k1 k h2 hb)).1 (by omega)
    have hv0 : ∀ k, np ≤ k → k < 24 → q_bit v k = false := fun k h1 h2 => by
      cases hb : q_bit v k
      · rfl
      · exact absurd (h.on h2 hm4 (k2 k h2 hb)).1 (by omega)
    unfold r_trm
    rw [h2.ch0 hj4, h2.ch0 hm4, h.ch0 hj4, h.ch0 hm4, b_mv_w2, ew, g1, g2, h.mt he (h.sls hs0) (h.sls hv0), h.mt he (h.sls hv0) (h.sls hs0)]
  unfold r_trc l_te
  by_cases e : r_tre (m_r M) np j s m v = 0
  · rw [if_pos e, key e]
    unfold r_tre at e
    rw [h.set hj4, h.set hm4] at e
    by_cases q1 : s = 0 ∧ v = 0
    · rw [if_pos q1] at e; cases e
    rw [if_neg q1] at e
    rw [if_neg q1]
    by_cases q2 : ¬ s &&& (b_set (ls_B S) (nI j) 24 ^^^ -1) = 0 ∨ ¬ v &&& (b_set (ls_B S) (nI m) 24 ^^^ -1) = 0
    · rw [if_pos q2] at e; cases e
    rw [if_neg q2] at e
    rw [if_neg q2]
    have hsj := q_sub_p (Decidable.not_not.mp (fun z => q2 (Or.inl z)))
    have hvm := q_sub_p (Decidable.not_not.mp (fun z => q2 (Or.inr z)))
    rw [q_bc_ty b_set_24, q_bc_ty b_set_24, q_bc_ty hsj.2, q_bc_ty hvm.2]
    by_cases q3 : 12 < r_ty (b_set (ls_B S) (nI j) 24) 24 - r_ty s 24 + r_ty v 24 ∨ 12 < r_ty (b_set (ls_B S) (nI m) 24) 24 - r_ty v 24 + r_ty s 24
    · rw [if_pos q3] at e; cases e
    rw [if_neg q3]
  · rw [if_neg e]
    unfold r_tre at e ⊢
    rw [h.set hj4, h.set hm4] at e ⊢
    by_cases q1 : s = 0 ∧ v = 0
    · rw [if_pos q1, if_pos q1]
    rw [if_neg q1] at e
    rw [if_neg q1, if_neg q1]
    by_cases q2 : ¬ s &&& (b_set (ls_B S) (nI j) 24 ^^^ -1) = 0 ∨ ¬ v &&& (b_set (ls_B S) (nI m) 24 ^^^ -1) = 0
    · rw [if_pos q2, if_pos q2]
    rw [if_neg q2] at e
    rw [if_neg q2, if_neg q2]
    have hsj := q_sub_p (Decidable.not_not.mp (fun z => q2 (Or.inl z)))
    have hvm := q_sub_p (Decidable.not_not.mp (fun z => q2 (Or.inr z)))
    rw [q_bc_ty (s := b_set (ls_B S) (nI j) 24) b_set_24, q_bc_ty (s := b_set (ls_B S) (nI m) 24) b_set_24, q_bc_ty hsj.2, q_bc_ty hvm.2]
    by_cases q3 : 12 < r_ty (b_set (ls_B S) (nI j) 24) 24 - r_ty s 24 + r_ty v 24 ∨ 12 < r_ty (b_set (ls_B S) (nI m) 24) 24 - r_ty v 24 + r_ty s 24
    · rw [if_pos q3, if_pos q3]
    · rw [if_neg q3] at e; exact absurd rfl e
end
end REL9
