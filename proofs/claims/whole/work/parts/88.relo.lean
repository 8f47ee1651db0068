/-! The reference answers as the class did: what changes the state -/
section RELO
variable {V : q_En} {h : q_H} {z : Option Nat} {Kx : q_KX}
theorem rg_in {v lo hi : Int32} (h : rg v lo hi = true) : lo ≤ v ∧ v ≤ hi := by
  have := of_decide_eq_true h
  exact ⟨Int32.not_lt.mp this.1, this.2⟩
theorem okD_rg {b q l s g : Int32} (h : (rg b 1 99999 && rg q 0 20 && rg l 1 5 && rg s 0 99999 && rg g 0 l) = true) : okD (b, q, l, s, g) := by
  rw [Bool.and_eq_true, Bool.and_eq_true, Bool.and_eq_true, Bool.and_eq_true] at h
  obtain ⟨⟨⟨⟨h1, h2⟩, h3⟩, h4⟩, h5⟩ := h
  exact ⟨rg_in h1, rg_in h2, rg_in h3, rg_in h4, rg_in h5⟩
abbrev ls_rem (S : q_Ls) : q_Ls := ls_sH S (hs_rem (ls_H S) (ls_B S))
def o_makeOffer (S : q_Ls) (b q l s g : Int32) : Int32 → Int64 → q_Ls → Prop := o_x S (rg b 1 99999 && rg q 0 20 && rg l 1 5 && rg s 0 99999 && rg g 0 l) (fun k v S' => k = 0 ∧ v = (d_sal (b, q, l, s, g) 0 + d_shr (b, q, l, s, g) 0).toInt64 ∧ S' = ls_sB (ls_rem S) (b_sO (ls_B S) (b, q, l, s, g)))
theorem sX9_makeOffer {a c : Nat} {S S' : q_Ls} {M : q_Mo} {b q l s g : Int32} {k : Int32} {v : Int64} {P : Int32 → q_H → Option Nat → Prop} (hR : Rel S M c) (hc : c < 600) (hM : isM h a M) (hO : o_makeOffer S b q l s g k v S') (hk : ∀ h2 M2 b9, isM h2 a M2 → q_out a 13 h h2 → M2.1 4 = k → (k = 0 → b9.toInt64 = v) → Rel S' M2 (c + 1) → P b9 h2 z) : QMi V iX9_makeOffer [.ref a, .int b, .int q, .int l, .int s, .int g] h z P Kx := by
  obtain ⟨nt, np, nb, w, hA, hP, hF⟩ := hR.get
  have eG : ¬ M.1 3 = 0 → (mgO b q l s g) = (rg b 1 99999 && rg q 0 20 && rg l 1 5 && rg s 0 99999 && rg g 0 l) := fun m => by
    obtain ⟨-, hE, -⟩ := hF m
    exact mgO_rg
  have hw : ∀ b9 h2, (M.1 3 = 0 ∨ (mgO b q l s g) = false) → isM h2 a (mS M 4 (mo_th M (mgO b q l s g))) → q_out a 13 h h2 → P b9 h2 z := fun b9 h2 q hM2 ho => by
    obtain ⟨w1, w2, w3⟩ := o_x.w hO hR.2.2.2.1 eG q
    subst w3
    exact hk _ _ _ hM2 ho w1 (fun e => absurd e w2) (hR.s4 _)
  refine mX9_makeOffer hM hR.2.2.2.2.1 hR.1.2.2.2.2.2 (fun q h2 hM2 ho => hw _ _ q hM2 ho) (fun m g1 h2 hM2 ho => ?_)
  obtain ⟨hl, hE, hE0, hB, hX⟩ := hF m
  obtain ⟨rfl, rfl, rfl⟩ := o_x.k hO hR.2.2.2.1 eG m g1
  have hd := okD_rg ((eG m).symm.trans g1)
  exact hk _ _ _ hM2 ho rfl (fun _ => congrArg Int32.toInt64 (hB.mo hd).lof) (hR.rem hl (fun _ _ _ w hE hY => ⟨w, (hY.1.mo hd).cgr (fun _ _ => rfl) (Nat.le_succ c), hY.2⟩))
def o_sign (S : q_Ls) (t p x : Int32) : Int32 → Int64 → q_Ls → Prop := o_x S (gT S t && gP S p && rg x 0 3) (fun k v S' => ∃ j i, j < 4 ∧ i < 24 ∧ t = nI j ∧ p = nI i ∧ k = 0 ∧ ((¬ l_se S j i x = 0 ∧ v = (l_se S j i x).toInt64 ∧ S' = S) ∨ (l_se S j i x = 0 ∧ v = (b_ch (l_sg (ls_B S) j i x) j (b_w (l_sg (ls_B S) j i x))).toInt64 ∧ S' = ls_sB (ls_rem S) (l_sg (ls_B S) j i x))))
theorem sX9_sign {a c : Nat} {S S' : q_Ls} {M : q_Mo} {t p x : Int32} {k : Int32} {v : Int64} {P : Int32 → q_H → Option Nat → Prop} (hR : Rel S M c) (hc : c < 600) (hM : isM h a M) (hO : o_sign S t p x k v S') (hk : ∀ h2 M2 b9, isM h2 a M2 → q_out a 13 h h2 → M2.1 4 = k → (k = 0 → b9.toInt64 = v) → Rel S' M2 (c + 1) → P b9 h2 z) : QMi V iX9_sign [.ref a, .int t, .int p, .int x] h z P Kx := by
  obtain ⟨nt, np, nb, w, hA, hP, hF⟩ := hR.get
  have eG : ¬ M.1 3 = 0 → (mgS M t p x) = (gT S t && gP S p && rg x 0 3) := fun m => by
    obtain ⟨-, hE, -⟩ := hF m
    exact hE.eS
  have hw : ∀ b9 h2, (M.1 3 = 0 ∨ (mgS M t p x) = false) → isM h2 a (mS M 4 (mo_th M (mgS M t p x))) → q_out a 13 h h2 → P b9 h2 z := fun b9 h2 q hM2 ho => by
    obtain ⟨w1, w2, w3⟩ := o_x.w hO hR.2.2.2.1 eG q
    subst w3
    exact hk _ _ _ hM2 ho w1 (fun e => absurd e w2) (hR.s4 _)
  refine mX9_sign hM hA hR.2.2.2.2.1 hR.1.2.2.2.2.2 (fun q h2 hM2 ho => hw _ _ q hM2 ho) (fun m g j i hj hi e e3 q h2 hM2 ho => ?_) (fun m g j i hj hi e e3 q h2 hM2 ho => ?_)
  · obtain ⟨hl, hE, hE0, hB, hX⟩ := hF m
    obtain ⟨j2, i2, hj2, hi2, e2, e4, rfl, hv⟩ := o_x.k hO hR.2.2.2.1 eG m g
    subst e
    subst e3
    obtain rfl : j = j2 := nI_inj (by omega) (by omega) e2
    obtain rfl : i = i2 := nI_inj (by omega) (by omega) e4
    have ew := hB.why hE (by omega) hj hi x
    rw [ew] at q
    rcases hv with ⟨-, rfl, rfl⟩ | ⟨q2, -⟩
    · exact hk _ _ _ hM2 ho rfl (fun _ => congrArg Int32.toInt64 ew) (hR.s4 0)
    · exact absurd q2 (i_ne q)
  · obtain ⟨hl, hE, hE0, hB, hX⟩ := hF m
    obtain ⟨j2, i2, hj2, hi2, e2, e4, rfl, hv⟩ := o_x.k hO hR.2.2.2.1 eG m g
    subst e
    subst e3
    obtain rfl : j = j2 := nI_inj (by omega) (by omega) e2
    obtain rfl : i = i2 := nI_inj (by omega) (by omega) e4
    have ew := hB.why hE (by omega) hj hi x
    rw [ew] at q
    have q3 := i_nn l_se_s q
    have g2 := (eG m).symm.trans g
    rw [Bool.and_eq_true, Bool.and_eq_true] at g2
    have lj := gT_lt g2.1.1 hE.2.2.2.1.1 hE.1.2 hj
    have li := gP_lt g2.1.2 hE.2.2.2.1.2.2.1 hE.2.1.2 hi
    rcases hv with ⟨q2, -⟩ | ⟨q2, rfl, rfl⟩
    · exact absurd q3 q2
    · exact hk _ _ _ hM2 ho rfl (fun _ => congrArg Int32.toInt64 ((hB.sg lj li q3).ch0 hj)) (hR.rem hl (fun nt2 np2 nb2 w hE2 hY => by
        have l1 := gT_lt g2.1.1 hE2.2.2.2.1.1 hE2.1.2 hj
        have l2 := gP_lt g2.1.2 hE2.2.2.2.1.2.2.1 hE2.2.1.2 hi
        exact ⟨w, (hY.1.sg l1 l2 q3).cgr (fun _ _ => rfl) (Nat.le_succ c), hY.2.sg l1⟩))
def o_release (S : q_Ls) (p st : Int32) : Int32 → Int64 → q_Ls → Prop := o_x S (gP S p) (fun k v S' => ∃ i, i < 24 ∧ p = nI i ∧ k = 0 ∧ ((pl_has (b_p (ls_B S) i) = false ∧ v = -2 ∧ S' = S) ∨ (∃ j, j < 4 ∧ pl_has (b_p (ls_B S) i) = true ∧ p_t (b_p (ls_B S) i) = nI j ∧ v = (b_dsum (ls_B S) i st).toInt64 ∧ S' = ls_sB (ls_rem S) (b_dis (ls_B S) i j st))))
theorem sX9_release {a c : Nat} {S S' : q_Ls} {M : q_Mo} {p st : Int32} {k : Int32} {v : Int64} {P : Int32 → q_H → Option Nat → Prop} (hR : Rel S M c) (hc : c < 600) (hM : isM h a M) (hO : o_release S p st k v S') (hk : ∀ h2 M2 b9, isM h2 a M2 → q_out a 13 h h2 → M2.1 4 = k → (k = 0 → b9.toInt64 = v) → Rel S' M2 (c + 1) → P b9 h2 z) : QMi V iX9_release [.ref a, .int p, .int st] h z P Kx := by
  obtain ⟨nt, np, nb, w, hA, hP, hF⟩ := hR.get
  have eG : ¬ M.1 3 = 0 → (mgP M p) = (gP S p) := fun m => by
    obtain ⟨-, hE, -⟩ := hF m
    exact hE.eP
  have hw : ∀ b9 h2, (M.1 3 = 0 ∨ (mgP M p) = false) → isM h2 a (mS M 4 (mo_th M (mgP M p))) → q_out a 13 h h2 → P b9 h2 z := fun b9 h2 q hM2 ho => by
    obtain ⟨w1, w2, w3⟩ := o_x.w hO hR.2.2.2.1 eG q
    subst w3
    exact hk _ _ _ hM2 ho w1 (fun e => absurd e w2) (hR.s4 _)
  refine mX9_release hM hA hP hR.2.2.2.2.1 hR.1.2.2.2.2.2 (fun q h2 hM2 ho => hw _ _ q hM2 ho) (fun m g i hi e q h2 hM2 ho => ?_) (fun m g i hi e q j hj ej h2 f hf hM2 ho => ?_)
  · obtain ⟨hl, hE, hE0, hB, hX⟩ := hF m
    obtain ⟨i2, hi2, e2, rfl, hv⟩ := o_x.k hO hR.2.2.2.1 eG m g
    subst e
    obtain rfl : i = i2 := nI_inj (by omega) (by omega) e2
    rw [(hB.p hi).has] at q
    rcases hv with ⟨-, rfl, rfl⟩ | ⟨j, hj, q2, -⟩
    · exact hk _ _ _ hM2 ho rfl (fun _ => rfl) (hR.s4 0)
    · rw [q] at q2; cases q2
  · obtain ⟨hl, hE, hE0, hB, hX⟩ := hF m
    obtain ⟨i2, hi2, e2, rfl, hv⟩ := o_x.k hO hR.2.2.2.1 eG m g
    subst e
    obtain rfl : i = i2 := nI_inj (by omega) (by omega) e2
    rw [(hB.p hi).has] at q
    rcases hv with ⟨q2, -⟩ | ⟨j2, hj2, q2, ej2, rfl, rfl⟩
    · rw [q] at q2; cases q2
    · obtain rfl : j = j2 := nI_inj (by omega) (by omega) (ej.symm.trans ((hB.p hi).1.trans ej2))
      have hw1 : r_nw (m_r M) = nI w := hB.1.2.1
      refine hk _ _ _ hM2 ho rfl (fun _ => congrArg Int32.toInt64 ?_) (Rel.i10 (hR.rem hl (fun nt2 np2 nb2 w2 hE2 hY => ?_)) f)
      · rw [(hB.p hi).lt hB.1.2.1 hB.1.1 q st]
        unfold b_dsum
        rw [hB.1.2.2.1]
      · have : w2 = w := nI_inj (by have := hY.1.1.1; omega) (by have := hB.1.1; omega) (hY.1.1.2.1.symm.trans hw1)
        subst this
        exact ⟨w2, hY.1.dis (by omega) hi hj q ej2 st, hY.2.dis⟩
def o_trade (S : q_Ls) (t s u y : Int32) : Int32 → Int64 → q_Ls → Prop := o_x S (gTr S t s u y) (fun k v S' => ∃ j m, j < 4 ∧ m < 4 ∧ t = nI j ∧ u = nI m ∧ k = 0 ∧ ((¬ l_te S j s m y = 0 ∧ v = (l_te S j s m y).toInt64 ∧ S' = S) ∨ (l_te S j s m y = 0 ∧ v = (b_ch (l_mv (ls_B S) j m s y) j (b_w (l_mv (ls_B S) j m s y)) + b_ch (l_mv (ls_B S) j m s y) m (b_w (l_mv (ls_B S) j m s y))).toInt64 ∧ S' = ls_sB (ls_rem S) (l_mv (ls_B S) j m s y))))
theorem r_trc_z {m : Nat → Int32} {r : Nat → Int64} {w np t u : Nat} {s v : Int32} (e : r_trc m r w np t s u v = 0) : r_tre r np t s u v = 0 := by
  unfold r_trc at e
  by_cases q : r_tre r np t s u v = 0
  · exact q
  · rw [if_neg q] at e; exact e
theorem sX9_trade {a c : Nat} {S S' : q_Ls} {M : q_Mo} {t s u y : Int32} {k : Int32} {v : Int64} {P : Int32 → q_H → Option Nat → Prop} (hR : Rel S M c) (hc : c < 600) (hM : isM h a M) (hO : o_trade S t s u y k v S') (hk : ∀ h2 M2 b9, isM h2 a M2 → q_out a 13 h h2 → M2.1 4 = k → (k = 0 → b9.toInt64 = v) → Rel S' M2 (c + 1) → P b9 h2 z) : QMi V iX9_trade [.ref a, .int t, .int s, .int u, .int y] h z P Kx := by
  obtain ⟨nt, np, nb, w, hA, hP, hF⟩ := hR.get
  have eG : ¬ M.1 3 = 0 → (mgTr M t s u y) = (gTr S t s u y) := fun m => by
    obtain ⟨-, hE, -⟩ := hF m
    exact hE.eTr
  have hw : ∀ b9 h2, (M.1 3 = 0 ∨ (mgTr M t s u y) = false) → isM h2 a (mS M 4 (mo_th M (mgTr M t s u y))) → q_out a 13 h h2 → P b9 h2 z := fun b9 h2 q hM2 ho => by
    obtain ⟨w1, w2, w3⟩ := o_x.w hO hR.2.2.2.1 eG q
    subst w3
    exact hk _ _ _ hM2 ho w1 (fun e => absurd e w2) (hR.s4 _)
  refine mX9_trade hM hA hR.2.2.2.2.1 hR.1.2.2.2.2.2 (fun q h2 hM2 ho => hw _ _ q hM2 ho) (fun m g j i hj hi e e3 q h2 A9 hM2 ho => ?_) (fun m g j i hj hi e e3 q h2 A9 hM2 ho => ?_)
  · obtain ⟨hl, hE, hE0, hB, hX⟩ := hF m
    obtain ⟨j2, i2, hj2, hi2, e2, e4, rfl, hv⟩ := o_x.k hO hR.2.2.2.1 eG m g
    subst e
    subst e3
    obtain rfl : j = j2 := nI_inj (by omega) (by omega) e2
    obtain rfl : i = i2 := nI_inj (by omega) (by omega) e4
    obtain ⟨l1, l2, l3⟩ := gTr_lt ((eG m).symm.trans g) hE.2.2.2.1.1 hE.1.2 hj hi
    have ew := hB.trc (s := s) (v := y) hE (by omega) l1 l2 l3
    rw [ew] at q
    rcases hv with ⟨-, rfl, rfl⟩ | ⟨q2, -⟩
    · exact hk _ _ _ hM2 ho rfl (fun _ => congrArg Int32.toInt64 ew) ((hR.s4 0).l9 A9)
    · exact absurd q2 (i_ne q)
  · obtain ⟨hl, hE, hE0, hB, hX⟩ := hF m
    obtain ⟨j2, i2, hj2, hi2, e2, e4, rfl, hv⟩ := o_x.k hO hR.2.2.2.1 eG m g
    subst e
    subst e3
    obtain rfl : j = j2 := nI_inj (by omega) (by omega) e2
    obtain rfl : i = i2 := nI_inj (by omega) (by omega) e4
    have gg := (eG m).symm.trans g
    obtain ⟨l1, l2, l3⟩ := gTr_lt gg hE.2.2.2.1.1 hE.1.2 hj hi
    have ew := hB.trc (s := s) (v := y) hE (by omega) l1 l2 l3
    rw [ew] at q
    have q3 := i_nn l_te_s q
    have q4 := r_trc_z (ew.trans q3)
    obtain ⟨k1, k2, k3, k4⟩ := hB.tre l1 l2 l3 q4
    have hT := hB.tr (by omega) k1 k2 l3 l1 l2 k3 k4
    have er : r_trr (m_r M) w np j s i y = r_tr2 (m_r M) w np j s i y := if_pos q4
    rw [er] at hM2
    rcases hv with ⟨q2, -⟩ | ⟨q2, rfl, rfl⟩
    · exact absurd q3 q2
    · refine hk _ _ _ hM2 ho rfl (fun _ => congrArg Int32.toInt64 ?_) (Rel.rem (hR.l9 A9) hl (fun nt2 np2 nb2 w2 hE2 hY => ?_))
      · rw [er, hT.ch0 hj, hT.ch0 hi]
      · have hY1 : RB (ls_B S) (m_r M) w2 nt2 np2 c := hY.1
        have : w2 = w := nI_inj (by have := hY1.1.1; omega) (by have := hB.1.1; omega) (hY1.1.2.1.symm.trans hB.1.2.1)
        subst this
        have e5 : np2 = np := nI_inj (by have := hE2.2.1; omega) (by have := hE.2.1; omega) (hE2.2.2.2.1.2.2.1.symm.trans hE.2.2.2.1.2.2.1)
        subst e5
        obtain ⟨l1, l2, l3⟩ := gTr_lt gg hE2.2.2.2.1.1 hE2.1.2 hj hi
        exact ⟨w2, hY1.tr (by omega) k1 k2 l3 l1 l2 k3 k4, hY.2.mv⟩
def o_nextYear (S : q_Ls) : Int32 → Int64 → q_Ls → Prop := o_x S (true) (fun k v S' => k = 0 ∧ ((15 ≤ b_w (ls_B S) ∧ v = -2 ∧ S' = S) ∨ (b_w (ls_B S) < 15 ∧ ∃ n, n ≤ 4 ∧ te_t (ls_T S) = nI n ∧ v = (l_ny (ls_rem S) n).2 ∧ S' = ls_sB (ls_rem S) (b_ey (l_ny (ls_rem S) n).1 (te_m (ls_T S))))))
theorem sX9_nextYear {a c : Nat} {S S' : q_Ls} {M : q_Mo} {k : Int32} {v : Int64} {P : Int64 → q_H → Option Nat → Prop} (hR : Rel S M c) (hc : c < 600) (hM : isM h a M) (hO : o_nextYear S k v S') (hk : ∀ h2 M2 b9, isM h2 a M2 → q_out a 13 h h2 → M2.1 4 = k → (k = 0 → b9 = v) → Rel S' M2 (c + 1) → P b9 h2 z) : QMl V iX9_nextYear [.ref a] h z P Kx := by
  obtain ⟨nt, np, nb, w, hA, hP, hF⟩ := hR.get
  have eG : ¬ M.1 3 = 0 → (true) = (true) := fun m => by
    obtain ⟨-, hE, -⟩ := hF m
    rfl
  have hw : ∀ b9 h2, (M.1 3 = 0 ∨ (true) = false) → isM h2 a (mS M 4 (mo_th M (true))) → q_out a 13 h h2 → P b9 h2 z := fun b9 h2 q hM2 ho => by
    obtain ⟨w1, w2, w3⟩ := o_x.w hO hR.2.2.2.1 eG q
    subst w3
    exact hk _ _ _ hM2 ho w1 (fun e => absurd e w2) (hR.s4 _)
  refine mX9_nextYear hM hA hR.2.2.2.2.1 hR.1.2.2.2.2.2 (fun q h2 hM2 ho => hw _ _ q hM2 ho) (fun m q h2 hM2 ho => ?_) (fun m q h2 hM2 ho => ?_)
  · obtain ⟨hl, hE, hE0, hB, hX⟩ := hF m
    obtain ⟨rfl, hv⟩ := o_x.k hO hR.2.2.2.1 eG m rfl
    rw [hB.1.2.1, ← hB.1.2.2.1] at q
    rcases hv with ⟨-, rfl, rfl⟩ | ⟨q2, -⟩
    · exact hk _ _ _ hM2 ho rfl (fun _ => rfl) (hR.s4 0)
    · rw [q] at q2; exact absurd q2 (by decide)
  · obtain ⟨hl, hE, hE0, hB, hX⟩ := hF m
    obtain ⟨rfl, hv⟩ := o_x.k hO hR.2.2.2.1 eG m rfl
    have hw15 : w < 15 := by
      have h1 := hB.1.1
      rcases Nat.lt_or_ge w 15 with u | u
      · exact u
      · exact absurd (hB.1.2.1.trans (by rw [show w = 15 by omega]; rfl)) q
    rcases hv with ⟨q2, -⟩ | ⟨q2, n, hn, en, rfl, rfl⟩
    · rw [hB.1.2.2.1] at q2
      exact absurd q2 (nI_ge (b := 15) hw15 (by decide))
    · have hEr : RE (ls_T S) (mo_rem (mS M 4 0) (ls_H S).2.2) nt np nb := hE.cg (fun k k1 k2 => (mo_rem_1 (M := mS M 4 0) (by omega)).trans (if_neg (by omega))) rfl rfl
      have hBr : RB (ls_B (ls_rem S)) (m_r (mo_rem (mS M 4 0) (ls_H S).2.2)) w nt np c := hB
      obtain rfl : nt = n := nI_inj (by have := hE.1; omega) (by omega) (hE.2.2.2.1.1.symm.trans en)
      refine hk _ _ _ hM2 ho rfl (fun _ => (RB.nys (S := ls_rem S) hBr hEr (by omega) nt hn).symm) (hR.rem hl (fun nt2 np2 nb2 w2 hE2 hY => ?_))
      have hY1 : RB (ls_B S) (m_r M) w2 nt2 np2 c := hY.1
      have : w2 = w := nI_inj (by have := hY1.1.1; omega) (by omega) (hY1.1.2.1.symm.trans hB.1.2.1)
      subst this
      have e5 : np2 = np := nI_inj (by have := hE2.2.1; omega) (by have := hE.2.1; omega) (hE2.2.2.2.1.2.2.1.symm.trans hE.2.2.2.1.2.2.1)
      subst e5
      have e6 : nt2 = nt := nI_inj (by have := hE2.1; omega) (by omega) (hE2.2.2.2.1.1.symm.trans en)
      subst e6
      exact ⟨w2 + 1, RB.ny (S := ls_rem S) (M := mo_rem (mS M 4 0) (ls_H S).2.2) hBr hEr hX (by omega) hw15⟩
def o_undo (S : q_Ls) : Int32 → Int64 → q_Ls → Prop := o_x S (true) (fun k v S' => k = 0 ∧ (((ls_H S).2.2 = 0 ∧ v = -2 ∧ S' = S) ∨ (¬ (ls_H S).2.2 = 0 ∧ v = (nI ((ls_H S).2.2 - 1)).toInt64 ∧ S' = ls_sB (ls_sH S (hs_res (ls_H S))) ((ls_H S).1 (hs_pre (ls_H S))))))
theorem sX9_undo {a c : Nat} {S S' : q_Ls} {M : q_Mo} {k : Int32} {v : Int64} {P : Int32 → q_H → Option Nat → Prop} (hR : Rel S M c) (hc : c < 600) (hM : isM h a M) (hO : o_undo S k v S') (hk : ∀ h2 M2 b9, isM h2 a M2 → q_out a 13 h h2 → M2.1 4 = k → (k = 0 → b9.toInt64 = v) → Rel S' M2 (c + 1) → P b9 h2 z) : QMi V iX9_undo [.ref a] h z P Kx := by
  have hn := hR.2.2.2.2.1
  have hn10 := hR.1.2.2.2.2.2
  have eG : ¬ M.1 3 = 0 → true = true := fun _ => rfl
  refine mX9_undo hM hn hn10 (fun h2 hM2 ho m => ?_) (fun m q h2 hM2 ho => ?_) (fun m q h2 hM2 ho => ?_)
  · obtain ⟨w1, w2, w3⟩ := o_x.w hO hR.2.2.2.1 eG (Or.inl m)
    subst w3
    have e1 : k = 1 := by
      rw [← w1]
      show mo_th M true = 1
      unfold mo_th; rw [if_pos m]
    subst e1
    exact hk _ _ _ hM2 ho rfl (fun e => absurd e (by decide)) (hR.s4 1)
  · obtain ⟨rfl, hv⟩ := o_x.k hO hR.2.2.2.1 eG m rfl
    rw [hn] at q
    have q0 := nI_z0 _ (by omega) q
    rcases hv with ⟨-, rfl, rfl⟩ | ⟨q2, -⟩
    · exact hk _ _ _ hM2 ho rfl (fun _ => rfl) (hR.s4 0)
    · exact absurd q0 q2
  · obtain ⟨rfl, hv⟩ := o_x.k hO hR.2.2.2.1 eG m rfl
    have hl : ls_l S = true := by
      have h3 := hR.2.2.2.1
      cases z : ls_l S
      · rw [z] at h3; exact absurd h3 m
      · rfl
    rcases hv with ⟨q2, -⟩ | ⟨q2, rfl, rfl⟩
    · exact absurd q2 q
    · exact hk _ _ _ hM2 ho rfl (fun _ => rfl) (hR.und hl q2)
def o_append (S : q_Ls) (b q l s g : Int32) (k : Int32) (v : Int64) (S' : q_Ls) : Prop := (ls_n S + 20 ≤ 900 ∧ k = 0 ∧ v = (nI (ls_n S + 20)).toInt64 ∧ S' = ls_w (ls_w (ls_w (ls_w (ls_w S b) q) l) s) g) ∨ (¬ ls_n S + 20 ≤ 900 ∧ k = 1 ∧ S' = S)
theorem sX9_append {a c : Nat} {S S' : q_Ls} {M : q_Mo} {b q l s g : Int32} {k : Int32} {v : Int64} {P : Int32 → q_H → Option Nat → Prop} (hR : Rel S M c) (hc : c < 600) (hM : isM h a M) (hO : o_append S b q l s g k v S') (hk : ∀ h2 M2 b9, isM h2 a M2 → q_out a 13 h h2 → M2.1 4 = k → (k = 0 → b9.toInt64 = v) → Rel S' M2 (c + 1) → P b9 h2 z) : QMi V iX9_append [.ref a, .int b, .int q, .int l, .int s, .int g] h z P Kx := by
  refine mX9_append hM hR.2.1.1 hR.1.1 (fun q1 h2 hM2 ho => ?_) (fun q1 h2 hM2 ho => ?_)
  · rcases hO with ⟨-, rfl, rfl, rfl⟩ | ⟨q2, -⟩
    · refine hk _ _ _ hM2 ho ?_ (fun _ => rfl) (hR.app q1 b q l s g)
      unfold mb_a
      rw [mb_w_1 (by decide), mb_w_1 (by decide), mb_w_1 (by decide), mb_w_1 (by decide), mb_w_1 (by decide)]
      try rfl
    · exact absurd q1 q2
  · rcases hO with ⟨q2, -⟩ | ⟨-, rfl, rfl⟩
    · exact absurd q2 q1
    · exact hk _ _ _ hM2 ho rfl (fun e => absurd e (by decide)) (hR.s4 1)
def o_truncate (S : q_Ls) (x : Int32) (k : Int32) (v : Int64) (S' : q_Ls) : Prop := (rg x 0 (nI (ls_n S)) = true ∧ ∃ n, n ≤ ls_n S ∧ x = nI n ∧ k = 0 ∧ v = (nI n).toInt64 ∧ S' = ls_sN S n) ∨ (rg x 0 (nI (ls_n S)) = false ∧ k = 1 ∧ S' = S)
theorem sX9_truncate {a c : Nat} {S S' : q_Ls} {M : q_Mo} {x : Int32} {k : Int32} {v : Int64} {P : Int32 → q_H → Option Nat → Prop} (hR : Rel S M c) (hc : c < 600) (hM : isM h a M) (hO : o_truncate S x k v S') (hk : ∀ h2 M2 b9, isM h2 a M2 → q_out a 13 h h2 → M2.1 4 = k → (k = 0 → b9.toInt64 = v) → Rel S' M2 (c + 1) → P b9 h2 z) : QMi V iX9_truncate [.ref a, .int x] h z P Kx := by
  have h16 := hR.2.1.1
  refine mX9_truncate hM (fun q1 h2 hM2 ho => ?_) (fun q1 h2 hM2 ho => ?_)
  · rw [h16] at q1
    rcases hO with ⟨-, n, hn, rfl, rfl, rfl, rfl⟩ | ⟨q2, -⟩
    · exact hk _ _ _ hM2 ho rfl (fun _ => rfl) (hR.tru hn)
    · rw [q1] at q2; cases q2
  · rw [h16] at q1
    rcases hO with ⟨q2, -⟩ | ⟨-, rfl, rfl⟩
    · rw [q1] at q2; cases q2
    · exact hk _ _ _ hM2 ho rfl (fun e => absurd e (by decide)) (hR.s4 1)
end RELO
