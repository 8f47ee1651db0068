/-! readText -/
section CX4b
variable {V : q_En} {h : q_H} {z : Option Nat} {Kx : q_KX}
theorem mX4_ct_lp {a td N L e b np : Nat} {f : Nat → Int32} {T : q_Te} {Kr : q_KR} (hG : rd_G a td e b N L) (hp1 : 1 ≤ np) (hp24 : np ≤ 24) (hp : te_p T = nI np) : ∀ n k (hh : q_H) (r : q_Rd) (B : q_Bk), k + n = L + 1 → rd_Q hh a td N L f e b r T B → (∀ h3, rd_Q h3 a td N L f e b (rd_cl f T n r B).1 T (rd_cl f T n r B).2 → q_fr (rd_A a e b) hh h3 → QW V iX4_readText 134 [some (.ref a), some (.ref td), some (.int (nI L)), some (.ref e), some (.ref b), none] [] h3 z 0 0 Kr Kx) → QW V iX4_readText 98 [some (.ref a), some (.ref td), some (.int (nI L)), some (.ref e), some (.ref b), some (.int (nI k))] [] hh z 0 0 Kr Kx := by
  intro n
  induction n with
  | zero =>
    intro k hh r B hkn hQ kk
    have hl := hQ.2.2.2.2.2.2
    have h5 := hG.2.2.2.1
    have h6 := hG.2.2.2.2.2
    refine wX4_readText_98 ?_
    refine wX4_readText_100 ?_
    refine wX4_readText_101 hQ.1 ?_
    refine wX4_readText_104 (fun c104 => ?_) (fun c104 => absurd (by rw [hl, ← Int32.not_le]; exact nI_ge (by omega) (by omega)) c104)
    exact q_drp 5 (kk hh hQ q_fr.refl)
  | succ n ih =>
    intro k hh r B hkn hQ kk
    have ho : q_fr (rd_A a e b) hh hh := q_fr.refl
    have hl := hQ.2.2.2.2.2.2
    have h5 := hG.2.2.2.1
    have h6 := hG.2.2.2.2.2
    refine wX4_readText_98 ?_
    refine wX4_readText_100 ?_
    refine wX4_readText_101 hQ.1 ?_
    refine wX4_readText_104 (fun c104 => absurd c104 (by rw [hl, Int32.not_lt]; exact nI_le (by omega) (by omega))) (fun c104 => ?_)
    refine wX4_readText_107 ?_
    refine wX4_readText_108 hQ.1 (mX4_failed hQ.1 ?_)
    refine wX4_readText_111 (fun c111 => ?_) (fun c111 => ?_)
    · first
        | (rw [rd_cl, if_pos (Or.inl (q_b1 c111))] at kk; exact q_drp 5 (kk _ hQ ho))
        | (rw [rd_cl, if_pos (Or.inr c118)] at kk; exact q_drp 5 (kk _ hQ ho))
    · refine wX4_readText_114 ?_
      refine wX4_readText_115 hQ.1 ?_
      refine wX4_readText_118 (fun c118 => ?_) (fun c118 => ?_)
      · first
          | (rw [rd_cl, if_pos (Or.inl (q_b1 c111))] at kk; exact q_drp 5 (kk _ hQ ho))
          | (rw [rd_cl, if_pos (Or.inr c118)] at kk; exact q_drp 5 (kk _ hQ ho))
      · refine wX4_readText_121 ?_
        refine wX4_readText_122 ?_
        refine wX4_readText_123 ?_
        refine wX4_readText_125 hQ.1 (mX4_readContract hG hQ hp1 hp24 hp fun h2 hQ2 ho2 => ?_)
        replace hQ := hQ2
        replace ho := ho.trans ho2
        refine wX4_readText_128 ?_
        refine wX4_readText_131 ?_
        rw [rd_cl, if_neg (fun q => q.elim (fun q => by rw [q_b0 c111] at q; cases q) c118)] at kk
        exact q_ls (by rw [nI_1]) (ih (k + 1) _ _ _ (by omega) hQ fun h3 hQ3 ho3 => kk h3 hQ3 (ho.trans ho3))
theorem te_sP_p (T : q_Te) (x : Int32) : te_p (te_sP T x) = x := rfl
theorem rd_t4_j {f : Nat → Int32} {L : Nat} {r : q_Rd} {T : q_Te} : ∃ np, 1 ≤ np ∧ np ≤ 24 ∧ te_p (rd_tT f L r T) = nI np := by
  have hin : 1 ≤ (rd_t4 f L r T).1 ∧ (rd_t4 f L r T).1 ≤ 24 := rd_nb_in (by decide)
  have e : te_p (rd_tT f L r T) = (rd_t4 f L r T).1 := by rw [rd_tT, te_sP_p]
  rw [e]
  generalize (rd_t4 f L r T).1 = x at *
  obtain ⟨j, hj, hx⟩ := q_of (N := 25) (n := 25) rfl (by decide) (x := x) (by rw [Int32.not_lt]; exact Int32.le_trans (by decide) hin.1) (fun q => absurd (Int32.le_trans q hin.2) (by decide))
  subst hx
  refine ⟨j, ?_, by omega, rfl⟩
  by_cases q : j = 0
  · subst q; exact absurd hin.1 (by decide)
  · omega
theorem mX4_readText {a td0 td N L e b : Nat} {f : Nat → Int32} {r : q_Rd} {T : q_Te} {B : q_Bk} {P : q_H → Option Nat → Prop} (hG : rd_G a td e b N L) (hr : h a = some (readE a td0 r)) (hd : ∃ d, h (a + 2) = some (dealE d)) (hY : isY h td N f) (hE : isE h e T) (hB : isB h b B) (hk : ∀ h', rd_Q h' a td N L f e b (rd_tR f L r T B) (rd_tT f L r T) (rd_tB f L r T B) → q_fr (rd_A a e b) h h' → P h' z) : QMv V iX4_readText [.ref a, .ref td, .int (nI L), .ref e, .ref b] h z P Kx := by
  obtain ⟨g1, g2, g3, g4, g5, g6⟩ := id hG
  obtain ⟨d, hd⟩ := hd
  obtain ⟨g, hg, eg⟩ := id hY
  refine eX4_readText ?_
  refine wX4_readText_0 ?_
  refine wX4_readText_1 ?_
  refine wX4_readText_2 hr ?_
  refine wX4_readText_5 ?_
  refine wX4_readText_6 ?_
  refine wX4_readText_7 ?_
  refine wX4_readText_8 (by rw [q_up_n (by omega)]; exact hg) ?_
  refine wX4_readText_9 ?_
  rw [if_neg (by rw [Int32.not_lt]; exact nI_le (by omega) (by omega))]
  refine wX4_readText_12u ?_
  refine wX4_readText_15 ?_
  refine wX4_readText_16 ?_
  refine wX4_readText_17u ?_
  refine wX4_readText_20 ?_
  refine wX4_readText_21 ?_
  refine wX4_readText_22u ?_
  refine wX4_readText_25 ?_
  refine wX4_readText_26 ?_
  refine wX4_readText_27u ?_
  refine wX4_readText_30 ?_
  refine wX4_readText_31 ?_
  refine wX4_readText_32u ?_
  have hB1 : isB (q_up h a (readE a td (0, -1, 0, L, 0, r.kd, r.st, r.vl, r.na))) b B := hB.o (q_out.up (a := a) (n := 1) (by omega) (by omega)) (by omega)
  show QW V iX4_readText 35 _ _ (q_up h a (readE a td (0, -1, 0, L, 0, r.kd, r.st, r.vl, r.na))) _ _ _ _ _
  refine wX4_readText_35 ?_
  refine wX4_readText_37 hB1.1 (mX0_clear hB1 fun h1 hB2 ho1 => ?_)
  refine wX4_readText_40 ?_
  refine wX4_readText_41 (by rw [ho1 a (by omega)]; exact q_up_s) (mX4_findToken (td := td) (N := N) (f := f) (r := (0, -1, 0, L, 0, r.kd, r.st, r.vl, r.na)) (by rw [ho1 a (by omega)]; exact q_up_s) ((hY.n (by omega)).o ho1 (by omega)) (by omega) g4 (Nat.zero_le _) g5 ?_)
  have hoo : q_out a 1 h1 (q_up h1 a (readE a td (rd_t0 f L r))) := q_out.up (by omega) (by omega)
  have hok := rd_tok_ok (f := f) (r := (0, -1, 0, L, 0, r.kd, r.st, r.vl, r.na)) (Nat.zero_le _)
  have hQ : rd_Q (q_up h1 a (readE a td (rd_t0 f L r))) a td N L f e b (rd_t0 f L r) T (b_clr B) := ⟨q_up_s, ⟨d, by rw [q_up_n (by omega), ho1 _ (by omega), q_up_n (by omega)]; exact hd⟩, ((hY.n (by omega)).o ho1 (by omega)).n (by omega), ((hE.o (q_out.up (a := a) (n := 1) (by omega) (by omega)) (by omega)).o ho1 (by omega)).o hoo (by omega), hB2.o hoo (by omega), hok.1, hok.2⟩
  have ho : q_fr (rd_A a e b) h (q_up h1 a (readE a td (rd_t0 f L r))) := fun q hq => by
    unfold rd_A at hq
    rw [q_up_n (by omega), ho1 _ (by omega), q_up_n (by omega)]
  show QW V iX4_readText 44 _ _ (q_up h1 a (readE a td (rd_t0 f L r))) _ _ _ _ _
  generalize q_up h1 a (readE a td (rd_t0 f L r)) = h4 at *
  refine wX4_readText_44 ?_
  refine wX4_readText_45 ?_
  refine wX4_readText_46 hQ.1 (mX4_readLeague hG hQ fun h2 hQ2 ho2 => ?_)
  replace hQ : rd_Q h2 a td N L f e b (rd_t1 f L r) (rd_T1 f L r T) (b_clr B) := hQ2
  replace ho := ho.trans ho2
  clear hQ2 ho2
  refine wX4_readText_49 ?_
  refine wX4_readText_50 ?_
  refine wX4_readText_51 hQ.1 (mX4_readBrackets hG hQ fun h2 hQ2 ho2 => ?_)
  replace hQ : rd_Q h2 a td N L f e b (rd_t2r f L r T) (rd_t2 f L r T).2 (b_clr B) := hQ2
  replace ho := ho.trans ho2
  clear hQ2 ho2
  refine wX4_readText_54 ?_
  refine wX4_readText_55 ?_
  refine wX4_readText_57 hQ.1 (bX4_takeWord hG (i := 2) (by decide) hQ (r2 := _) rfl fun h2 hQ2 ho2 => ?_)
  replace hQ := hQ2
  replace ho := ho.trans ho2
  refine wX4_readText_60 ?_
  refine wX4_readText_61 ?_
  refine wX4_readText_62 ?_
  refine wX4_readText_63 ?_
  refine wX4_readText_64 hQ.1 (bX4_takeNumber hG hQ (y := rd_t3 f L r T) rfl fun h2 hQ2 ho2 => ?_)
  replace hQ := hQ2
  replace ho := ho.trans ho2
  refine wX4_readText_67 hQ.E.1 ?_
  obtain ⟨hQ2, ho2⟩ := hQ.sT hG ((rd_t3 f L r T).1)
  replace ho := ho.trans ho2
  replace hQ := hQ2
  clear hQ2 ho2
  refine wX4_readText_70 ?_
  refine wX4_readText_71 hQ.1 (bX4_takeSemicolon hG hQ (r2 := _) rfl fun h2 hQ2 ho2 => ?_)
  replace hQ := hQ2
  replace ho := ho.trans ho2
  refine wX4_readText_74 ?_
  refine wX4_readText_75 ?_
  refine wX4_readText_77 hQ.1 (bX4_takeWord hG (i := 3) (by decide) hQ (r2 := _) rfl fun h2 hQ2 ho2 => ?_)
  replace hQ := hQ2
  replace ho := ho.trans ho2
  refine wX4_readText_80 ?_
  refine wX4_readText_81 ?_
  refine wX4_readText_82 ?_
  refine wX4_readText_83 ?_
  refine wX4_readText_85 hQ.1 (bX4_takeNumber hG hQ (y := rd_t4 f L r T) rfl fun h2 hQ2 ho2 => ?_)
  replace hQ := hQ2
  replace ho := ho.trans ho2
  refine wX4_readText_88 hQ.E.1 ?_
  obtain ⟨hQ2, ho2⟩ := hQ.sP hG ((rd_t4 f L r T).1)
  replace ho := ho.trans ho2
  replace hQ := hQ2
  clear hQ2 ho2
  refine wX4_readText_91 ?_
  refine wX4_readText_92 hQ.1 (bX4_takeSemicolon hG hQ (r2 := rd_t5 f L r T) rfl fun h2 hQ2 ho2 => ?_)
  replace hQ := hQ2
  replace ho := ho.trans ho2
  refine wX4_readText_95 ?_
  refine wX4_readText_96 ?_
  obtain ⟨np, hp1, hp24, hp⟩ : ∃ np, 1 ≤ np ∧ np ≤ 24 ∧ te_p (rd_tT f L r T) = nI np := rd_t4_j
  replace hQ : rd_Q _ a td N L f e b (rd_t5 f L r T) (rd_tT f L r T) (b_clr B) := hQ
  refine mX4_ct_lp hG hp1 hp24 hp (L + 1) 0 _ _ _ (by omega) hQ fun h2 hQ2 ho2 => ?_
  replace hQ : rd_Q h2 a td N L f e b (rd_tR f L r T B) (rd_tT f L r T) (rd_cl f (rd_tT f L r T) (L + 1) (rd_t5 f L r T) (b_clr B)).2 := hQ2
  replace ho := ho.trans ho2
  clear hQ2 ho2
  refine wX4_readText_134 ?_
  refine wX4_readText_136 ?_
  refine wX4_readText_137 hQ.E.1 ?_
  refine wX4_readText_140 hQ.bk.1 (mX0_refillMidLevel hQ.bk fun h2 hB2 ho2 => ?_)
  obtain ⟨hQ2, ho3⟩ := hQ.sB hG hB2 ho2
  replace ho := ho.trans ho3
  replace hQ : rd_Q h2 a td N L f e b (rd_tR f L r T B) (rd_tT f L r T) (rd_tB f L r T B) := hQ2
  refine wX4_readText_143  ?_
  exact hk _ hQ ho
end CX4b
