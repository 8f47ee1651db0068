/-! SalaryCapLedger: append -/
section CX8h
variable {V : q_En} {h : q_H} {z : Option Nat} {Kx : q_KX}
def ls_aw (S : q_Ls) (v : Int32) : q_Ls := (ls_n S + 1, upd (ls_f S) (ls_n S) v, ls_e S, ls_l S, ls_T S, ls_B S, ls_H S)
def l_bt (w s : Int32) : Int32 := vp_nar .byte ((w.toUInt32 >>> (s.toUInt32 &&& Int32.toUInt32 31)).toInt32.toInt8.toInt32)
def ls_w (S : q_Ls) (w : Int32) : q_Ls := ls_aw (ls_aw (ls_aw (ls_aw S (l_bt w 24)) (l_bt w 16)) (l_bt w 8)) (l_bt w 0)
theorem isLx.aw {L : Nat} {S : q_Ls} {X : q_Lx} {g : Nat → Int32} {v : Int32} (hL : isLx h L S X) (eg : ∀ k, k < 900 → g k = ls_f S k) : isLx (q_up (q_up h (L + 1) (.inl (0, 900, .inl (upd g (ls_n S) v)))) L (ledE L (ls_n S + 1) (ls_e S) (ls_l S) (lx_t X) (lx_b X) (lx_u X) (lx_c X))) L (ls_aw S v) X ∧ q_out L 741 h (q_up (q_up h (L + 1) (.inl (0, 900, .inl (upd g (ls_n S) v)))) L (ledE L (ls_n S + 1) (ls_e S) (ls_l S) (lx_t X) (lx_b X) (lx_u X) (lx_c X))) := by
  have ho : q_out L 2 h (q_up (q_up h (L + 1) (.inl (0, 900, .inl (upd g (ls_n S) v)))) L (ledE L (ls_n S + 1) (ls_e S) (ls_l S) (lx_t X) (lx_b X) (lx_u X) (lx_c X))) := (q_out.up (by omega) (by omega)).trans (q_out.up (by omega) (by omega))
  obtain ⟨k, c, y, r, ⟨d, hd⟩, H, R, E, B, U, C⟩ := hL
  have k2 := k
  unfold lx_ok at k2
  refine ⟨⟨k, q_up_s, ⟨_, by rw [q_up_n (by omega)]; exact q_up_s, fun q hq => ?_⟩, by rw [ho _ (by omega)]; exact r, ⟨d, by rw [ho _ (by omega)]; exact hd⟩, H.o ho (by omega), R.o ho (by omega), E.o ho (by omega), B.o ho (by omega), U.o ho (by omega), C.o ho (by omega)⟩, ho.in (by omega) (by omega)⟩
  show upd g (ls_n S) v q = upd (ls_f S) (ls_n S) v q
  unfold upd; split
  · rfl
  · exact eg q hq
theorem mX8_aw1 {L : Nat} {S : q_Ls} {X : q_Lx} {w s : Int32} {Kr : q_KR} (hL : isLx h L S X) (hn : ls_n S < 900) (hs : ¬ s < 0) (kk : ∀ h', isLx h' L (ls_aw S (l_bt w s)) X → q_out L 741 h h' → QW V iX8_appendWord 3 [some (.ref L), some (.int w), some (.int (s + (-8)))] [] h' z 0 0 Kr Kx) : QW V iX8_appendWord 3 [some (.ref L), some (.int w), some (.int s)] [] h z 0 0 Kr Kx := by
  obtain ⟨g, hg, eg⟩ := hL.Y
  refine wX8_appendWord_3 ?_
  refine wX8_appendWord_4 (fun c4 => absurd c4 hs) (fun c4 => ?_)
  refine wX8_appendWord_7 ?_
  refine wX8_appendWord_8 hL.c ?_
  refine wX8_appendWord_11 ?_
  refine wX8_appendWord_14 (fun c14 => absurd c14 (nI_ge (b := 900) hn (by decide))) (fun c14 => ?_)
  refine wX8_appendWord_17 ?_
  refine wX8_appendWord_18 hL.c ?_
  refine wX8_appendWord_21 ?_
  refine wX8_appendWord_22 hL.c ?_
  refine wX8_appendWord_25 ?_
  refine wX8_appendWord_26 ?_
  refine wX8_appendWord_27 ?_
  refine wX8_appendWord_28 ?_
  refine wX8_appendWord_29 hg rfl hn (by decide) ?_
  refine wX8_appendWord_30 ?_
  refine wX8_appendWord_31 ?_
  refine wX8_appendWord_32 (by rw [q_up_n (by omega)]; exact hL.c) ?_
  refine wX8_appendWord_35 ?_
  refine wX8_appendWord_36 ?_
  refine wX8_appendWord_37 (by rw [q_up_n (by omega)]; exact hL.c) ?_
  refine wX8_appendWord_40 ?_
  refine wX8_appendWord_43 ?_
  rw [nI_1]
  exact kk _ (hL.aw eg).1 (hL.aw eg).2
theorem mX8_appendWord {L : Nat} {S : q_Ls} {X : q_Lx} {w : Int32} {P : q_H → Option Nat → Prop} (hL : isLx h L S X) (hn : ls_n S + 4 ≤ 900) (hk : ∀ h', isLx h' L (ls_w S w) X → q_out L 741 h h' → P h' z) : QMv V iX8_appendWord [.ref L, .int w] h z P Kx := by
  refine eX8_appendWord ?_
  refine wX8_appendWord_0 ?_
  refine wX8_appendWord_2 ?_
  refine mX8_aw1 hL (by omega) (by decide) fun h3 hL3 ho3 => ?_
  refine mX8_aw1 (S := ls_aw S (l_bt w 24)) (s := 16) hL3 (by show ls_n S + 1 < 900; omega) (by decide) fun h4 hL4 ho4 => ?_
  refine mX8_aw1 (S := ls_aw (ls_aw S (l_bt w 24)) (l_bt w 16)) (s := 8) hL4 (by show ls_n S + 1 + 1 < 900; omega) (by decide) fun h5 hL5 ho5 => ?_
  refine mX8_aw1 (S := ls_aw (ls_aw (ls_aw S (l_bt w 24)) (l_bt w 16)) (l_bt w 8)) (s := 0) hL5 (by show ls_n S + 1 + 1 + 1 < 900; omega) (by decide) fun h6 hL6 ho6 => ?_
  refine wX8_appendWord_3 ?_
  refine wX8_appendWord_4 (fun c4 => ?_) (fun c4 => absurd (by decide) c4)
  refine wX8_appendWord_46  ?_
  exact hk _ hL6 (((ho3.trans ho4).trans ho5).trans ho6)
theorem mX8_append {L : Nat} {S : q_Ls} {X : q_Lx} {a b c d e : Int32} {P : Int32 → q_H → Option Nat → Prop} (hL : isLx h L S X) (hS : okL S) (hk : ls_n S + 20 ≤ 900 → ∀ h', isL h' L (ls_w (ls_w (ls_w (ls_w (ls_w S a) b) c) d) e) → q_out L 741 h h' → P (nI (ls_n S + 20)) h' z) (hx : ¬ ls_n S + 20 ≤ 900 → Kx E_st h) : QMi V iX8_append [.ref L, .int a, .int b, .int c, .int d, .int e] h z P Kx := by
  have ho : q_out L 741 h h := q_out.refl
  have e20 : nI (ls_n S) + 20 = nI (ls_n S + 20) := nI_add _ 20
  have h9 := hS.1
  refine eX8_append ?_
  refine wX8_append_0 ?_
  refine wX8_append_1 hL.c ?_
  refine wX8_append_4 ?_
  refine wX8_append_6 ?_
  refine wX8_append_7 ?_
  refine wX8_append_10 (fun c10 => ?_) (fun c10 => ?_)
  · have hn : ls_n S + 20 ≤ 900 := by
      rw [e20] at c10
      by_cases q : ls_n S + 20 ≤ 900
      · exact q
      · exact absurd c10 (nI_ge (show 900 < ls_n S + 20 by omega) (by omega))
    refine wX8_append_23 ?_
    refine wX8_append_24 ?_
    refine wX8_append_25 hL.c (mX8_appendWord hL (by show ls_n S + 4 ≤ 900; omega) fun h3 hL2 ho2 => ?_)
    replace ho := ho.trans ho2
    replace hL := hL2
    clear hL2 ho2
    refine wX8_append_28 ?_
    refine wX8_append_29 ?_
    refine wX8_append_30 hL.c (mX8_appendWord hL (by show ls_n S + 1 + 1 + 1 + 1 + 4 ≤ 900; omega) fun h3 hL2 ho2 => ?_)
    replace ho := ho.trans ho2
    replace hL := hL2
    clear hL2 ho2
    refine wX8_append_33 ?_
    refine wX8_append_34 ?_
    refine wX8_append_35 hL.c (mX8_appendWord hL (by show ls_n S + 1 + 1 + 1 + 1 + 1 + 1 + 1 + 1 + 4 ≤ 900; omega) fun h3 hL2 ho2 => ?_)
    replace ho := ho.trans ho2
    replace hL := hL2
    clear hL2 ho2
    refine wX8_append_38 ?_
    refine wX8_append_39 ?_
    refine wX8_append_41 hL.c (mX8_appendWord hL (by show ls_n S + 1 + 1 + 1 + 1 + 1 + 1 + 1 + 1 + 1 + 1 + 1 + 1 + 4 ≤ 900; omega) fun h3 hL2 ho2 => ?_)
    replace ho := ho.trans ho2
    replace hL := hL2
    clear hL2 ho2
    refine wX8_append_44 ?_
    refine wX8_append_45 ?_
    refine wX8_append_47 hL.c (mX8_appendWord hL (by show ls_n S + 1 + 1 + 1 + 1 + 1 + 1 + 1 + 1 + 1 + 1 + 1 + 1 + 1 + 1 + 1 + 1 + 4 ≤ 900; omega) fun h3 hL2 ho2 => ?_)
    replace ho := ho.trans ho2
    replace hL := hL2
    clear hL2 ho2
    refine wX8_append_50 ?_
    refine wX8_append_51 hL.c ?_
    refine wX8_append_54  ?_
    exact hk hn _ ⟨_, hL⟩ ho
  · refine wX8_append_13 ?_
    refine hx fun q => c10 ?_
    rw [e20]
    exact nI_le (b := 900) q (by decide)
end CX8h
