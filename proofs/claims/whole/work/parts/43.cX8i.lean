/-! SalaryCapLedger: load -/
section CX8i
variable {V : q_En} {h : q_H} {z : Option Nat} {Kx : q_KX}
theorem isLx.sC {L : Nat} {S : q_Ls} {X : q_Lx} (hL : isLx h L S X) (n : Nat) (e : Int32) (l : Bool) : isLx (q_up h L (ledE L n e l (lx_t X) (lx_b X) (lx_u X) (lx_c X))) L (n, ls_f S, e, l, ls_T S, ls_B S, ls_H S) X ∧ q_out L 741 h (q_up h L (ledE L n e l (lx_t X) (lx_b X) (lx_u X) (lx_c X))) := by
  have ho : q_out L 1 h (q_up h L (ledE L n e l (lx_t X) (lx_b X) (lx_u X) (lx_c X))) := q_out.up (by omega) (by omega)
  obtain ⟨k, c, y, r, ⟨d, hd⟩, H, R, E, B, U, C⟩ := hL
  have k2 := k
  unfold lx_ok at k2
  exact ⟨⟨k, q_up_s, y.o ho (by omega), by rw [ho _ (by omega)]; exact r, ⟨d, by rw [ho _ (by omega)]; exact hd⟩, H.o ho (by omega), R.o ho (by omega), E.o ho (by omega), B.o ho (by omega), U.o ho (by omega), C.o ho (by omega)⟩, ho.in (by omega) (by omega)⟩
theorem isA_in {a n : Nat} {f : Nat → Int32} {h' : q_H} (hA : isA h a n f) (e : h' a = h a) : isA h' a n f := by
  obtain ⟨g, h1, h2⟩ := hA
  exact ⟨g, by rw [e]; exact h1, h2⟩
theorem isE_in {a : Nat} {T : q_Te} {h' : q_H} (hE : isE h a T) (e : ∀ x, a ≤ x → x < a + 5 → h' x = h x) : isE h' a T :=
  ⟨by rw [e a (by omega) (by omega)]; exact hE.1, isA_in hE.2.1 (e _ (by omega) (by omega)), isA_in hE.2.2.1 (e _ (by omega) (by omega)), isA_in hE.2.2.2.1 (e _ (by omega) (by omega)), isA_in hE.2.2.2.2 (e _ (by omega) (by omega))⟩
theorem isR_in {a : Nat} {R : q_Rl} {h' : q_H} (hR : isR h a R) (e : ∀ x, a ≤ x → x < a + 4 → h' x = h x) : isR h' a R :=
  ⟨by rw [e a (by omega) (by omega)]; exact hR.1, isA_in hR.2.1 (e _ (by omega) (by omega)), isA_in hR.2.2.1 (e _ (by omega) (by omega)), isA_in hR.2.2.2 (e _ (by omega) (by omega))⟩
theorem isB_in {a : Nat} {B : q_Bk} {h' : q_H} (hB : isB h a B) (e : ∀ x, a ≤ x → x < a + 60 → h' x = h x) : isB h' a B := by
  refine ⟨by rw [e a (by omega) (by omega)]; exact hB.1, by rw [e _ (by omega) (by omega)]; exact hB.2.1, by rw [e _ (by omega) (by omega)]; exact hB.2.2.1, by rw [e _ (by omega) (by omega)]; exact hB.2.2.2.1, fun k hk => ?_, fun k hk => ?_⟩
  · have := hB.2.2.2.2.1 k hk
    exact ⟨by rw [e _ (by omega) (by omega)]; exact this.1, by rw [e _ (by omega) (by omega)]; exact this.2⟩
  · obtain ⟨t1, f, t2, t3⟩ := hB.2.2.2.2.2 k hk
    exact ⟨by rw [e _ (by omega) (by omega)]; exact t1, f, by rw [e _ (by omega) (by omega)]; exact t2, t3⟩
def lx_sw (X : q_Lx) (T : q_Te) (B : q_Bk) : q_Lx := ((lx_u X, lx_c X, lx_t X, lx_b X, lx_d X), X.2.1, X.2.2.1, T, B)
def ls_us (S : q_Ls) (X : q_Lx) : q_Ls := (ls_n S, ls_f S, ls_e S, true, X.2.2.2.1, X.2.2.2.2, hs_for (ls_H S))
/-- spare and present are exchanged, the history is forgotten -/
theorem isLx.us {L : Nat} {S : q_Ls} {X : q_Lx} {h3 : q_H} (hL : isLx h L S X) (hH : isHs h3 (L + 5) (hs_for (ls_H S))) (ho : ∀ q, q ≠ L → (q < L + 5 ∨ L + 5 + 602 ≤ q) → h3 q = h q) : isLx (q_up h3 L (ledE L (ls_n S) (ls_e S) true (lx_u X) (lx_c X) (lx_t X) (lx_b X))) L (ls_us S X) (lx_sw X (ls_T S) (ls_B S)) ∧ q_out L 741 h (q_up h3 L (ledE L (ls_n S) (ls_e S) true (lx_u X) (lx_c X) (lx_t X) (lx_b X))) := by
  have h1 : q_out L 1 h3 (q_up h3 L (ledE L (ls_n S) (ls_e S) true (lx_u X) (lx_c X) (lx_t X) (lx_b X))) := q_out.up (by omega) (by omega)
  have h2 : q_out L 607 h (q_up h3 L (ledE L (ls_n S) (ls_e S) true (lx_u X) (lx_c X) (lx_t X) (lx_b X))) := fun q hq => by rw [h1 q (by omega)]; exact ho q (by omega) (by omega)
  have h4 : ∀ q, (L < q ∧ q < L + 5) → q_up h3 L (ledE L (ls_n S) (ls_e S) true (lx_u X) (lx_c X) (lx_t X) (lx_b X)) q = h q := fun q hq => by rw [h1 q (by omega)]; exact ho q (by omega) (by omega)
  obtain ⟨k, c, ⟨g, hg, eg⟩, r, ⟨d, hd⟩, H, R, E, B, U, C⟩ := hL
  have k2 := k
  unfold lx_ok at k2
  refine ⟨⟨?_, q_up_s, ⟨g, by rw [h4 _ (by omega)]; exact hg, eg⟩, by rw [h4 _ (by omega)]; exact r, ⟨d, by rw [h4 _ (by omega)]; exact hd⟩, hH.o h1 (by omega), R.o h2 (by omega), U.o h2 (by omega), C.o h2 (by omega), E.o h2 (by omega), B.o h2 (by omega)⟩, h2.in (by omega) (by omega)⟩
  show lx_ok L (lx_u X) (lx_c X) (lx_t X) (lx_b X)
  unfold lx_ok; omega
/-- a text was read -/
theorem isLx.rd {L : Nat} {S : q_Ls} {X : q_Lx} {h2 : q_H} {r : q_Rd} {T : q_Te} {B : q_Bk} (hL : isLx h L S X) (hQ : rd_Q h2 (L + 2) (L + 1) 900 (ls_n S) (ls_f S) (lx_u X) (lx_c X) r T B) (ho : q_fr (rd_A (L + 2) (lx_u X) (lx_c X)) h h2) : isLx h2 L S ((lx_t X, lx_b X, lx_u X, lx_c X, L + 1), r, X.2.2.1, T, B) ∧ q_out L 741 h h2 := by
  obtain ⟨k, c, y, -, -, H, R, E, B2, -, -⟩ := hL
  have k2 := k
  unfold lx_ok at k2
  obtain ⟨a1, a2, a3, a4, a5, a6, a7⟩ := hQ
  have o1 : ∀ q, ¬ (q = L + 2 ∨ q = L + 2 + 2 ∨ (lx_u X ≤ q ∧ q < lx_u X + 5) ∨ (lx_c X ≤ q ∧ q < lx_c X + 60)) → h2 q = h q := fun q hq => ho q hq
  refine ⟨⟨k, by rw [o1 _ (by omega)]; exact c, a3, a1, a2, ?_, ?_, ?_, ?_, a4, a5⟩, fun q hq => o1 q (by omega)⟩
  · refine ⟨by rw [o1 _ (by omega)]; exact H.1, by rw [o1 _ (by omega)]; exact H.2.1, fun q hq => ?_⟩
    exact isB_in (H.2.2 q hq) fun x q1 q2 => o1 x (by omega)
  · exact isR_in R fun x q1 q2 => o1 x (by omega)
  · exact isE_in (a := lx_t X) E fun x q1 q2 => o1 x (by omega)
  · exact isB_in (a := lx_b X) B2 fun x q1 q2 => o1 x (by omega)
theorem mX8_useSpareLeague {L : Nat} {S : q_Ls} {X : q_Lx} {P : q_H → Option Nat → Prop} (hL : isLx h L S X) (hk : ∀ h', isLx h' L (ls_us S X) (lx_sw X (ls_T S) (ls_B S)) → q_out L 741 h h' → P h' z) : QMv V iX8_useSpareLeague [.ref L] h z P Kx := by
  refine eX8_useSpareLeague ?_
  refine wX8_useSpareLeague_0 ?_
  refine wX8_useSpareLeague_1 hL.c ?_
  refine wX8_useSpareLeague_4 ?_
  refine wX8_useSpareLeague_5 ?_
  refine wX8_useSpareLeague_6 ?_
  refine wX8_useSpareLeague_7 hL.c ?_
  refine wX8_useSpareLeague_10 hL.c ?_
  refine wX8_useSpareLeague_13 ?_
  refine wX8_useSpareLeague_14 ?_
  refine wX8_useSpareLeague_15u ?_
  refine wX8_useSpareLeague_18 ?_
  refine wX8_useSpareLeague_19u ?_
  refine wX8_useSpareLeague_22 ?_
  refine wX8_useSpareLeague_23 ?_
  refine wX8_useSpareLeague_24 ?_
  refine wX8_useSpareLeague_25u ?_
  refine wX8_useSpareLeague_28u ?_
  refine wX8_useSpareLeague_31 ?_
  refine wX8_useSpareLeague_32 ?_
  refine wX8_useSpareLeague_33u ?_
  refine wX8_useSpareLeague_36 ?_
  refine wX8_useSpareLeague_37u ?_
  refine wX8_useSpareLeague_40 ((hL.H.o (q_out.up (a := L) (n := 1) (by omega) (by omega)) (by omega)).1) (mX2_forget (hL.H.o (q_out.up (a := L) (n := 1) (by omega) (by omega)) (by omega)) fun h3 hH3 ho3 => ?_)
  refine wX8_useSpareLeague_43 ?_
  refine wX8_useSpareLeague_44 ?_
  refine wX8_useSpareLeague_45 (by rw [ho3 L (by omega)]; exact q_up_s) ?_
  refine wX8_useSpareLeague_48  ?_
  have hu := hL.us hH3 (fun q q1 q2 => by rw [ho3 q q2, q_up_n q1])
  exact hk _ hu.1 hu.2
theorem isLx.sC0 {L : Nat} {S : q_Ls} {X : q_Lx} (hL : isLx h L S X) (e : Int32) {x : Int32} (hx : nI 0 = x) : isLx (q_up h L (.inr (9, [.ref (L + 1), .int x, .int e, .ref (L + 2), .ref (L + 5), .ref (L + 607), .int (q_b (ls_l S)), .ref (lx_t X), .ref (lx_b X), .ref (lx_u X), .ref (lx_c X)]))) L (0, ls_f S, e, ls_l S, ls_T S, ls_B S, ls_H S) X ∧ q_out L 741 h (q_up h L (.inr (9, [.ref (L + 1), .int x, .int e, .ref (L + 2), .ref (L + 5), .ref (L + 607), .int (q_b (ls_l S)), .ref (lx_t X), .ref (lx_b X), .ref (lx_u X), .ref (lx_c X)]))) := by
  subst hx
  exact hL.sC 0 e (ls_l S)
abbrev lo_R (S : q_Ls) (X : q_Lx) : q_Rd := rd_tR (ls_f S) (ls_n S) X.2.1 X.2.2.2.1 X.2.2.2.2
abbrev lo_T (S : q_Ls) (X : q_Lx) : q_Te := rd_tT (ls_f S) (ls_n S) X.2.1 X.2.2.2.1
abbrev lo_B (S : q_Ls) (X : q_Lx) : q_Bk := rd_tB (ls_f S) (ls_n S) X.2.1 X.2.2.2.1 X.2.2.2.2
theorem mX8_load {L : Nat} {S : q_Ls} {X : q_Lx} {P : Int32 → q_H → Option Nat → Prop} (hL : isLx h L S X) (hS : okL S) (hk1 : ∀ r, lo_R S X = r → rd_bad r = true → ∀ h', isL h' L (0, ls_f S, r.ea, ls_l S, ls_T S, ls_B S, ls_H S) → q_out L 741 h h' → P (-10 - r.ec) h' z) (hk2 : ∀ r T B, lo_R S X = r → lo_T S X = T → lo_B S X = B → rd_bad r = false → ∀ h', isL h' L (0, ls_f S, r.ea, true, T, B, hs_for (ls_H S)) → q_out L 741 h h' → P r.ct h' z) : QMi V iX8_load [.ref L] h z P Kx := by
  have k2 := hL.k
  unfold lx_ok at k2
  have h9 := hS.1
  refine eX8_load ?_
  refine wX8_load_0 ?_
  refine wX8_load_1 hL.c ?_
  refine wX8_load_4 ?_
  refine wX8_load_5 hL.c ?_
  refine wX8_load_8 ?_
  refine wX8_load_9 hL.c ?_
  refine wX8_load_12 ?_
  refine wX8_load_13 hL.c ?_
  refine wX8_load_16 ?_
  refine wX8_load_17 hL.c ?_
  refine wX8_load_20 hL.r (mX4_readText (hG := ⟨by omega, by omega, by omega, by decide, h9, by omega⟩) hL.r hL.d hL.Y hL.U hL.C fun h3 hQ3 ho3 => ?_)
  generalize hr : rd_tR (ls_f S) (ls_n S) X.2.1 X.2.2.2.1 X.2.2.2.2 = r at hQ3
  generalize hT : rd_tT (ls_f S) (ls_n S) X.2.1 X.2.2.2.1 = T at hQ3
  generalize hB : rd_tB (ls_f S) (ls_n S) X.2.1 X.2.2.2.1 X.2.2.2.2 = B at hQ3
  obtain ⟨hL2, ho⟩ := hL.rd hQ3 ho3
  replace hL := hL2
  clear hL2
  refine wX8_load_23 ?_
  refine wX8_load_24 ?_
  refine wX8_load_25 hL.c ?_
  refine wX8_load_28 ?_
  refine wX8_load_29 ?_
  refine wX8_load_30u ?_
  refine wX8_load_33 (by rw [q_up_n (by omega)]; exact hL.r) ?_
  refine wX8_load_36u ?_
  obtain ⟨hL2, ho2⟩ := hL.sC0 r.ea (x := 0) (by decide)
  replace ho := ho.trans ho2
  replace hL := hL2
  clear hL2 ho2
  refine wX8_load_39 ?_
  refine wX8_load_40 hL.c ?_
  refine wX8_load_43 hL.r (mX4_failed hL.r ?_)
  refine wX8_load_46 (fun c46 => ?_) (fun c46 => ?_)
  · refine wX8_load_60 ?_
    refine wX8_load_61 hL.c (mX8_useSpareLeague hL fun h3 hL2 ho2 => ?_)
    replace ho := ho.trans ho2
    replace hL := hL2
    clear hL2 ho2
    refine wX8_load_64 ?_
    refine wX8_load_65 hL.c ?_
    refine wX8_load_68 hL.r ?_
    refine wX8_load_71  ?_
    exact hk2 r T B hr hT hB (q_b0 c46) _ ⟨_, hL⟩ ho
  · refine wX8_load_49 ?_
    refine wX8_load_51 ?_
    refine wX8_load_52 hL.c ?_
    refine wX8_load_55 hL.r ?_
    refine wX8_load_58 ?_
    refine wX8_load_59  ?_
    exact hk1 r hr (q_b1 c46) _ ⟨_, hL⟩ ho
end CX8i
