/-! SalaryCapLedger() -/
section CX8j
variable {V : q_En} {h : q_H} {z : Option Nat} {Kx : q_KX}
def te_0 : q_Te := (fun _ => 0, fun _ => 0, fun _ => 0, fun _ => 0, 0, 0, 0, 0, 0)
def ls_0 : q_Ls := (0, fun _ => 0, -1, false, te_0, bk_0, hs_0)
theorem isHs_in {a : Nat} {H : q_Hs} {h' : q_H} (hH : isHs h a H) (e : ∀ x, a ≤ x → x < a + 602 → h' x = h x) : isHs h' a H :=
  ⟨by rw [e _ (by omega) (by omega)]; exact hH.1, by rw [e _ (by omega) (by omega)]; exact hH.2.1, fun k hk => isB_in (hH.2.2 k hk) fun x q1 q2 => e x (by omega) (by omega)⟩
theorem led0 {g : q_H} {L t b u c : Nat} {n0 l0 : Int32} (hn : n0 = nI 0) (hl : l0 = q_b false) : q_up g L (.inr (9, [.ref (L + 1), .int n0, .int (-1), .ref (L + 2), .ref (L + 5), .ref (L + 607), .int l0, .ref t, .ref b, .ref u, .ref c])) L = some (ledE L 0 (-1) false t b u c) := by
  subst hn; subst hl
  exact q_up_s
theorem q_zn {y : q_I} {pc : Nat} {ls : List (Option Value)} {st : List Value} {bc bs n m : Nat} {Kr : q_KR} (e : n = m) (kk : QW V y pc ls st h (some m) bc bs Kr Kx) : QW V y pc ls st h (some n) bc bs Kr Kx := e ▸ kk
theorem mX8_init {L : Nat} {P : q_H → Option Nat → Prop} (ha : h L = some (.inr (9, [.null, .int 0, .int 0, .null, .null, .null, .int 0, .null, .null, .null, .null]))) (hk : ∀ h', isL h' L ls_0 → q_out L 741 h h' → P h' (some (L + 741))) : QMv V iX8_init [.ref L] h (some (L + 1)) P Kx := by
  refine eX8_init ?_
  refine wX8_init_0 ?_
  refine wX8_init_1 ?_
  refine wX8_init_4 ?_
  refine wX8_init_5 ?_
  refine wX8_init_8 rfl (by decide) ?_
  refine wX8_init_10 (by rw [q_up_n (by omega)]; exact ha) ?_
  refine wX8_init_13 ?_
  refine wX8_init_14 ?_
  refine wX8_init_15u ?_
  refine wX8_init_18 ?_
  refine wX8_init_19 ?_
  refine wX8_init_20u ?_
  refine wX8_init_23 ?_
  refine q_zn (show _ = L + 2 by omega) ?_
  refine wX8_init_24 ?_
  refine wX8_init_27 ?_
  refine wX8_init_28 (mX4_init (a := L + 2) q_up_s fun h1 r1 d1 o1 => ?_)
  refine wX8_init_31 (by rw [o1 L (by omega), q_up_n (by omega)]; exact q_up_s) ?_
  refine wX8_init_34 ?_
  refine q_zn (show _ = L + 5 by omega) ?_
  refine wX8_init_35 ?_
  refine wX8_init_38 ?_
  refine wX8_init_39 (mX2_init (a := L + 5) q_up_s fun h2 H2 o2 => ?_)
  refine wX8_init_42 (by rw [o2 L (by omega), q_up_n (by omega)]; exact q_up_s) ?_
  refine wX8_init_45 ?_
  refine q_zn (show _ = L + 607 by omega) ?_
  refine wX8_init_46 ?_
  refine wX8_init_49 ?_
  refine wX8_init_50 (mX5_init (a := L + 607) q_up_s fun h3 R3 o3 => ?_)
  refine wX8_init_53 (by rw [o3 L (by omega), q_up_n (by omega)]; exact q_up_s) ?_
  refine wX8_init_56 ?_
  refine wX8_init_57 ?_
  refine wX8_init_58u ?_
  refine wX8_init_61 ?_
  refine q_zn (show _ = L + 611 by omega) ?_
  refine wX8_init_62 ?_
  refine wX8_init_65 ?_
  refine wX8_init_66 (mX7_init (a := L + 611) q_up_s fun h4 E4 o4 => ?_)
  refine wX8_init_69 (by rw [o4 L (by omega), q_up_n (by omega)]; exact q_up_s) ?_
  refine wX8_init_72 ?_
  refine q_zn (show _ = L + 616 by omega) ?_
  refine wX8_init_73 ?_
  refine wX8_init_76 ?_
  refine wX8_init_77 (mX0_init (a := L + 616) q_up_s fun h5 B5 o5 => ?_)
  refine wX8_init_80 (by rw [o5 L (by omega), q_up_n (by omega)]; exact q_up_s) ?_
  refine wX8_init_83 ?_
  refine q_zn (show _ = L + 676 by omega) ?_
  refine wX8_init_84 ?_
  refine wX8_init_87 ?_
  refine wX8_init_88 (mX7_init (a := L + 676) q_up_s fun h6 E6 o6 => ?_)
  refine wX8_init_91 (by rw [o6 L (by omega), q_up_n (by omega)]; exact q_up_s) ?_
  refine wX8_init_94 ?_
  refine q_zn (show _ = L + 681 by omega) ?_
  refine wX8_init_95 ?_
  refine wX8_init_98 ?_
  refine wX8_init_99 (mX0_init (a := L + 681) q_up_s fun h7 B7 o7 => ?_)
  refine wX8_init_102 (by rw [o7 L (by omega), q_up_n (by omega)]; exact q_up_s) ?_
  refine wX8_init_105  ?_
  have e1 : ∀ q, q ≠ L → q ≠ L + 1 → (q < L + 2 ∨ L + 2 + 3 ≤ q) → h1 q = h q := fun q q1 q2 q3 => by rw [o1 q q3, q_up_n (by omega), q_up_n (by omega), q_up_n (by omega)]
  have e1t : h1 (L + 1) = some (.inl (0, 900, .inl fun _ => 0)) := by rw [o1 (L + 1) (by omega), q_up_n (by omega), q_up_n (by omega)]; exact q_up_s
  have e2 : ∀ q, q ≠ L → (q < L + 5 ∨ L + 5 + 602 ≤ q) → h2 q = h1 q := fun q q1 q2 => by rw [o2 q q2, q_up_n (by omega), q_up_n (by omega)]
  have e3 : ∀ q, q ≠ L → (q < L + 607 ∨ L + 607 + 4 ≤ q) → h3 q = h2 q := fun q q1 q2 => by rw [o3 q q2, q_up_n (by omega), q_up_n (by omega)]
  have e4 : ∀ q, q ≠ L → (q < L + 611 ∨ L + 611 + 5 ≤ q) → h4 q = h3 q := fun q q1 q2 => by rw [o4 q q2, q_up_n (by omega), q_up_n (by omega)]
  have e5 : ∀ q, q ≠ L → (q < L + 616 ∨ L + 616 + 60 ≤ q) → h5 q = h4 q := fun q q1 q2 => by rw [o5 q q2, q_up_n (by omega), q_up_n (by omega)]
  have e6 : ∀ q, q ≠ L → (q < L + 676 ∨ L + 676 + 5 ≤ q) → h6 q = h5 q := fun q q1 q2 => by rw [o6 q q2, q_up_n (by omega), q_up_n (by omega)]
  have e7 : ∀ q, q ≠ L → (q < L + 681 ∨ L + 681 + 60 ≤ q) → h7 q = h6 q := fun q q1 q2 => by rw [o7 q q2, q_up_n (by omega), q_up_n (by omega)]
  refine q_zz (show _ = L + 741 by omega) (hk _ ⟨((L + 611, L + 616, L + 676, L + 681, L + 2 + 1), rd_0, rl_0, te_0, bk_0), Or.inl ⟨rfl, rfl, rfl, rfl⟩, ?_, ?_, ?_, ?_, ?_, ?_, ?_, ?_, ?_, ?_⟩ ?_)
  · exact led0 (by decide) (by decide)
  · exact ⟨_, by rw [q_up_n (by omega), e7 _ (by omega) (by omega), e6 _ (by omega) (by omega), e5 _ (by omega) (by omega), e4 _ (by omega) (by omega), e3 _ (by omega) (by omega), e2 _ (by omega) (by omega)]; exact e1t, fun _ _ => rfl⟩
  · rw [q_up_n (by omega), e7 _ (by omega) (by omega), e6 _ (by omega) (by omega), e5 _ (by omega) (by omega), e4 _ (by omega) (by omega), e3 _ (by omega) (by omega), e2 _ (by omega) (by omega)]; exact r1
  · refine ⟨(1, 0, 1, 0, 0), ?_⟩
    rw [q_up_n (by omega), e7 _ (by omega) (by omega), e6 _ (by omega) (by omega), e5 _ (by omega) (by omega), e4 _ (by omega) (by omega), e3 _ (by omega) (by omega), e2 _ (by omega) (by omega)]; exact d1
  · exact isHs_in (a := L + 5) H2 fun x q1 q2 => by rw [q_up_n (by omega), e7 _ (by omega) (by omega), e6 _ (by omega) (by omega), e5 _ (by omega) (by omega), e4 _ (by omega) (by omega), e3 _ (by omega) (by omega)]
  · exact isR_in R3 fun x q1 q2 => by rw [q_up_n (by omega), e7 _ (by omega) (by omega), e6 _ (by omega) (by omega), e5 _ (by omega) (by omega), e4 _ (by omega) (by omega)]
  · exact isE_in (a := L + 611) E4 fun x q1 q2 => by rw [q_up_n (by omega), e7 _ (by omega) (by omega), e6 _ (by omega) (by omega), e5 _ (by omega) (by omega)]
  · exact isB_in (a := L + 616) B5 fun x q1 q2 => by rw [q_up_n (by omega), e7 _ (by omega) (by omega), e6 _ (by omega) (by omega)]
  · exact isE_in (a := L + 676) E6 fun x q1 q2 => by rw [q_up_n (by omega), e7 _ (by omega) (by omega)]
  · exact isB_in (a := L + 681) B7 fun x q1 q2 => by rw [q_up_n (by omega)]
  · intro q hq
    rw [q_up_n (by omega), e7 _ (by omega) (by omega), e6 _ (by omega) (by omega), e5 _ (by omega) (by omega), e4 _ (by omega) (by omega), e3 _ (by omega) (by omega), e2 _ (by omega) (by omega), e1 _ (by omega) (by omega) (by omega)]
end CX8j
