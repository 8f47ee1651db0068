/-! SalaryCapLedgerModel: best releases, trades, swaps, taxes ahead -/
section CX9g
variable {V : q_En} {h : q_H} {z : Option Nat} {Kx : q_KX}
abbrev mI3 (M : q_Mo) (f g c : Nat → Int32) : q_Mo := (M.1, M.2.1, fun q => if q = 10 then f else if q = 11 then g else if q = 12 then c else M.2.2 q)
theorem mI3_i {M : q_Mo} : mI3 M (M.2.2 10) (M.2.2 11) (M.2.2 12) = M := congrArg (fun q => (M.1, M.2.1, q)) (funext fun q => by
  by_cases e : q = 10
  · simp [e]
  · by_cases e1 : q = 11
    · simp [e1]
    · by_cases e2 : q = 12 <;> simp [e, e1, e2])
theorem mI3_10 {M : q_Mo} {f g c x : Nat → Int32} : mIr (mI3 M f g c) 10 x = mI3 M x g c := congrArg (fun q => (M.1, M.2.1, q)) (funext fun q => by by_cases e : q = 10 <;> simp [e])
theorem mI3_11 {M : q_Mo} {f g c x : Nat → Int32} : mIr (mI3 M f g c) 11 x = mI3 M f x c := congrArg (fun q => (M.1, M.2.1, q)) (funext fun q => by
  by_cases e : q = 11
  · simp [e]
  · by_cases e1 : q = 10 <;> simp [e, e1])
theorem mI3_12 {M : q_Mo} {f g c x : Nat → Int32} : mIr (mI3 M f g c) 12 x = mI3 M f g x := congrArg (fun q => (M.1, M.2.1, q)) (funext fun q => by
  by_cases e : q = 12
  · simp [e]
  · by_cases e1 : q = 10
    · simp [e1]
    · by_cases e2 : q = 11 <;> simp [e, e1, e2])
def r_gn (r : Nat → Int64) (p : Nat) (st : Int32) : Int32 := if r_has r p = true then r_cost r p - r_ld r p st 0 else 0
def r_rc (r : Nat → Int64) (p : Nat) (st : Int32) (y : Nat) : Int32 := if r_has r p = true then r_ld r p st y else -2
theorem mX9_gainOf {a : Nat} {M : q_Mo} {p : Nat} {st : Int32} {P : Int32 → q_H → Option Nat → Prop} (hM : isM h a M) (hp : p < 24) (hP : r_has (m_r M) p = true → okP (m_r M) p) (hn : r_has (m_r M) p = true → ¬ r_op (m_r M) p 5 = 0) (hk : ∀ h2 f, isM h2 a (mIr M 10 f) → q_out a 13 h h2 → P (r_gn (m_r M) p st) h2 z) : QMi V iX9_gainOf [.ref a, .int (nI p), .int st] h z P Kx := by
  have ho : q_out a 13 h h := q_out.refl
  refine eX9_gainOf ?_
  refine wX9_gainOf_0 ?_
  refine wX9_gainOf_1 ?_
  refine wX9_gainOf_2 hM.c (mX9_hasContract hM hp ?_)
  refine wX9_gainOf_5 (fun c5 => ?_) (fun c5 => ?_)
  · refine wX9_gainOf_10 ?_
    refine wX9_gainOf_11 ?_
    refine wX9_gainOf_12 ?_
    refine wX9_gainOf_13 hM.c (mX9_layDead hM hp (hP (q_b1 c5)) (fun h2 f hf hM ho2 => ?_))
    have ho := ho.trans ho2
    refine wX9_gainOf_16 ?_
    refine wX9_gainOf_17 ?_
    refine wX9_gainOf_18 ?_
    refine wX9_gainOf_19 hM.c (mX9_costNow hM hp hn ?_)
    refine wX9_gainOf_22 ?_
    refine wX9_gainOf_23 hM.c ?_
    refine wX9_gainOf_26 ?_
    refine wX9_gainOf_27 hM.a10 (j := 0) rfl (by decide) (by decide) ?_
    refine wX9_gainOf_28 ?_
    refine wX9_gainOf_29  ?_
    refine q_cv ?_ (hk _ f hM ho)
    rw [r_gn, if_pos (q_b1 c5)]
    show r_cost (m_r M) p - f 0 = r_cost (m_r M) p - r_ld (m_r M) p st 0
    rw [hf 0 (by decide)]
  · refine wX9_gainOf_8 ?_
    refine wX9_gainOf_9  ?_
    refine q_cv ?_ (hk _ _ (hM.e mIr_i.symm) ho)
    rw [r_gn, if_neg (by rw [q_b0 c5]; decide)]
theorem mX9_releaseCost {a : Nat} {M : q_Mo} {p : Int32} {st : Int32} {x : Int32}  {w nt np nb : Nat} {P : Int32 → q_H → Option Nat → Prop} (hM : isM h a M) (hO : ¬ M.1 3 = 0 → okM M w nt np nb) (hP : ¬ M.1 3 = 0 → ∀ i, i < 24 → r_has (m_r M) i = true → okP (m_r M) i) (hw : M.1 3 = 0 ∨ (mgP M p && mgA x) = false → ∀ h2, isM h2 a (mS M 4 (mo_th M (mgP M p && mgA x))) → q_out a 13 h h2 → P 0 h2 z) (hk : ¬ M.1 3 = 0 → (mgP M p && mgA x) = true → ∀ i, i < 24 → p = nI i → ∀ y, y < 12 → x = nI y → ∀ h2 f, isM h2 a (mIr (mS M 4 0) 10 f) → q_out a 13 h h2 → P (r_rc (m_r M) i st y) h2 z) : QMi V iX9_releaseCost [.ref a, .int p, .int st, .int x] h z P Kx := by
  have ho : q_out a 13 h h := q_out.refl
  have hj : ∀ b9 : Int32, b9 = q_b (mgP M p && mgA x) → QW V iX9_releaseCost 21 [some (.ref a), some (.int p), some (.int st), some (.int x), none] [.int b9, .ref a] h z 0 0 (q_Ki P) Kx := by
    intro b9 hb9
    refine wX9_releaseCost_21 hM.c (mX9_isWrong (g := mgP M p && mgA x) hM hb9 (fun hc h2 hM ho2 => ?_) (fun hl hg h2 hM ho2 => ?_))
    · refine wX9_releaseCost_24 (fun c24 => absurd c24 (by decide)) (fun c24 => ?_)
      refine wX9_releaseCost_27 ?_
      refine wX9_releaseCost_28  ?_
      exact hw hc _ hM ho2
    · have ho := ho.trans ho2
      have hO := hO hl
      have hP := hP hl
      have hg0 := hg
      simp only [Bool.and_eq_true] at hg0
      obtain ⟨i, hi, rfl⟩ := mgP_of hO hg0.1
      obtain ⟨y, hy, rfl⟩ := mgA_of hg0.2
      refine wX9_releaseCost_24 (fun c24 => ?_) (fun c24 => absurd rfl c24)
      refine wX9_releaseCost_29 ?_
      refine wX9_releaseCost_30 ?_
      refine wX9_releaseCost_31 hM.c (mX9_hasContract hM hi ?_)
      refine wX9_releaseCost_34 (fun c34 => ?_) (fun c34 => ?_)
      · refine wX9_releaseCost_40 ?_
        refine wX9_releaseCost_41 ?_
        refine wX9_releaseCost_42 ?_
        refine wX9_releaseCost_43 hM.c (mX9_layDead hM hi (hP i hi (q_b1 c34)) (fun h2 f hf hM ho2 => ?_))
        have ho := ho.trans ho2
        refine wX9_releaseCost_46 ?_
        refine wX9_releaseCost_48 ?_
        refine wX9_releaseCost_49 hM.c ?_
        refine wX9_releaseCost_52 ?_
        refine wX9_releaseCost_53 hM.a10 rfl (show y < 12 from hy) (by decide) ?_
        refine wX9_releaseCost_54  ?_
        refine q_cv ?_ (hk hl hg i hi rfl y hy rfl _ f hM ho)
        rw [r_rc, if_pos (q_b1 c34)]
        exact hf y hy
      · refine wX9_releaseCost_37 ?_
        refine wX9_releaseCost_39  ?_
        refine q_cv ?_ (hk hl hg i hi rfl y hy rfl _ _ (hM.e mIr_i.symm) ho)
        rw [r_rc, if_neg (by rw [q_b0 c34]; decide)]
  refine eX9_releaseCost ?_
  refine wX9_releaseCost_0 ?_
  refine wX9_releaseCost_1 ?_
  refine wX9_releaseCost_2 ?_
  refine wX9_releaseCost_3 hM.c (mX9_isPlayer hM ?_)
  refine wX9_releaseCost_6 (fun c6 => ?_) (fun c6 => ?_)
  · refine wX9_releaseCost_20 ?_
    first
      | (have p0 : (mgP M p) = true := q_b1 c6; have p1 : (mgA x) = true := q_b1 c13; exact hj _ (by simp only [p0, p1]; first | rfl | simp [q_b]))
      | (have p0 : (mgP M p) = true := q_b1 c6; have p1 : (mgA x) = false := q_b0 c13; exact hj _ (by simp only [p0, p1]; first | rfl | simp [q_b]))
      | (have p0 : (mgP M p) = false := q_b0 c6; exact hj _ (by simp only [p0]; first | rfl | simp [q_b]))
  · refine wX9_releaseCost_9 ?_
    refine wX9_releaseCost_10 (mX9_isAhead ?_)
    refine wX9_releaseCost_13 (fun c13 => ?_) (fun c13 => ?_)
    · refine wX9_releaseCost_20 ?_
      first
        | (have p0 : (mgP M p) = true := q_b1 c6; have p1 : (mgA x) = true := q_b1 c13; exact hj _ (by simp only [p0, p1]; first | rfl | simp [q_b]))
        | (have p0 : (mgP M p) = true := q_b1 c6; have p1 : (mgA x) = false := q_b0 c13; exact hj _ (by simp only [p0, p1]; first | rfl | simp [q_b]))
        | (have p0 : (mgP M p) = false := q_b0 c6; exact hj _ (by simp only [p0]; first | rfl | simp [q_b]))
    · refine wX9_releaseCost_16 ?_
      refine wX9_releaseCost_17 ?_
      first
        | (have p0 : (mgP M p) = true := q_b1 c6; have p1 : (mgA x) = true := q_b1 c13; exact hj _ (by simp only [p0, p1]; first | rfl | simp [q_b]))
        | (have p0 : (mgP M p) = true := q_b1 c6; have p1 : (mgA x) = false := q_b0 c13; exact hj _ (by simp only [p0, p1]; first | rfl | simp [q_b]))
        | (have p0 : (mgP M p) = false := q_b0 c6; exact hj _ (by simp only [p0]; first | rfl | simp [q_b]))
theorem mX9_releaseGain {a : Nat} {M : q_Mo} {p : Int32} {st : Int32}  {w nt np nb : Nat} {P : Int32 → q_H → Option Nat → Prop} (hM : isM h a M) (hO : ¬ M.1 3 = 0 → okM M w nt np nb) (hP : ¬ M.1 3 = 0 → ∀ i, i < 24 → r_has (m_r M) i = true → okP (m_r M) i) (hw : M.1 3 = 0 ∨ (mgP M p) = false → ∀ h2, isM h2 a (mS M 4 (mo_th M (mgP M p))) → q_out a 13 h h2 → P 0 h2 z) (hk : ¬ M.1 3 = 0 → mgP M p = true → ∀ i, i < 24 → p = nI i → ∀ h2 f, isM h2 a (mIr (mS M 4 0) 10 f) → q_out a 13 h h2 → P (r_gn (m_r M) i st) h2 z) : QMi V iX9_releaseGain [.ref a, .int p, .int st] h z P Kx := by
  have ho : q_out a 13 h h := q_out.refl
  refine eX9_releaseGain ?_
  refine wX9_releaseGain_0 ?_
  refine wX9_releaseGain_1 ?_
  refine wX9_releaseGain_2 ?_
  refine wX9_releaseGain_3 hM.c (mX9_isPlayer hM ?_)
  refine wX9_releaseGain_6 hM.c (mX9_isWrong (g := mgP M p) hM rfl (fun hc h2 hM ho2 => ?_) (fun hl hg h2 hM ho2 => ?_))
  · refine wX9_releaseGain_9 (fun c9 => absurd c9 (by decide)) (fun c9 => ?_)
    refine wX9_releaseGain_12 ?_
    refine wX9_releaseGain_13 ?_
    refine wX9_releaseGain_22  ?_
    exact hw hc _ hM ho2
  · have ho := ho.trans ho2
    have hO := hO hl
    have hP := hP hl
    have hg0 := hg
    obtain ⟨i, hi, rfl⟩ := mgP_of hO hg0
    refine wX9_releaseGain_9 (fun c9 => ?_) (fun c9 => absurd rfl c9)
    refine wX9_releaseGain_16 ?_
    refine wX9_releaseGain_17 ?_
    refine wX9_releaseGain_18 ?_
    refine wX9_releaseGain_19 hM.c (mX9_gainOf hM hi (hP i hi) (hO.2.2.2.2.2 i hi) (fun h2 f hM ho2 => ?_))
    have ho := ho.trans ho2
    refine wX9_releaseGain_22  ?_
    exact hk hl hg i hi rfl _ f hM ho
def r_nxs (all s : Int32) : Int32 := ((s ||| (all ^^^ -1)) + 1) &&& all
def r_it (all : Int32) : Nat → Int32
  | 0 => 0
  | k + 1 => r_nxs all (r_it all k)
def r_gs (g : Nat → Int32) (b s : Int32) (n : Nat) : Int32 := q_ac b (fun p => if q_bit s p = true then g p else 0) n
theorem r_gs_s {g : Nat → Int32} {b s : Int32} {k : Nat} : r_gs g b s (k + 1) = r_gs g b s k + (if q_bit s k = true then g k else 0) := rfl
def r_bst (G C : Nat → Int32) (rm : Int32) (n : Nat) (B : Int32 × Int32 × Int32) (s : Int32) : Int32 × Int32 × Int32 :=
  if ¬ r_gs G rm s n < 0 ∧ (B.1 = -1 ∨ r_ty s 24 < B.2.1 ∨ (r_ty s 24 = B.2.1 ∧ r_gs C 0 s n < B.2.2)) then (s, r_ty s 24, r_gs C 0 s n) else B
def r_bs (G C : Nat → Int32) (rm : Int32) (n : Nat) (all : Int32) : Nat → Int32 × Int32 × Int32
  | 0 => (-1, 0, 0)
  | k + 1 => r_bst G C rm n (r_bs G C rm n all k) (r_it all k)
def r_Gf (r : Nat → Int64) (all : Int32) (q : Nat) : Int32 := if q_bit all q = true then r_gn r q 0 else 0
def r_Cf (r : Nat → Int64) (all : Int32) (q : Nat) : Int32 := if q_bit all q = true then r_lt r q 0 else 0
theorem r_gs_c {g g' : Nat → Int32} {b s : Int32} {n : Nat} (h : ∀ q, q < n → g q = g' q) : r_gs g b s n = r_gs g' b s n := by
  unfold r_gs
  induction n with
  | zero => rfl
  | succ n ih => rw [q_ac, q_ac, ih (fun q hq => h q (by omega)), h n (by omega)]
theorem r_set_bit {r : Nat → Int64} {t n i : Nat} (hn : n ≤ 24) (hi : i < 32) (hb : q_bit (r_set r t n) i = true) : i < n ∧ r_op r i 0 = nI t := by
  rw [q_bitv hi, r_set_v (by omega) hi, Bool.and_eq_true] at hb
  exact ⟨of_decide_eq_true hb.1, of_decide_eq_true hb.2⟩
theorem r_has_t {r : Nat → Int64} {t p : Nat} (ht : t < 4) (e : r_op r p 0 = nI t) : r_has r p = true := by
  unfold r_has
  rw [e]; exact decide_eq_true ((by decide : ∀ t, t < 4 → ¬ nI t = -1) t ht)
theorem mX9_bestReleases {a : Nat} {M : q_Mo} {j : Nat} {w nt np nb : Nat} {P : Int32 → q_H → Option Nat → Prop} (hM : isM h a M) (hO : okM M w nt np nb) (hj : j < 4) (hP : ∀ i, i < 24 → r_has (m_r M) i = true → okP (m_r M) i) {N : Nat} (hN0 : 0 < N) (hN1 : ∀ i, 0 < i → i < N → ¬ r_it (r_set (m_r M) j np) i = 0) (hN2 : r_it (r_set (m_r M) j np) N = 0) (hk : ∀ h2 f g c, isM h2 a (mI3 M f g c) → q_out a 13 h h2 → P ((r_bs (r_Gf (m_r M) (r_set (m_r M) j np)) (r_Cf (m_r M) (r_set (m_r M) j np)) (r_room M.1 (m_r M) np w j) np (r_set (m_r M) j np) N).1) h2 z) : QMi V iX9_bestReleases [.ref a, .int (nI j)] h z P Kx := by
  have ho : q_out a 13 h h := q_out.refl
  have hnp := hO.2.2.1.1
  have hnnp := hO.2.2.1.2
  have hj91 : ∀ hh f g c, (∀ q, q < np → g q = r_Gf (m_r M) (r_set (m_r M) j np) q) → (∀ q, q < np → c q = r_Cf (m_r M) (r_set (m_r M) j np) q) → isM hh a (mI3 M f g c) → q_out a 13 h hh → QW V iX9_bestReleases 91 [some (.ref a), some (.int (nI j)), some (.int (r_set (m_r M) j np)), some (.int (r_room M.1 (m_r M) np w j)), some (.int (r_bs (r_Gf (m_r M) (r_set (m_r M) j np)) (r_Cf (m_r M) (r_set (m_r M) j np)) (r_room M.1 (m_r M) np w j) np (r_set (m_r M) j np) 0).1), some (.int (r_bs (r_Gf (m_r M) (r_set (m_r M) j np)) (r_Cf (m_r M) (r_set (m_r M) j np)) (r_room M.1 (m_r M) np w j) np (r_set (m_r M) j np) 0).2.1), some (.int (r_bs (r_Gf (m_r M) (r_set (m_r M) j np)) (r_Cf (m_r M) (r_set (m_r M) j np)) (r_room M.1 (m_r M) np w j) np (r_set (m_r M) j np) 0).2.2), some (.int (r_it (r_set (m_r M) j np) 0)), some (.int 1), none, none, none, none] [] hh z 0 0 (q_Ki P) Kx := by
    intro hh f g c hg hc hM ho
    refine q_ls (ls' := [some (.ref a), some (.int (nI j)), some (.int (r_set (m_r M) j np)), some (.int (r_room M.1 (m_r M) np w j)), some (.int (r_bs (r_Gf (m_r M) (r_set (m_r M) j np)) (r_Cf (m_r M) (r_set (m_r M) j np)) (r_room M.1 (m_r M) np w j) np (r_set (m_r M) j np) 0).1), some (.int (r_bs (r_Gf (m_r M) (r_set (m_r M) j np)) (r_Cf (m_r M) (r_set (m_r M) j np)) (r_room M.1 (m_r M) np w j) np (r_set (m_r M) j np) 0).2.1), some (.int (r_bs (r_Gf (m_r M) (r_set (m_r M) j np)) (r_Cf (m_r M) (r_set (m_r M) j np)) (r_room M.1 (m_r M) np w j) np (r_set (m_r M) j np) 0).2.2), some (.int (r_it (r_set (m_r M) j np) 0)), some (.int (q_b (decide (0 < N)))), none, none, none, none]) (by rw [decide_eq_true hN0]; try rfl) ?_
    refine q_for (P := fun i => QW V iX9_bestReleases 91 [some (.ref a), some (.int (nI j)), some (.int (r_set (m_r M) j np)), some (.int (r_room M.1 (m_r M) np w j)), some (.int (r_bs (r_Gf (m_r M) (r_set (m_r M) j np)) (r_Cf (m_r M) (r_set (m_r M) j np)) (r_room M.1 (m_r M) np w j) np (r_set (m_r M) j np) i).1), some (.int (r_bs (r_Gf (m_r M) (r_set (m_r M) j np)) (r_Cf (m_r M) (r_set (m_r M) j np)) (r_room M.1 (m_r M) np w j) np (r_set (m_r M) j np) i).2.1), some (.int (r_bs (r_Gf (m_r M) (r_set (m_r M) j np)) (r_Cf (m_r M) (r_set (m_r M) j np)) (r_room M.1 (m_r M) np w j) np (r_set (m_r M) j np) i).2.2), some (.int (r_it (r_set (m_r M) j np) i)), some (.int (q_b (decide (i < N)))), none, none, none, none] [] hh z 0 0 (q_Ki P) Kx) N ?_ (fun i hiN ih => ?_)
    · refine wX9_bestReleases_91 ?_
      refine wX9_bestReleases_93 (fun c93 => ?_) (fun c93 => absurd (show q_b (decide (N < N)) = 0 by rw [decide_eq_false (by omega)]; try rfl) c93)
      refine wX9_bestReleases_250 ?_
      refine wX9_bestReleases_252  ?_
      exact hk _ f g c hM ho
    · have hnx : QW V iX9_bestReleases 223 [some (.ref a), some (.int (nI j)), some (.int (r_set (m_r M) j np)), some (.int (r_room M.1 (m_r M) np w j)), some (.int (r_bst (r_Gf (m_r M) (r_set (m_r M) j np)) (r_Cf (m_r M) (r_set (m_r M) j np)) (r_room M.1 (m_r M) np w j) np (r_bs (r_Gf (m_r M) (r_set (m_r M) j np)) (r_Cf (m_r M) (r_set (m_r M) j np)) (r_room M.1 (m_r M) np w j) np (r_set (m_r M) j np) i) (r_it (r_set (m_r M) j np) i)).1), some (.int (r_bst (r_Gf (m_r M) (r_set (m_r M) j np)) (r_Cf (m_r M) (r_set (m_r M) j np)) (r_room M.1 (m_r M) np w j) np (r_bs (r_Gf (m_r M) (r_set (m_r M) j np)) (r_Cf (m_r M) (r_set (m_r M) j np)) (r_room M.1 (m_r M) np w j) np (r_set (m_r M) j np) i) (r_it (r_set (m_r M) j np) i)).2.1), some (.int (r_bst (r_Gf (m_r M) (r_set (m_r M) j np)) (r_Cf (m_r M) (r_set (m_r M) j np)) (r_room M.1 (m_r M) np w j) np (r_bs (r_Gf (m_r M) (r_set (m_r M) j np)) (r_Cf (m_r M) (r_set (m_r M) j np)) (r_room M.1 (m_r M) np w j) np (r_set (m_r M) j np) i) (r_it (r_set (m_r M) j np) i)).2.2), some (.int (r_it (r_set (m_r M) j np) i)), some (.int (q_b (decide (i < N)))), none, none, none, none] [] hh z 0 0 (q_Ki P) Kx := by
        refine wX9_bestReleases_223 ?_
        refine wX9_bestReleases_225 ?_
        refine wX9_bestReleases_226 ?_
        refine wX9_bestReleases_227 ?_
        refine wX9_bestReleases_228 ?_
        refine wX9_bestReleases_229 ?_
        refine wX9_bestReleases_230 ?_
        refine wX9_bestReleases_231 ?_
        refine wX9_bestReleases_232 ?_
        refine wX9_bestReleases_233 ?_
        refine wX9_bestReleases_235 ?_
        refine wX9_bestReleases_237 (fun c237 => ?_) (fun c237 => ?_)
        · refine wX9_bestReleases_244 ?_
          refine wX9_bestReleases_245 ?_
          refine wX9_bestReleases_247 ?_
          first
            | (have q9 : r_it (r_set (m_r M) j np) (i + 1) = 0 := c237
               refine q_ls ?_ ih
               rw [decide_eq_false (fun z => hN1 (i + 1) (by omega) z q9)]; try rfl)
            | (have q9 : ¬ r_it (r_set (m_r M) j np) (i + 1) = 0 := c237
               refine q_ls ?_ ih
               rw [decide_eq_true (show i + 1 < N by
                 by_cases e : i + 1 = N
                 · exact absurd (e ▸ hN2) q9
                 · omega)]; try rfl)
        · refine wX9_bestReleases_240 ?_
          refine wX9_bestReleases_241 ?_
          refine wX9_bestReleases_245 ?_
          refine wX9_bestReleases_247 ?_
          first
            | (have q9 : r_it (r_set (m_r M) j np) (i + 1) = 0 := c237
               refine q_ls ?_ ih
               rw [decide_eq_false (fun z => hN1 (i + 1) (by omega) z q9)]; try rfl)
            | (have q9 : ¬ r_it (r_set (m_r M) j np) (i + 1) = 0 := c237
               refine q_ls ?_ ih
               rw [decide_eq_true (show i + 1 < N by
                 by_cases e : i + 1 = N
                 · exact absurd (e ▸ hN2) q9
                 · omega)]; try rfl)
      refine wX9_bestReleases_91 ?_
      refine wX9_bestReleases_93 (fun c93 => absurd c93 (show ¬ q_b (decide (i < N)) = 0 by rw [decide_eq_true hiN]; decide)) (fun c93 => ?_)
      refine wX9_bestReleases_96 ?_
      refine wX9_bestReleases_98 (mX9_many ?_)
      refine wX9_bestReleases_101 ?_
      refine wX9_bestReleases_103 ?_
      refine wX9_bestReleases_104 ?_
      refine wX9_bestReleases_106 ?_
      refine wX9_bestReleases_107 ?_
      refine wX9_bestReleases_109 ?_
      refine wX9_bestReleases_110 ?_
      refine q_for (P := fun k => QW V iX9_bestReleases 112 [some (.ref a), some (.int (nI j)), some (.int (r_set (m_r M) j np)), some (.int (r_room M.1 (m_r M) np w j)), some (.int (r_bs (r_Gf (m_r M) (r_set (m_r M) j np)) (r_Cf (m_r M) (r_set (m_r M) j np)) (r_room M.1 (m_r M) np w j) np (r_set (m_r M) j np) i).1), some (.int (r_bs (r_Gf (m_r M) (r_set (m_r M) j np)) (r_Cf (m_r M) (r_set (m_r M) j np)) (r_room M.1 (m_r M) np w j) np (r_set (m_r M) j np) i).2.1), some (.int (r_bs (r_Gf (m_r M) (r_set (m_r M) j np)) (r_Cf (m_r M) (r_set (m_r M) j np)) (r_room M.1 (m_r M) np w j) np (r_set (m_r M) j np) i).2.2), some (.int (r_it (r_set (m_r M) j np) i)), some (.int (q_b (decide (i < N)))), some (.int (r_ty (r_it (r_set (m_r M) j np) i) 24)), some (.int (r_gs (r_Gf (m_r M) (r_set (m_r M) j np)) (r_room M.1 (m_r M) np w j) (r_it (r_set (m_r M) j np) i) k)), some (.int (r_gs (r_Cf (m_r M) (r_set (m_r M) j np)) 0 (r_it (r_set (m_r M) j np) i) k)), some (.int (nI k))] [] hh z 0 0 (q_Ki P) Kx) np ?_ (fun k hkn ih2 => ?_)
      · refine wX9_bestReleases_112 ?_
        refine wX9_bestReleases_114 ?_
        refine wX9_bestReleases_115 hM.c ?_
        refine wX9_bestReleases_118 (fun c118 => ?_) (fun c118 => absurd (nI_leq hnnp (Nat.le_refl _) (by omega)) c118)
        refine wX9_bestReleases_179 ?_
        refine wX9_bestReleases_181 (fun c181 => ?_) (fun c181 => ?_)
        · first
            | (have q9 : (r_bs (r_Gf (m_r M) (r_set (m_r M) j np)) (r_Cf (m_r M) (r_set (m_r M) j np)) (r_room M.1 (m_r M) np w j) np (r_set (m_r M) j np) i).1 = -1 := c187
               have e9 : r_bst (r_Gf (m_r M) (r_set (m_r M) j np)) (r_Cf (m_r M) (r_set (m_r M) j np)) (r_room M.1 (m_r M) np w j) np (r_bs (r_Gf (m_r M) (r_set (m_r M) j np)) (r_Cf (m_r M) (r_set (m_r M) j np)) (r_room M.1 (m_r M) np w j) np (r_set (m_r M) j np) i) (r_it (r_set (m_r M) j np) i) = ((r_it (r_set (m_r M) j np) i), r_ty (r_it (r_set (m_r M) j np) i) 24, (r_gs (r_Cf (m_r M) (r_set (m_r M) j np)) 0 (r_it (r_set (m_r M) j np) i) np)) := by rw [r_bst, if_pos ⟨c181, Or.inl q9⟩]
               rw [e9] at hnx
               exact q_drp 9 (q_drp 10 (q_drp 11 (q_drp 12 hnx))))
            | (have q9 : r_ty (r_it (r_set (m_r M) j np) i) 24 < (r_bs (r_Gf (m_r M) (r_set (m_r M) j np)) (r_Cf (m_r M) (r_set (m_r M) j np)) (r_room M.1 (m_r M) np w j) np (r_set (m_r M) j np) i).2.1 := c194
               have e9 : r_bst (r_Gf (m_r M) (r_set (m_r M) j np)) (r_Cf (m_r M) (r_set (m_r M) j np)) (r_room M.1 (m_r M) np w j) np (r_bs (r_Gf (m_r M) (r_set (m_r M) j np)) (r_Cf (m_r M) (r_set (m_r M) j np)) (r_room M.1 (m_r M) np w j) np (r_set (m_r M) j np) i) (r_it (r_set (m_r M) j np) i) = ((r_it (r_set (m_r M) j np) i), r_ty (r_it (r_set (m_r M) j np) i) 24, (r_gs (r_Cf (m_r M) (r_set (m_r M) j np)) 0 (r_it (r_set (m_r M) j np) i) np)) := by rw [r_bst, if_pos ⟨c181, Or.inr (Or.inl q9)⟩]
               rw [e9] at hnx
               exact q_drp 9 (q_drp 10 (q_drp 11 (q_drp 12 hnx))))
            | (have q9 : ¬ (r_bs (r_Gf (m_r M) (r_set (m_r M) j np)) (r_Cf (m_r M) (r_set (m_r M) j np)) (r_room M.1 (m_r M) np w j) np (r_set (m_r M) j np) i).2.2 ≤ (r_gs (r_Cf (m_r M) (r_set (m_r M) j np)) 0 (r_it (r_set (m_r M) j np) i) np) := c208
               have e9 : r_bst (r_Gf (m_r M) (r_set (m_r M) j np)) (r_Cf (m_r M) (r_set (m_r M) j np)) (r_room M.1 (m_r M) np w j) np (r_bs (r_Gf (m_r M) (r_set (m_r M) j np)) (r_Cf (m_r M) (r_set (m_r M) j np)) (r_room M.1 (m_r M) np w j) np (r_set (m_r M) j np) i) (r_it (r_set (m_r M) j np) i) = ((r_it (r_set (m_r M) j np) i), r_ty (r_it (r_set (m_r M) j np) i) 24, (r_gs (r_Cf (m_r M) (r_set (m_r M) j np)) 0 (r_it (r_set (m_r M) j np) i) np)) := by rw [r_bst, if_pos ⟨c181, Or.inr (Or.inr ⟨c201, Int32.not_le.mp q9⟩)⟩]
               rw [e9] at hnx
               exact q_drp 9 (q_drp 10 (q_drp 11 (q_drp 12 hnx))))
            | (have q9 : (r_bs (r_Gf (m_r M) (r_set (m_r M) j np)) (r_Cf (m_r M) (r_set (m_r M) j np)) (r_room M.1 (m_r M) np w j) np (r_set (m_r M) j np) i).2.2 ≤ (r_gs (r_Cf (m_r M) (r_set (m_r M) j np)) 0 (r_it (r_set (m_r M) j np) i) np) := c208
               have e9 : r_bst (r_Gf (m_r M) (r_set (m_r M) j np)) (r_Cf (m_r M) (r_set (m_r M) j np)) (r_room M.1 (m_r M) np w j) np (r_bs (r_Gf (m_r M) (r_set (m_r M) j np)) (r_Cf (m_r M) (r_set (m_r M) j np)) (r_room M.1 (m_r M) np w j) np (r_set (m_r M) j np) i) (r_it (r_set (m_r M) j np) i) = (r_bs (r_Gf (m_r M) (r_set (m_r M) j np)) (r_Cf (m_r M) (r_set (m_r M) j np)) (r_room M.1 (m_r M) np w j) np (r_set (m_r M) j np) i) := by rw [r_bst, if_neg (fun z => z.2.elim c187 (fun z => z.elim c194 (fun z => Int32.not_lt.mpr q9 z.2)))]
               rw [e9] at hnx
               exact q_drp 9 (q_drp 10 (q_drp 11 (q_drp 12 hnx))))
            | (have q9 : ¬ r_ty (r_it (r_set (m_r M) j np) i) 24 = (r_bs (r_Gf (m_r M) (r_set (m_r M) j np)) (r_Cf (m_r M) (r_set (m_r M) j np)) (r_room M.1 (m_r M) np w j) np (r_set (m_r M) j np) i).2.1 := c201
               have e9 : r_bst (r_Gf (m_r M) (r_set (m_r M) j np)) (r_Cf (m_r M) (r_set (m_r M) j np)) (r_room M.1 (m_r M) np w j) np (r_bs (r_Gf (m_r M) (r_set (m_r M) j np)) (r_Cf (m_r M) (r_set (m_r M) j np)) (r_room M.1 (m_r M) np w j) np (r_set (m_r M) j np) i) (r_it (r_set (m_r M) j np) i) = (r_bs (r_Gf (m_r M) (r_set (m_r M) j np)) (r_Cf (m_r M) (r_set (m_r M) j np)) (r_room M.1 (m_r M) np w j) np (r_set (m_r M) j np) i) := by rw [r_bst, if_neg (fun z => z.2.elim c187 (fun z => z.elim c194 (fun z => q9 z.1)))]
               rw [e9] at hnx
               exact q_drp 9 (q_drp 10 (q_drp 11 (q_drp 12 hnx))))
            | (have q9 : (r_gs (r_Gf (m_r M) (r_set (m_r M) j np)) (r_room M.1 (m_r M) np w j) (r_it (r_set (m_r M) j np) i) np) < 0 := c181
               have e9 : r_bst (r_Gf (m_r M) (r_set (m_r M) j np)) (r_Cf (m_r M) (r_set (m_r M) j np)) (r_room M.1 (m_r M) np w j) np (r_bs (r_Gf (m_r M) (r_set (m_r M) j np)) (r_Cf (m_r M) (r_set (m_r M) j np)) (r_room M.1 (m_r M) np w j) np (r_set (m_r M) j np) i) (r_it (r_set (m_r M) j np) i) = (r_bs (r_Gf (m_r M) (r_set (m_r M) j np)) (r_Cf (m_r M) (r_set (m_r M) j np)) (r_room M.1 (m_r M) np w j) np (r_set (m_r M) j np) i) := by rw [r_bst, if_neg (fun z => z.1 q9)]
               rw [e9] at hnx
               exact q_drp 9 (q_drp 10 (q_drp 11 (q_drp 12 hnx))))
        · refine wX9_bestReleases_184 ?_
          refine wX9_bestReleases_186 ?_
          refine wX9_bestReleases_187 (fun c187 => ?_) (fun c187 => ?_)
          · refine wX9_bestReleases_211 ?_
            refine wX9_bestReleases_213 ?_
            refine wX9_bestReleases_215 ?_
            refine wX9_bestReleases_217 ?_
            refine wX9_bestReleases_219 ?_
            refine wX9_bestReleases_221 ?_
            first
              | (have q9 : (r_bs (r_Gf (m_r M) (r_set (m_r M) j np)) (r_Cf (m_r M) (r_set (m_r M) j np)) (r_room M.1 (m_r M) np w j) np (r_set (m_r M) j np) i).1 = -1 := c187
                 have e9 : r_bst (r_Gf (m_r M) (r_set (m_r M) j np)) (r_Cf (m_r M) (r_set (m_r M) j np)) (r_room M.1 (m_r M) np w j) np (r_bs (r_Gf (m_r M) (r_set (m_r M) j np)) (r_Cf (m_r M) (r_set (m_r M) j np)) (r_room M.1 (m_r M) np w j) np (r_set (m_r M) j np) i) (r_it (r_set (m_r M) j np) i) = ((r_it (r_set (m_r M) j np) i), r_ty (r_it (r_set (m_r M) j np) i) 24, (r_gs (r_Cf (m_r M) (r_set (m_r M) j np)) 0 (r_it (r_set (m_r M) j np) i) np)) := by rw [r_bst, if_pos ⟨c181, Or.inl q9⟩]
                 rw [e9] at hnx
                 exact q_drp 9 (q_drp 10 (q_drp 11 (q_drp 12 hnx))))
              | (have q9 : r_ty (r_it (r_set (m_r M) j np) i) 24 < (r_bs (r_Gf (m_r M) (r_set (m_r M) j np)) (r_Cf (m_r M) (r_set (m_r M) j np)) (r_room M.1 (m_r M) np w j) np (r_set (m_r M) j np) i).2.1 := c194
                 have e9 : r_bst (r_Gf (m_r M) (r_set (m_r M) j np)) (r_Cf (m_r M) (r_set (m_r M) j np)) (r_room M.1 (m_r M) np w j) np (r_bs (r_Gf (m_r M) (r_set (m_r M) j np)) (r_Cf (m_r M) (r_set (m_r M) j np)) (r_room M.1 (m_r M) np w j) np (r_set (m_r M) j np) i) (r_it (r_set (m_r M) j np) i) = ((r_it (r_set (m_r M) j np) i), r_ty (r_it (r_set (m_r M) j np) i) 24, (r_gs (r_Cf (m_r M) (r_set (m_r M) j np)) 0 (r_it (r_set (m_r M) j np) i) np)) := by rw [r_bst, if_pos ⟨c181, Or.inr (Or.inl q9)⟩]
                 rw [e9] at hnx
                 exact q_drp 9 (q_drp 10 (q_drp 11 (q_drp 12 hnx))))
              | (have q9 : ¬ (r_bs (r_Gf (m_r M) (r_set (m_r M) j np)) (r_Cf (m_r M) (r_set (m_r M) j np)) (r_room M.1 (m_r M) np w j) np (r_set (m_r M) j np) i).2.2 ≤ (r_gs (r_Cf (m_r M) (r_set (m_r M) j np)) 0 (r_it (r_set (m_r M) j np) i) np) := c208
                 have e9 : r_bst (r_Gf (m_r M) (r_set (m_r M) j np)) (r_Cf (m_r M) (r_set (m_r M) j np)) (r_room M.1 (m_r M) np w j) np (r_bs (r_Gf (m_r M) (r_set (m_r M) j np)) (r_Cf (m_r M) (r_set (m_r M) j np)) (r_room M.1 (m_r M) np w j) np (r_set (m_r M) j np) i) (r_it (r_set (m_r M) j np) i) = ((r_it (r_set (m_r M) j np) i), r_ty (r_it (r_set (m_r M) j np) i) 24, (r_gs (r_Cf (m_r M) (r_set (m_r M) j np)) 0 (r_it (r_set (m_r M) j np) i) np)) := by rw [r_bst, if_pos ⟨c181, Or.inr (Or.inr ⟨c201, Int32.not_le.mp q9⟩)⟩]
                 rw [e9] at hnx
                 exact q_drp 9 (q_drp 10 (q_drp 11 (q_drp 12 hnx))))
              | (have q9 : (r_bs (r_Gf (m_r M) (r_set (m_r M) j np)) (r_Cf (m_r M) (r_set (m_r M) j np)) (r_room M.1 (m_r M) np w j) np (r_set (m_r M) j np) i).2.2 ≤ (r_gs (r_Cf (m_r M) (r_set (m_r M) j np)) 0 (r_it (r_set (m_r M) j np) i) np) := c208
                 have e9 : r_bst (r_Gf (m_r M) (r_set (m_r M) j np)) (r_Cf (m_r M) (r_set (m_r M) j np)) (r_room M.1 (m_r M) np w j) np (r_bs (r_Gf (m_r M) (r_set (m_r M) j np)) (r_Cf (m_r M) (r_set (m_r M) j np)) (r_room M.1 (m_r M) np w j) np (r_set (m_r M) j np) i) (r_it (r_set (m_r M) j np) i) = (r_bs (r_Gf (m_r M) (r_set (m_r M) j np)) (r_Cf (m_r M) (r_set (m_r M) j np)) (r_room M.1 (m_r M) np w j) np (r_set (m_r M) j np) i) := by rw [r_bst, if_neg (fun z => z.2.elim c187 (fun z => z.elim c194 (fun z => Int32.not_lt.mpr q9 z.2)))]
                 rw [e9] at hnx
                 exact q_drp 9 (q_drp 10 (q_drp 11 (q_drp 12 hnx))))
              | (have q9 : ¬ r_ty (r_it (r_set (m_r M) j np) i) 24 = (r_bs (r_Gf (m_r M) (r_set (m_r M) j np)) (r_Cf (m_r M) (r_set (m_r M) j np)) (r_room M.1 (m_r M) np w j) np (r_set (m_r M) j np) i).2.1 := c201
                 have e9 : r_bst (r_Gf (m_r M) (r_set (m_r M) j np)) (r_Cf (m_r M) (r_set (m_r M) j np)) (r_room M.1 (m_r M) np w j) np (r_bs (r_Gf (m_r M) (r_set (m_r M) j np)) (r_Cf (m_r M) (r_set (m_r M) j np)) (r_room M.1 (m_r M) np w j) np (r_set (m_r M) j np) i) (r_it (r_set (m_r M) j np) i) = (r_bs (r_Gf (m_r M) (r_set (m_r M) j np)) (r_Cf (m_r M) (r_set (m_r M) j np)) (r_room M.1 (m_r M) np w j) np (r_set (m_r M) j np) i) := by rw [r_bst, if_neg (fun z => z.2.elim c187 (fun z => z.elim c194 (fun z => q9 z.1)))]
                 rw [e9] at hnx
                 exact q_drp 9 (q_drp 10 (q_drp 11 (q_drp 12 hnx))))
              | (have q9 : (r_gs (r_Gf (m_r M) (r_set (m_r M) j np)) (r_room M.1 (m_r M) np w j) (r_it (r_set (m_r M) j np) i) np) < 0 := c181
                 have e9 : r_bst (r_Gf (m_r M) (r_set (m_r M) j np)) (r_Cf (m_r M) (r_set (m_r M) j np)) (r_room M.1 (m_r M) np w j) np (r_bs (r_Gf (m_r M) (r_set (m_r M) j np)) (r_Cf (m_r M) (r_set (m_r M) j np)) (r_room M.1 (m_r M) np w j) np (r_set (m_r M) j np) i) (r_it (r_set (m_r M) j np) i) = (r_bs (r_Gf (m_r M) (r_set (m_r M) j np)) (r_Cf (m_r M) (r_set (m_r M) j np)) (r_room M.1 (m_r M) np w j) np (r_set (m_r M) j np) i) := by rw [r_bst, if_neg (fun z => z.1 q9)]
                 rw [e9] at hnx
                 exact q_drp 9 (q_drp 10 (q_drp 11 (q_drp 12 hnx))))
          · refine wX9_bestReleases_190 ?_
            refine wX9_bestReleases_192 ?_
            refine wX9_bestReleases_194 (fun c194 => ?_) (fun c194 => ?_)
            · refine wX9_bestReleases_211 ?_
              refine wX9_bestReleases_213 ?_
              refine wX9_bestReleases_215 ?_
              refine wX9_bestReleases_217 ?_
              refine wX9_bestReleases_219 ?_
              refine wX9_bestReleases_221 ?_
              first
                | (have q9 : (r_bs (r_Gf (m_r M) (r_set (m_r M) j np)) (r_Cf (m_r M) (r_set (m_r M) j np)) (r_room M.1 (m_r M) np w j) np (r_set (m_r M) j np) i).1 = -1 := c187
                   have e9 : r_bst (r_Gf (m_r M) (r_set (m_r M) j np)) (r_Cf (m_r M) (r_set (m_r M) j np)) (r_room M.1 (m_r M) np w j) np (r_bs (r_Gf (m_r M) (r_set (m_r M) j np)) (r_Cf (m_r M) (r_set (m_r M) j np)) (r_room M.1 (m_r M) np w j) np (r_set (m_r M) j np) i) (r_it (r_set (m_r M) j np) i) = ((r_it (r_set (m_r M) j np) i), r_ty (r_it (r_set (m_r M) j np) i) 24, (r_gs (r_Cf (m_r M) (r_set (m_r M) j np)) 0 (r_it (r_set (m_r M) j np) i) np)) := by rw [r_bst, if_pos ⟨c181, Or.inl q9⟩]
                   rw [e9] at hnx
                   exact q_drp 9 (q_drp 10 (q_drp 11 (q_drp 12 hnx))))
                | (have q9 : r_ty (r_it (r_set (m_r M) j np) i) 24 < (r_bs (r_Gf (m_r M) (r_set (m_r M) j np)) (r_Cf (m_r M) (r_set (m_r M) j np)) (r_room M.1 (m_r M) np w j) np (r_set (m_r M) j np) i).2.1 := c194
                   have e9 : r_bst (r_Gf (m_r M) (r_set (m_r M) j np)) (r_Cf (m_r M) (r_set (m_r M) j np)) (r_room M.1 (m_r M) np w j) np (r_bs (r_Gf (m_r M) (r_set (m_r M) j np)) (r_Cf (m_r M) (r_set (m_r M) j np)) (r_room M.1 (m_r M) np w j) np (r_set (m_r M) j np) i) (r_it (r_set (m_r M) j np) i) = ((r_it (r_set (m_r M) j np) i), r_ty (r_it (r_set (m_r M) j np) i) 24, (r_gs (r_Cf (m_r M) (r_set (m_r M) j np)) 0 (r_it (r_set (m_r M) j np) i) np)) := by rw [r_bst, if_pos ⟨c181, Or.inr (Or.inl q9)⟩]
                   rw [e9] at hnx
                   exact q_drp 9 (q_drp 10 (q_drp 11 (q_drp 12 hnx))))
                | (have q9 : ¬ (r_bs (r_Gf (m_r M) (r_set (m_r M) j np)) (r_Cf (m_r M) (r_set (m_r M) j np)) (r_room M.1 (m_r M) np w j) np (r_set (m_r M) j np) i).2.2 ≤ (r_gs (r_Cf (m_r M) (r_set (m_r M) j np)) 0 (r_it (r_set (m_r M) j np) i) np) := c208
                   have e9 : r_bst (r_Gf (m_r M) (r_set (m_r M) j np)) (r_Cf (m_r M) (r_set (m_r M) j np)) (r_room M.1 (m_r M) np w j) np (r_bs (r_Gf (m_r M) (r_set (m_r M) j np)) (r_Cf (m_r M) (r_set (m_r M) j np)) (r_room M.1 (m_r M) np w j) np (r_set (m_r M) j np) i) (r_it (r_set (m_r M) j np) i) = ((r_it (r_set (m_r M) j np) i), r_ty (r_it (r_set (m_r M) j np) i) 24, (r_gs (r_Cf (m_r M) (r_set (m_r M) j np)) 0 (r_it (r_set (m_r M) j np) i) np)) := by rw [r_bst, if_pos ⟨c181, Or.inr (Or.inr ⟨c201, Int32.not_le.mp q9⟩)⟩]
                   rw [e9] at hnx
                   exact q_drp 9 (q_drp 10 (q_drp 11 (q_drp 12 hnx))))
                | (have q9 : (r_bs (r_Gf (m_r M) (r_set (m_r M) j np)) (r_Cf (m_r M) (r_set (m_r M) j np)) (r_room M.1 (m_r M) np w j) np (r_set (m_r M) j np) i).2.2 ≤ (r_gs (r_Cf (m_r M) (r_set (m_r M) j np)) 0 (r_it (r_set (m_r M) j np) i) np) := c208
                   have e9 : r_bst (r_Gf (m_r M) (r_set (m_r M) j np)) (r_Cf (m_r M) (r_set (m_r M) j np)) (r_room M.1 (m_r M) np w j) np (r_bs (r_Gf (m_r M) (r_set (m_r M) j np)) (r_Cf (m_r M) (r_set (m_r M) j np)) (r_room M.1 (m_r M) np w j) np (r_set (m_r M) j np) i) (r_it (r_set (m_r M) j np) i) = (r_bs (r_Gf (m_r M) (r_set (m_r M) j np)) (r_Cf (m_r M) (r_set (m_r M) j np)) (r_room M.1 (m_r M) np w j) np (r_set (m_r M) j np) i) := by rw [r_bst, if_neg (fun z => z.2.elim c187 (fun z => z.elim c194 (fun z => Int32.not_lt.mpr q9 z.2)))]
                   rw [e9] at hnx
                   exact q_drp 9 (q_drp 10 (q_drp 11 (q_drp 12 hnx))))
                | (have q9 : ¬ r_ty (r_it (r_set (m_r M) j np) i) 24 = (r_bs (r_Gf (m_r M) (r_set (m_r M) j np)) (r_Cf (m_r M) (r_set (m_r M) j np)) (r_room M.1 (m_r M) np w j) np (r_set (m_r M) j np) i).2.1 := c201
                   have e9 : r_bst (r_Gf (m_r M) (r_set (m_r M) j np)) (r_Cf (m_r M) (r_set (m_r M) j np)) (r_room M.1 (m_r M) np w j) np (r_bs (r_Gf (m_r M) (r_set (m_r M) j np)) (r_Cf (m_r M) (r_set (m_r M) j np)) (r_room M.1 (m_r M) np w j) np (r_set (m_r M) j np) i) (r_it (r_set (m_r M) j np) i) = (r_bs (r_Gf (m_r M) (r_set (m_r M) j np)) (r_Cf (m_r M) (r_set (m_r M) j np)) (r_room M.1 (m_r M) np w j) np (r_set (m_r M) j np) i) := by rw [r_bst, if_neg (fun z => z.2.elim c187 (fun z => z.elim c194 (fun z => q9 z.1)))]
                   rw [e9] at hnx
                   exact q_drp 9 (q_drp 10 (q_drp 11 (q_drp 12 hnx))))
                | (have q9 : (r_gs (r_Gf (m_r M) (r_set (m_r M) j np)) (r_room M.1 (m_r M) np w j) (r_it (r_set (m_r M) j np) i) np) < 0 := c181
                   have e9 : r_bst (r_Gf (m_r M) (r_set (m_r M) j np)) (r_Cf (m_r M) (r_set (m_r M) j np)) (r_room M.1 (m_r M) np w j) np (r_bs (r_Gf (m_r M) (r_set (m_r M) j np)) (r_Cf (m_r M) (r_set (m_r M) j np)) (r_room M.1 (m_r M) np w j) np (r_set (m_r M) j np) i) (r_it (r_set (m_r M) j np) i) = (r_bs (r_Gf (m_r M) (r_set (m_r M) j np)) (r_Cf (m_r M) (r_set (m_r M) j np)) (r_room M.1 (m_r M) np w j) np (r_set (m_r M) j np) i) := by rw [r_bst, if_neg (fun z => z.1 q9)]
                   rw [e9] at hnx
                   exact q_drp 9 (q_drp 10 (q_drp 11 (q_drp 12 hnx))))
            · refine wX9_bestReleases_197 ?_
              refine wX9_bestReleases_199 ?_
              refine wX9_bestReleases_201 (fun c201 => ?_) (fun c201 => ?_)
              · first
                  | (have q9 : (r_bs (r_Gf (m_r M) (r_set (m_r M) j np)) (r_Cf (m_r M) (r_set (m_r M) j np)) (r_room M.1 (m_r M) np w j) np (r_set (m_r M) j np) i).1 = -1 := c187
                     have e9 : r_bst (r_Gf (m_r M) (r_set (m_r M) j np)) (r_Cf (m_r M) (r_set (m_r M) j np)) (r_room M.1 (m_r M) np w j) np (r_bs (r_Gf (m_r M) (r_set (m_r M) j np)) (r_Cf (m_r M) (r_set (m_r M) j np)) (r_room M.1 (m_r M) np w j) np (r_set (m_r M) j np) i) (r_it (r_set (m_r M) j np) i) = ((r_it (r_set (m_r M) j np) i), r_ty (r_it (r_set (m_r M) j np) i) 24, (r_gs (r_Cf (m_r M) (r_set (m_r M) j np)) 0 (r_it (r_set (m_r M) j np) i) np)) := by rw [r_bst, if_pos ⟨c181, Or.inl q9⟩]
                     rw [e9] at hnx
                     exact q_drp 9 (q_drp 10 (q_drp 11 (q_drp 12 hnx))))
                  | (have q9 : r_ty (r_it (r_set (m_r M) j np) i) 24 < (r_bs (r_Gf (m_r M) (r_set (m_r M) j np)) (r_Cf (m_r M) (r_set (m_r M) j np)) (r_room M.1 (m_r M) np w j) np (r_set (m_r M) j np) i).2.1 := c194
                     have e9 : r_bst (r_Gf (m_r M) (r_set (m_r M) j np)) (r_Cf (m_r M) (r_set (m_r M) j np)) (r_room M.1 (m_r M) np w j) np (r_bs (r_Gf (m_r M) (r_set (m_r M) j np)) (r_Cf (m_r M) (r_set (m_r M) j np)) (r_room M.1 (m_r M) np w j) np (r_set (m_r M) j np) i) (r_it (r_set (m_r M) j np) i) = ((r_it (r_set (m_r M) j np) i), r_ty (r_it (r_set (m_r M) j np) i) 24, (r_gs (r_Cf (m_r M) (r_set (m_r M) j np)) 0 (r_it (r_set (m_r M) j np) i) np)) := by rw [r_bst, if_pos ⟨c181, Or.inr (Or.inl q9)⟩]
                     rw [e9] at hnx
                     exact q_drp 9 (q_drp 10 (q_drp 11 (q_drp 12 hnx))))
                  | (have q9 : ¬ (r_bs (r_Gf (m_r M) (r_set (m_r M) j np)) (r_Cf (m_r M) (r_set (m_r M) j np)) (r_room M.1 (m_r M) np w j) np (r_set (m_r M) j np) i).2.2 ≤ (r_gs (r_Cf (m_r M) (r_set (m_r M) j np)) 0 (r_it (r_set (m_r M) j np) i) np) := c208
                     have e9 : r_bst (r_Gf (m_r M) (r_set (m_r M) j np)) (r_Cf (m_r M) (r_set (m_r M) j np)) (r_room M.1 (m_r M) np w j) np (r_bs (r_Gf (m_r M) (r_set (m_r M) j np)) (r_Cf (m_r M) (r_set (m_r M) j np)) (r_room M.1 (m_r M) np w j) np (r_set (m_r M) j np) i) (r_it (r_set (m_r M) j np) i) = ((r_it (r_set (m_r M) j np) i), r_ty (r_it (r_set (m_r M) j np) i) 24, (r_gs (r_Cf (m_r M) (r_set (m_r M) j np)) 0 (r_it (r_set (m_r M) j np) i) np)) := by rw [r_bst, if_pos ⟨c181, Or.inr (Or.inr ⟨c201, Int32.not_le.mp q9⟩)⟩]
                     rw [e9] at hnx
                     exact q_drp 9 (q_drp 10 (q_drp 11 (q_drp 12 hnx))))
                  | (have q9 : (r_bs (r_Gf (m_r M) (r_set (m_r M) j np)) (r_Cf (m_r M) (r_set (m_r M) j np)) (r_room M.1 (m_r M) np w j) np (r_set (m_r M) j np) i).2.2 ≤ (r_gs (r_Cf (m_r M) (r_set (m_r M) j np)) 0 (r_it (r_set (m_r M) j np) i) np) := c208
                     have e9 : r_bst (r_Gf (m_r M) (r_set (m_r M) j np)) (r_Cf (m_r M) (r_set (m_r M) j np)) (r_room M.1 (m_r M) np w j) np (r_bs (r_Gf (m_r M) (r_set (m_r M) j np)) (r_Cf (m_r M) (r_set (m_r M) j np)) (r_room M.1 (m_r M) np w j) np (r_set (m_r M) j np) i) (r_it (r_set (m_r M) j np) i) = (r_bs (r_Gf (m_r M) (r_set (m_r M) j np)) (r_Cf (m_r M) (r_set (m_r M) j np)) (r_room M.1 (m_r M) np w j) np (r_set (m_r M) j np) i) := by rw [r_bst, if_neg (fun z => z.2.elim c187 (fun z => z.elim c194 (fun z => Int32.not_lt.mpr q9 z.2)))]
                     rw [e9] at hnx
                     exact q_drp 9 (q_drp 10 (q_drp 11 (q_drp 12 hnx))))
                  | (have q9 : ¬ r_ty (r_it (r_set (m_r M) j np) i) 24 = (r_bs (r_Gf (m_r M) (r_set (m_r M) j np)) (r_Cf (m_r M) (r_set (m_r M) j np)) (r_room M.1 (m_r M) np w j) np (r_set (m_r M) j np) i).2.1 := c201
                     have e9 : r_bst (r_Gf (m_r M) (r_set (m_r M) j np)) (r_Cf (m_r M) (r_set (m_r M) j np)) (r_room M.1 (m_r M) np w j) np (r_bs (r_Gf (m_r M) (r_set (m_r M) j np)) (r_Cf (m_r M) (r_set (m_r M) j np)) (r_room M.1 (m_r M) np w j) np (r_set (m_r M) j np) i) (r_it (r_set (m_r M) j np) i) = (r_bs (r_Gf (m_r M) (r_set (m_r M) j np)) (r_Cf (m_r M) (r_set (m_r M) j np)) (r_room M.1 (m_r M) np w j) np (r_set (m_r M) j np) i) := by rw [r_bst, if_neg (fun z => z.2.elim c187 (fun z => z.elim c194 (fun z => q9 z.1)))]
                     rw [e9] at hnx
                     exact q_drp 9 (q_drp 10 (q_drp 11 (q_drp 12 hnx))))
                  | (have q9 : (r_gs (r_Gf (m_r M) (r_set (m_r M) j np)) (r_room M.1 (m_r M) np w j) (r_it (r_set (m_r M) j np) i) np) < 0 := c181
                     have e9 : r_bst (r_Gf (m_r M) (r_set (m_r M) j np)) (r_Cf (m_r M) (r_set (m_r M) j np)) (r_room M.1 (m_r M) np w j) np (r_bs (r_Gf (m_r M) (r_set (m_r M) j np)) (r_Cf (m_r M) (r_set (m_r M) j np)) (r_room M.1 (m_r M) np w j) np (r_set (m_r M) j np) i) (r_it (r_set (m_r M) j np) i) = (r_bs (r_Gf (m_r M) (r_set (m_r M) j np)) (r_Cf (m_r M) (r_set (m_r M) j np)) (r_room M.1 (m_r M) np w j) np (r_set (m_r M) j np) i) := by rw [r_bst, if_neg (fun z => z.1 q9)]
                     rw [e9] at hnx
                     exact q_drp 9 (q_drp 10 (q_drp 11 (q_drp 12 hnx))))
              · refine wX9_bestReleases_204 ?_
                refine wX9_bestReleases_206 ?_
                refine wX9_bestReleases_208 (fun c208 => ?_) (fun c208 => ?_)
                · first
                    | (have q9 : (r_bs (r_Gf (m_r M) (r_set (m_r M) j np)) (r_Cf (m_r M) (r_set (m_r M) j np)) (r_room M.1 (m_r M) np w j) np (r_set (m_r M) j np) i).1 = -1 := c187
                       have e9 : r_bst (r_Gf (m_r M) (r_set (m_r M) j np)) (r_Cf (m_r M) (r_set (m_r M) j np)) (r_room M.1 (m_r M) np w j) np (r_bs (r_Gf (m_r M) (r_set (m_r M) j np)) (r_Cf (m_r M) (r_set (m_r M) j np)) (r_room M.1 (m_r M) np w j) np (r_set (m_r M) j np) i) (r_it (r_set (m_r M) j np) i) = ((r_it (r_set (m_r M) j np) i), r_ty (r_it (r_set (m_r M) j np) i) 24, (r_gs (r_Cf (m_r M) (r_set (m_r M) j np)) 0 (r_it (r_set (m_r M) j np) i) np)) := by rw [r_bst, if_pos ⟨c181, Or.inl q9⟩]
                       rw [e9] at hnx
                       exact q_drp 9 (q_drp 10 (q_drp 11 (q_drp 12 hnx))))
                    | (have q9 : r_ty (r_it (r_set (m_r M) j np) i) 24 < (r_bs (r_Gf (m_r M) (r_set (m_r M) j np)) (r_Cf (m_r M) (r_set (m_r M) j np)) (r_room M.1 (m_r M) np w j) np (r_set (m_r M) j np) i).2.1 := c194
                       have e9 : r_bst (r_Gf (m_r M) (r_set (m_r M) j np)) (r_Cf (m_r M) (r_set (m_r M) j np)) (r_room M.1 (m_r M) np w j) np (r_bs (r_Gf (m_r M) (r_set (m_r M) j np)) (r_Cf (m_r M) (r_set (m_r M) j np)) (r_room M.1 (m_r M) np w j) np (r_set (m_r M) j np) i) (r_it (r_set (m_r M) j np) i) = ((r_it (r_set (m_r M) j np) i), r_ty (r_it (r_set (m_r M) j np) i) 24, (r_gs (r_Cf (m_r M) (r_set (m_r M) j np)) 0 (r_it (r_set (m_r M) j np) i) np)) := by rw [r_bst, if_pos ⟨c181, Or.inr (Or.inl q9)⟩]
                       rw [e9] at hnx
                       exact q_drp 9 (q_drp 10 (q_drp 11 (q_drp 12 hnx))))
                    | (have q9 : ¬ (r_bs (r_Gf (m_r M) (r_set (m_r M) j np)) (r_Cf (m_r M) (r_set (m_r M) j np)) (r_room M.1 (m_r M) np w j) np (r_set (m_r M) j np) i).2.2 ≤ (r_gs (r_Cf (m_r M) (r_set (m_r M) j np)) 0 (r_it (r_set (m_r M) j np) i) np) := c208
                       have e9 : r_bst (r_Gf (m_r M) (r_set (m_r M) j np)) (r_Cf (m_r M) (r_set (m_r M) j np)) (r_room M.1 (m_r M) np w j) np (r_bs (r_Gf (m_r M) (r_set (m_r M) j np)) (r_Cf (m_r M) (r_set (m_r M) j np)) (r_room M.1 (m_r M) np w j) np (r_set (m_r M) j np) i) (r_it (r_set (m_r M) j np) i) = ((r_it (r_set (m_r M) j np) i), r_ty (r_it (r_set (m_r M) j np) i) 24, (r_gs (r_Cf (m_r M) (r_set (m_r M) j np)) 0 (r_it (r_set (m_r M) j np) i) np)) := by rw [r_bst, if_pos ⟨c181, Or.inr (Or.inr ⟨c201, Int32.not_le.mp q9⟩)⟩]
                       rw [e9] at hnx
                       exact q_drp 9 (q_drp 10 (q_drp 11 (q_drp 12 hnx))))
                    | (have q9 : (r_bs (r_Gf (m_r M) (r_set (m_r M) j np)) (r_Cf (m_r M) (r_set (m_r M) j np)) (r_room M.1 (m_r M) np w j) np (r_set (m_r M) j np) i).2.2 ≤ (r_gs (r_Cf (m_r M) (r_set (m_r M) j np)) 0 (r_it (r_set (m_r M) j np) i) np) := c208
                       have e9 : r_bst (r_Gf (m_r M) (r_set (m_r M) j np)) (r_Cf (m_r M) (r_set (m_r M) j np)) (r_room M.1 (m_r M) np w j) np (r_bs (r_Gf (m_r M) (r_set (m_r M) j np)) (r_Cf (m_r M) (r_set (m_r M) j np)) (r_room M.1 (m_r M) np w j) np (r_set (m_r M) j np) i) (r_it (r_set (m_r M) j np) i) = (r_bs (r_Gf (m_r M) (r_set (m_r M) j np)) (r_Cf (m_r M) (r_set (m_r M) j np)) (r_room M.1 (m_r M) np w j) np (r_set (m_r M) j np) i) := by rw [r_bst, if_neg (fun z => z.2.elim c187 (fun z => z.elim c194 (fun z => Int32.not_lt.mpr q9 z.2)))]
                       rw [e9] at hnx
                       exact q_drp 9 (q_drp 10 (q_drp 11 (q_drp 12 hnx))))
                    | (have q9 : ¬ r_ty (r_it (r_set (m_r M) j np) i) 24 = (r_bs (r_Gf (m_r M) (r_set (m_r M) j np)) (r_Cf (m_r M) (r_set (m_r M) j np)) (r_room M.1 (m_r M) np w j) np (r_set (m_r M) j np) i).2.1 := c201
                       have e9 : r_bst (r_Gf (m_r M) (r_set (m_r M) j np)) (r_Cf (m_r M) (r_set (m_r M) j np)) (r_room M.1 (m_r M) np w j) np (r_bs (r_Gf (m_r M) (r_set (m_r M) j np)) (r_Cf (m_r M) (r_set (m_r M) j np)) (r_room M.1 (m_r M) np w j) np (r_set (m_r M) j np) i) (r_it (r_set (m_r M) j np) i) = (r_bs (r_Gf (m_r M) (r_set (m_r M) j np)) (r_Cf (m_r M) (r_set (m_r M) j np)) (r_room M.1 (m_r M) np w j) np (r_set (m_r M) j np) i) := by rw [r_bst, if_neg (fun z => z.2.elim c187 (fun z => z.elim c194 (fun z => q9 z.1)))]
                       rw [e9] at hnx
                       exact q_drp 9 (q_drp 10 (q_drp 11 (q_drp 12 hnx))))
                    | (have q9 : (r_gs (r_Gf (m_r M) (r_set (m_r M) j np)) (r_room M.1 (m_r M) np w j) (r_it (r_set (m_r M) j np) i) np) < 0 := c181
                       have e9 : r_bst (r_Gf (m_r M) (r_set (m_r M) j np)) (r_Cf (m_r M) (r_set (m_r M) j np)) (r_room M.1 (m_r M) np w j) np (r_bs (r_Gf (m_r M) (r_set (m_r M) j np)) (r_Cf (m_r M) (r_set (m_r M) j np)) (r_room M.1 (m_r M) np w j) np (r_set (m_r M) j np) i) (r_it (r_set (m_r M) j np) i) = (r_bs (r_Gf (m_r M) (r_set (m_r M) j np)) (r_Cf (m_r M) (r_set (m_r M) j np)) (r_room M.1 (m_r M) np w j) np (r_set (m_r M) j np) i) := by rw [r_bst, if_neg (fun z => z.1 q9)]
                       rw [e9] at hnx
                       exact q_drp 9 (q_drp 10 (q_drp 11 (q_drp 12 hnx))))
                · refine wX9_bestReleases_211 ?_
                  refine wX9_bestReleases_213 ?_
                  refine wX9_bestReleases_215 ?_
                  refine wX9_bestReleases_217 ?_
                  refine wX9_bestReleases_219 ?_
                  refine wX9_bestReleases_221 ?_
                  first
                    | (have q9 : (r_bs (r_Gf (m_r M) (r_set (m_r M) j np)) (r_Cf (m_r M) (r_set (m_r M) j np)) (r_room M.1 (m_r M) np w j) np (r_set (m_r M) j np) i).1 = -1 := c187
                       have e9 : r_bst (r_Gf (m_r M) (r_set (m_r M) j np)) (r_Cf (m_r M) (r_set (m_r M) j np)) (r_room M.1 (m_r M) np w j) np (r_bs (r_Gf (m_r M) (r_set (m_r M) j np)) (r_Cf (m_r M) (r_set (m_r M) j np)) (r_room M.1 (m_r M) np w j) np (r_set (m_r M) j np) i) (r_it (r_set (m_r M) j np) i) = ((r_it (r_set (m_r M) j np) i), r_ty (r_it (r_set (m_r M) j np) i) 24, (r_gs (r_Cf (m_r M) (r_set (m_r M) j np)) 0 (r_it (r_set (m_r M) j np) i) np)) := by rw [r_bst, if_pos ⟨c181, Or.inl q9⟩]
                       rw [e9] at hnx
                       exact q_drp 9 (q_drp 10 (q_drp 11 (q_drp 12 hnx))))
                    | (have q9 : r_ty (r_it (r_set (m_r M) j np) i) 24 < (r_bs (r_Gf (m_r M) (r_set (m_r M) j np)) (r_Cf (m_r M) (r_set (m_r M) j np)) (r_room M.1 (m_r M) np w j) np (r_set (m_r M) j np) i).2.1 := c194
                       have e9 : r_bst (r_Gf (m_r M) (r_set (m_r M) j np)) (r_Cf (m_r M) (r_set (m_r M) j np)) (r_room M.1 (m_r M) np w j) np (r_bs (r_Gf (m_r M) (r_set (m_r M) j np)) (r_Cf (m_r M) (r_set (m_r M) j np)) (r_room M.1 (m_r M) np w j) np (r_set (m_r M) j np) i) (r_it (r_set (m_r M) j np) i) = ((r_it (r_set (m_r M) j np) i), r_ty (r_it (r_set (m_r M) j np) i) 24, (r_gs (r_Cf (m_r M) (r_set (m_r M) j np)) 0 (r_it (r_set (m_r M) j np) i) np)) := by rw [r_bst, if_pos ⟨c181, Or.inr (Or.inl q9)⟩]
                       rw [e9] at hnx
                       exact q_drp 9 (q_drp 10 (q_drp 11 (q_drp 12 hnx))))
                    | (have q9 : ¬ (r_bs (r_Gf (m_r M) (r_set (m_r M) j np)) (r_Cf (m_r M) (r_set (m_r M) j np)) (r_room M.1 (m_r M) np w j) np (r_set (m_r M) j np) i).2.2 ≤ (r_gs (r_Cf (m_r M) (r_set (m_r M) j np)) 0 (r_it (r_set (m_r M) j np) i) np) := c208
                       have e9 : r_bst (r_Gf (m_r M) (r_set (m_r M) j np)) (r_Cf (m_r M) (r_set (m_r M) j np)) (r_room M.1 (m_r M) np w j) np (r_bs (r_Gf (m_r M) (r_set (m_r M) j np)) (r_Cf (m_r M) (r_set (m_r M) j np)) (r_room M.1 (m_r M) np w j) np (r_set (m_r M) j np) i) (r_it (r_set (m_r M) j np) i) = ((r_it (r_set (m_r M) j np) i), r_ty (r_it (r_set (m_r M) j np) i) 24, (r_gs (r_Cf (m_r M) (r_set (m_r M) j np)) 0 (r_it (r_set (m_r M) j np) i) np)) := by rw [r_bst, if_pos ⟨c181, Or.inr (Or.inr ⟨c201, Int32.not_le.mp q9⟩)⟩]
                       rw [e9] at hnx
                       exact q_drp 9 (q_drp 10 (q_drp 11 (q_drp 12 hnx))))
                    | (have q9 : (r_bs (r_Gf (m_r M) (r_set (m_r M) j np)) (r_Cf (m_r M) (r_set (m_r M) j np)) (r_room M.1 (m_r M) np w j) np (r_set (m_r M) j np) i).2.2 ≤ (r_gs (r_Cf (m_r M) (r_set (m_r M) j np)) 0 (r_it (r_set (m_r M) j np) i) np) := c208
                       have e9 : r_bst (r_Gf (m_r M) (r_set (m_r M) j np)) (r_Cf (m_r M) (r_set (m_r M) j np)) (r_room M.1 (m_r M) np w j) np (r_bs (r_Gf (m_r M) (r_set (m_r M) j np)) (r_Cf (m_r M) (r_set (m_r M) j np)) (r_room M.1 (m_r M) np w j) np (r_set (m_r M) j np) i) (r_it (r_set (m_r M) j np) i) = (r_bs (r_Gf (m_r M) (r_set (m_r M) j np)) (r_Cf (m_r M) (r_set (m_r M) j np)) (r_room M.1 (m_r M) np w j) np (r_set (m_r M) j np) i) := by rw [r_bst, if_neg (fun z => z.2.elim c187 (fun z => z.elim c194 (fun z => Int32.not_lt.mpr q9 z.2)))]
                       rw [e9] at hnx
                       exact q_drp 9 (q_drp 10 (q_drp 11 (q_drp 12 hnx))))
                    | (have q9 : ¬ r_ty (r_it (r_set (m_r M) j np) i) 24 = (r_bs (r_Gf (m_r M) (r_set (m_r M) j np)) (r_Cf (m_r M) (r_set (m_r M) j np)) (r_room M.1 (m_r M) np w j) np (r_set (m_r M) j np) i).2.1 := c201
                       have e9 : r_bst (r_Gf (m_r M) (r_set (m_r M) j np)) (r_Cf (m_r M) (r_set (m_r M) j np)) (r_room M.1 (m_r M) np w j) np (r_bs (r_Gf (m_r M) (r_set (m_r M) j np)) (r_Cf (m_r M) (r_set (m_r M) j np)) (r_room M.1 (m_r M) np w j) np (r_set (m_r M) j np) i) (r_it (r_set (m_r M) j np) i) = (r_bs (r_Gf (m_r M) (r_set (m_r M) j np)) (r_Cf (m_r M) (r_set (m_r M) j np)) (r_room M.1 (m_r M) np w j) np (r_set (m_r M) j np) i) := by rw [r_bst, if_neg (fun z => z.2.elim c187 (fun z => z.elim c194 (fun z => q9 z.1)))]
                       rw [e9] at hnx
                       exact q_drp 9 (q_drp 10 (q_drp 11 (q_drp 12 hnx))))
                    | (have q9 : (r_gs (r_Gf (m_r M) (r_set (m_r M) j np)) (r_room M.1 (m_r M) np w j) (r_it (r_set (m_r M) j np) i) np) < 0 := c181
                       have e9 : r_bst (r_Gf (m_r M) (r_set (m_r M) j np)) (r_Cf (m_r M) (r_set (m_r M) j np)) (r_room M.1 (m_r M) np w j) np (r_bs (r_Gf (m_r M) (r_set (m_r M) j np)) (r_Cf (m_r M) (r_set (m_r M) j np)) (r_room M.1 (m_r M) np w j) np (r_set (m_r M) j np) i) (r_it (r_set (m_r M) j np) i) = (r_bs (r_Gf (m_r M) (r_set (m_r M) j np)) (r_Cf (m_r M) (r_set (m_r M) j np)) (r_room M.1 (m_r M) np w j) np (r_set (m_r M) j np) i) := by rw [r_bst, if_neg (fun z => z.1 q9)]
                       rw [e9] at hnx
                       exact q_drp 9 (q_drp 10 (q_drp 11 (q_drp 12 hnx))))
      · refine wX9_bestReleases_112 ?_
        refine wX9_bestReleases_114 ?_
        refine wX9_bestReleases_115 hM.c ?_
        refine wX9_bestReleases_118 (fun c118 => absurd c118 (nI_geq hnnp hkn (by omega))) (fun c118 => ?_)
        refine wX9_bestReleases_121 ?_
        refine wX9_bestReleases_123 ?_
        refine wX9_bestReleases_125 ?_
        refine wX9_bestReleases_127 (mX9_has ?_)
        refine wX9_bestReleases_130 (fun c130 => ?_) (fun c130 => ?_)
        · refine wX9_bestReleases_143 ?_
          refine wX9_bestReleases_144 ?_
          refine wX9_bestReleases_145 ?_
          refine wX9_bestReleases_147 ?_
          refine wX9_bestReleases_149 ?_
          refine wX9_bestReleases_151 ?_
          refine wX9_bestReleases_153 (mX9_has ?_)
          refine wX9_bestReleases_156 (fun c156 => ?_) (fun c156 => ?_)
          · refine wX9_bestReleases_169 ?_
            refine wX9_bestReleases_170 ?_
            refine wX9_bestReleases_171 ?_
            refine wX9_bestReleases_173 ?_
            refine wX9_bestReleases_176 ?_
            first
              | (have q9 := q_b1 c130; have q8 := q_b1 c156; refine q_ls ?_ ih2; rw [nI_1, r_gs_s, r_gs_s, if_pos q9, if_pos q9]; try rfl)
              | (have q9 := q_b0 c130; have q8 := q_b0 c156; refine q_ls ?_ ih2; rw [nI_1, r_gs_s, r_gs_s, if_neg (by rw [q9]; decide), if_neg (by rw [q9]; decide)]; try rfl)
              | exact absurd ((q_b1 c130).symm.trans (q_b0 c156)) (by decide)
              | exact absurd ((q_b0 c130).symm.trans (q_b1 c156)) (by decide)
          · refine wX9_bestReleases_159 ?_
            refine wX9_bestReleases_160 hM.c ?_
            refine wX9_bestReleases_163 ?_
            refine wX9_bestReleases_165 hM.a12 rfl (show k < 24 by omega) (by decide) ?_
            rw [show (mI3 M f g c).2.2 12 k = r_Cf (m_r M) (r_set (m_r M) j np) k from hc k hkn]
            refine wX9_bestReleases_166 ?_
            refine wX9_bestReleases_170 ?_
            refine wX9_bestReleases_171 ?_
            refine wX9_bestReleases_173 ?_
            refine wX9_bestReleases_176 ?_
            first
              | (have q9 := q_b1 c130; have q8 := q_b1 c156; refine q_ls ?_ ih2; rw [nI_1, r_gs_s, r_gs_s, if_pos q9, if_pos q9]; try rfl)
              | (have q9 := q_b0 c130; have q8 := q_b0 c156; refine q_ls ?_ ih2; rw [nI_1, r_gs_s, r_gs_s, if_neg (by rw [q9]; decide), if_neg (by rw [q9]; decide)]; try rfl)
              | exact absurd ((q_b1 c130).symm.trans (q_b0 c156)) (by decide)
              | exact absurd ((q_b0 c130).symm.trans (q_b1 c156)) (by decide)
        · refine wX9_bestReleases_133 ?_
          refine wX9_bestReleases_134 hM.c ?_
          refine wX9_bestReleases_137 ?_
          refine wX9_bestReleases_139 hM.a11 rfl (show k < 24 by omega) (by decide) ?_
          rw [show (mI3 M f g c).2.2 11 k = r_Gf (m_r M) (r_set (m_r M) j np) k from hg k hkn]
          refine wX9_bestReleases_140 ?_
          refine wX9_bestReleases_144 ?_
          refine wX9_bestReleases_145 ?_
          refine wX9_bestReleases_147 ?_
          refine wX9_bestReleases_149 ?_
          refine wX9_bestReleases_151 ?_
          refine wX9_bestReleases_153 (mX9_has ?_)
          refine wX9_bestReleases_156 (fun c156 => ?_) (fun c156 => ?_)
          · refine wX9_bestReleases_169 ?_
            refine wX9_bestReleases_170 ?_
            refine wX9_bestReleases_171 ?_
            refine wX9_bestReleases_173 ?_
            refine wX9_bestReleases_176 ?_
            first
              | (have q9 := q_b1 c130; have q8 := q_b1 c156; refine q_ls ?_ ih2; rw [nI_1, r_gs_s, r_gs_s, if_pos q9, if_pos q9]; try rfl)
              | (have q9 := q_b0 c130; have q8 := q_b0 c156; refine q_ls ?_ ih2; rw [nI_1, r_gs_s, r_gs_s, if_neg (by rw [q9]; decide), if_neg (by rw [q9]; decide)]; try rfl)
              | exact absurd ((q_b1 c130).symm.trans (q_b0 c156)) (by decide)
              | exact absurd ((q_b0 c130).symm.trans (q_b1 c156)) (by decide)
          · refine wX9_bestReleases_159 ?_
            refine wX9_bestReleases_160 hM.c ?_
            refine wX9_bestReleases_163 ?_
            refine wX9_bestReleases_165 hM.a12 rfl (show k < 24 by omega) (by decide) ?_
            rw [show (mI3 M f g c).2.2 12 k = r_Cf (m_r M) (r_set (m_r M) j np) k from hc k hkn]
            refine wX9_bestReleases_166 ?_
            refine wX9_bestReleases_170 ?_
            refine wX9_bestReleases_171 ?_
            refine wX9_bestReleases_173 ?_
            refine wX9_bestReleases_176 ?_
            first
              | (have q9 := q_b1 c130; have q8 := q_b1 c156; refine q_ls ?_ ih2; rw [nI_1, r_gs_s, r_gs_s, if_pos q9, if_pos q9]; try rfl)
              | (have q9 := q_b0 c130; have q8 := q_b0 c156; refine q_ls ?_ ih2; rw [nI_1, r_gs_s, r_gs_s, if_neg (by rw [q9]; decide), if_neg (by rw [q9]; decide)]; try rfl)
              | exact absurd ((q_b1 c130).symm.trans (q_b0 c156)) (by decide)
              | exact absurd ((q_b0 c130).symm.trans (q_b1 c156)) (by decide)
  refine eX9_bestReleases ?_
  refine wX9_bestReleases_0 ?_
  refine wX9_bestReleases_1 ?_
  refine wX9_bestReleases_2 hM.c (mX9_rosterOf hM hO ?_)
  refine wX9_bestReleases_5 ?_
  refine wX9_bestReleases_6 ?_
  refine wX9_bestReleases_7 ?_
  refine q_for (P := fun k => ∀ hh f g c, (∀ q, q < k → g q = r_Gf (m_r M) (r_set (m_r M) j np) q) → (∀ q, q < k → c q = r_Cf (m_r M) (r_set (m_r M) j np) q) → isM hh a (mI3 M f g c) → q_out a 13 h hh → QW V iX9_bestReleases 8 [some (.ref a), some (.int (nI j)), some (.int (r_set (m_r M) j np)), some (.int (nI k)), none, none, none, none, none, none, none, none, none] [] hh z 0 0 (q_Ki P) Kx) np ?_ ?_ _ _ _ _ (fun q hq => absurd hq (by omega)) (fun q hq => absurd hq (by omega)) (hM.e mI3_i.symm) ho
  · intro hh f g c hg hc hM ho
    have hO3 : okM (mI3 M f g c) w nt np nb := hO
    refine wX9_bestReleases_8 ?_
    refine wX9_bestReleases_9 ?_
    refine wX9_bestReleases_10 hM.c ?_
    refine wX9_bestReleases_13 (fun c13 => ?_) (fun c13 => absurd (nI_leq hnnp (Nat.le_refl _) (by omega)) c13)
    refine wX9_bestReleases_70 ?_
    refine wX9_bestReleases_71 ?_
    refine wX9_bestReleases_72 hM.c (mX9_roomOf hM hO3 hj ?_)
    refine wX9_bestReleases_75 ?_
    refine wX9_bestReleases_76 ?_
    refine wX9_bestReleases_77 ?_
    refine wX9_bestReleases_79 ?_
    refine wX9_bestReleases_80 ?_
    refine wX9_bestReleases_82 ?_
    refine wX9_bestReleases_83 ?_
    refine wX9_bestReleases_85 ?_
    refine wX9_bestReleases_86 ?_
    refine wX9_bestReleases_88 ?_
    refine wX9_bestReleases_89 ?_
    exact hj91 _ f g c hg hc hM ho
  · intro k hkn ih hh f g c hg hc hM ho
    have hk24 : k < 24 := by omega
    have hbit : q_bit (r_set (m_r M) j np) k = true → r_has (m_r M) k = true := fun hb => r_has_t hj (r_set_bit hnp (by omega) hb).2
    have hj63 : ∀ hh f g, (∀ q, q < k + 1 → g q = r_Gf (m_r M) (r_set (m_r M) j np) q) → isM hh a (mI3 M f g c) → q_out a 13 h hh → ∀ xv, xv = r_Cf (m_r M) (r_set (m_r M) j np) k → QW V iX9_bestReleases 63 [some (.ref a), some (.int (nI j)), some (.int (r_set (m_r M) j np)), some (.int (nI k)), none, none, none, none, none, none, none, none, none] [.int xv, .int (nI k), .ref (a + 12)] hh z 0 0 (q_Ki P) Kx := by
      intro hh f g hg hM ho xv hxv
      subst hxv
      refine wX9_bestReleases_63 hM.a12 rfl (show k < 24 by omega) (by decide) ?_
      refine q_nI (k := 12) (by decide) hM ho (fun h2 hM ho => ?_)
      refine wX9_bestReleases_64 ?_
      refine wX9_bestReleases_67 ?_
      refine q_ls ?_ (ih _ f g (upd c k (r_Cf (m_r M) (r_set (m_r M) j np) k)) hg (fun q hq => ?_) (hM.e mI3_12) ho)
      · rw [nI_1]
      · rw [upd_at]
        by_cases e : q = k
        · rw [if_pos e, e]
        · rw [if_neg e]; exact hc q (by omega)
    have hj39 : ∀ hh f, isM hh a (mI3 M f g c) → q_out a 13 h hh → ∀ xv, xv = r_Gf (m_r M) (r_set (m_r M) j np) k → QW V iX9_bestReleases 39 [some (.ref a), some (.int (nI j)), some (.int (r_set (m_r M) j np)), some (.int (nI k)), none, none, none, none, none, none, none, none, none] [.int xv, .int (nI k), .ref (a + 11)] hh z 0 0 (q_Ki P) Kx := by
      intro hh f hM ho xv hxv
      subst hxv
      refine wX9_bestReleases_39 hM.a11 rfl (show k < 24 by omega) (by decide) ?_
      refine q_nI (k := 11) (by decide) hM ho (fun h2 hM ho => ?_)
      have hM : isM h2 a (mI3 M f (upd g k (r_Gf (m_r M) (r_set (m_r M) j np) k)) c) := hM.e mI3_11
      have hg2 : ∀ q, q < k + 1 → upd g k (r_Gf (m_r M) (r_set (m_r M) j np) k) q = r_Gf (m_r M) (r_set (m_r M) j np) q := fun q hq => by
        rw [upd_at]
        by_cases e : q = k
        · rw [if_pos e, e]
        · rw [if_neg e]; exact hg q (by omega)
      refine wX9_bestReleases_40 ?_
      refine wX9_bestReleases_41 hM.c ?_
      refine wX9_bestReleases_44 ?_
      refine wX9_bestReleases_45 ?_
      refine wX9_bestReleases_46 ?_
      refine wX9_bestReleases_47 (mX9_has ?_)
      refine wX9_bestReleases_50 (fun c50 => ?_) (fun c50 => ?_)
      · refine wX9_bestReleases_62 ?_
        first
          | (have q9 := q_b1 c50; exact hj63 _ f2 _ hg2 (hM.e mI3_10) ho _ (by rw [r_Cf, if_pos q9]; try rfl))
          | (have q9 := q_b0 c50; exact hj63 _ f _ hg2 hM ho _ (by rw [r_Cf, if_neg (by rw [q9]; decide)]))
      · refine wX9_bestReleases_53 ?_
        refine wX9_bestReleases_54 ?_
        refine wX9_bestReleases_55 ?_
        refine wX9_bestReleases_56 hM.c (mX9_layDead hM hk24 (hP k hk24 (hbit (q_b1 c50))) (fun h2 f2 hf2 hM ho2 => ?_))
        have ho := ho.trans ho2
        refine wX9_bestReleases_59 ?_
        first
          | (have q9 := q_b1 c50; exact hj63 _ f2 _ hg2 (hM.e mI3_10) ho _ (by rw [r_Cf, if_pos q9]; try rfl))
          | (have q9 := q_b0 c50; exact hj63 _ f _ hg2 hM ho _ (by rw [r_Cf, if_neg (by rw [q9]; decide)]))
    refine wX9_bestReleases_8 ?_
    refine wX9_bestReleases_9 ?_
    refine wX9_bestReleases_10 hM.c ?_
    refine wX9_bestReleases_13 (fun c13 => absurd c13 (nI_geq hnnp hkn (by omega))) (fun c13 => ?_)
    refine wX9_bestReleases_16 ?_
    refine wX9_bestReleases_17 hM.c ?_
    refine wX9_bestReleases_20 ?_
    refine wX9_bestReleases_21 ?_
    refine wX9_bestReleases_22 ?_
    refine wX9_bestReleases_23 (mX9_has ?_)
    refine wX9_bestReleases_26 (fun c26 => ?_) (fun c26 => ?_)
    · refine wX9_bestReleases_38 ?_
      first
        | (have q9 := q_b1 c26; exact hj39 _ f2 (hM.e mI3_10) ho _ (by rw [r_Gf, if_pos q9]; try rfl))
        | (have q9 := q_b0 c26; exact hj39 _ f hM ho _ (by rw [r_Gf, if_neg (by rw [q9]; decide)]))
    · refine wX9_bestReleases_29 ?_
      refine wX9_bestReleases_30 ?_
      refine wX9_bestReleases_31 ?_
      refine wX9_bestReleases_32 hM.c (mX9_gainOf hM hk24 (hP k hk24) (hO.2.2.2.2.2 k hk24) (fun h2 f2 hM ho2 => ?_))
      have ho := ho.trans ho2
      refine wX9_bestReleases_35 ?_
      first
        | (have q9 := q_b1 c26; exact hj39 _ f2 (hM.e mI3_10) ho _ (by rw [r_Gf, if_pos q9]; try rfl))
        | (have q9 := q_b0 c26; exact hj39 _ f hM ho _ (by rw [r_Gf, if_neg (by rw [q9]; decide)]))
theorem mX9_fewestReleases {a : Nat} {M : q_Mo} {t : Int32}  {w nt np nb : Nat} {P : Int32 → q_H → Option Nat → Prop} (hM : isM h a M) (hO : ¬ M.1 3 = 0 → okM M w nt np nb) (hP : ¬ M.1 3 = 0 → ∀ i, i < 24 → r_has (m_r M) i = true → okP (m_r M) i) {N : Nat → Nat} (hT : ∀ j, j < 4 → 0 < N j ∧ (∀ i, 0 < i → i < N j → ¬ r_it (r_set (m_r M) j np) i = 0) ∧ r_it (r_set (m_r M) j np) (N j) = 0) (hw : M.1 3 = 0 ∨ (mgT M t) = false → ∀ h2, isM h2 a (mS M 4 (mo_th M (mgT M t))) → q_out a 13 h h2 → P 0 h2 z) (hk : ¬ M.1 3 = 0 → mgT M t = true → ∀ j, j < 4 → t = nI j → ∀ h2 f g c, isM h2 a (mI3 (mS M 4 0) f g c) → q_out a 13 h h2 → P (if (r_bs (r_Gf (m_r M) (r_set (m_r M) j np)) (r_Cf (m_r M) (r_set (m_r M) j np)) (r_room M.1 (m_r M) np w j) np (r_set (m_r M) j np) (N j)).1 = -1 then -2 else r_ty (r_bs (r_Gf (m_r M) (r_set (m_r M) j np)) (r_Cf (m_r M) (r_set (m_r M) j np)) (r_room M.1 (m_r M) np w j) np (r_set (m_r M) j np) (N j)).1 24) h2 z) : QMi V iX9_fewestReleases [.ref a, .int t] h z P Kx := by
  have ho : q_out a 13 h h := q_out.refl
  refine eX9_fewestReleases ?_
  refine wX9_fewestReleases_0 ?_
  refine wX9_fewestReleases_1 ?_
  refine wX9_fewestReleases_2 ?_
  refine wX9_fewestReleases_3 hM.c (mX9_isTeam hM ?_)
  refine wX9_fewestReleases_6 hM.c (mX9_isWrong (g := mgT M t) hM rfl (fun hc h2 hM ho2 => ?_) (fun hl hg h2 hM ho2 => ?_))
  · refine wX9_fewestReleases_9 (fun c9 => absurd c9 (by decide)) (fun c9 => ?_)
    refine wX9_fewestReleases_12 ?_
    refine wX9_fewestReleases_13  ?_
    exact hw hc _ hM ho2
  · have ho := ho.trans ho2
    have hO := hO hl
    have hP := hP hl
    have hg0 := hg
    obtain ⟨j, hj, rfl⟩ := mgT_of hO hg0
    have hO0 : okM (mS M 4 0) w nt np nb := okM_4 hO
    refine wX9_fewestReleases_9 (fun c9 => ?_) (fun c9 => absurd rfl c9)
    refine wX9_fewestReleases_14 ?_
    refine wX9_fewestReleases_15 ?_
    refine wX9_fewestReleases_16 hM.c (mX9_bestReleases hM hO0 hj hP (hT j hj).1 (hT j hj).2.1 (hT j hj).2.2 (fun h2 f g c hM ho2 => ?_))
    have ho := ho.trans ho2
    refine wX9_fewestReleases_19 ?_
    refine wX9_fewestReleases_20 ?_
    refine wX9_fewestReleases_21 ?_
    refine wX9_fewestReleases_22 (fun c22 => ?_) (fun c22 => ?_)
    · refine wX9_fewestReleases_30 ?_
      refine wX9_fewestReleases_31 (mX9_many ?_)
      refine wX9_fewestReleases_34  ?_
      first
        | (have q9 : (r_bs (r_Gf (m_r M) (r_set (m_r M) j np)) (r_Cf (m_r M) (r_set (m_r M) j np)) (r_room M.1 (m_r M) np w j) np (r_set (m_r M) j np) (N j)).1 = -1 := c22; exact q_cv (by rw [if_pos q9]) (hk hl hg j hj rfl _ f g c hM ho))
        | (have q9 : ¬ (r_bs (r_Gf (m_r M) (r_set (m_r M) j np)) (r_Cf (m_r M) (r_set (m_r M) j np)) (r_room M.1 (m_r M) np w j) np (r_set (m_r M) j np) (N j)).1 = -1 := c22; exact q_cv (by rw [if_neg q9]; try rfl) (hk hl hg j hj rfl _ f g c hM ho))
    · refine wX9_fewestReleases_25 ?_
      refine wX9_fewestReleases_27 ?_
      refine wX9_fewestReleases_34  ?_
      first
        | (have q9 : (r_bs (r_Gf (m_r M) (r_set (m_r M) j np)) (r_Cf (m_r M) (r_set (m_r M) j np)) (r_room M.1 (m_r M) np w j) np (r_set (m_r M) j np) (N j)).1 = -1 := c22; exact q_cv (by rw [if_pos q9]) (hk hl hg j hj rfl _ f g c hM ho))
        | (have q9 : ¬ (r_bs (r_Gf (m_r M) (r_set (m_r M) j np)) (r_Cf (m_r M) (r_set (m_r M) j np)) (r_room M.1 (m_r M) np w j) np (r_set (m_r M) j np) (N j)).1 = -1 := c22; exact q_cv (by rw [if_neg q9]; try rfl) (hk hl hg j hj rfl _ f g c hM ho))
theorem mX9_releaseSet {a : Nat} {M : q_Mo} {t : Int32}  {w nt np nb : Nat} {P : Int32 → q_H → Option Nat → Prop} (hM : isM h a M) (hO : ¬ M.1 3 = 0 → okM M w nt np nb) (hP : ¬ M.1 3 = 0 → ∀ i, i < 24 → r_has (m_r M) i = true → okP (m_r M) i) {N : Nat → Nat} (hT : ∀ j, j < 4 → 0 < N j ∧ (∀ i, 0 < i → i < N j → ¬ r_it (r_set (m_r M) j np) i = 0) ∧ r_it (r_set (m_r M) j np) (N j) = 0) (hw : M.1 3 = 0 ∨ (mgT M t) = false → ∀ h2, isM h2 a (mS M 4 (mo_th M (mgT M t))) → q_out a 13 h h2 → P 0 h2 z) (hk : ¬ M.1 3 = 0 → mgT M t = true → ∀ j, j < 4 → t = nI j → ∀ h2 f g c, isM h2 a (mI3 (mS M 4 0) f g c) → q_out a 13 h h2 → P (if (r_bs (r_Gf (m_r M) (r_set (m_r M) j np)) (r_Cf (m_r M) (r_set (m_r M) j np)) (r_room M.1 (m_r M) np w j) np (r_set (m_r M) j np) (N j)).1 = -1 then -2 else (r_bs (r_Gf (m_r M) (r_set (m_r M) j np)) (r_Cf (m_r M) (r_set (m_r M) j np)) (r_room M.1 (m_r M) np w j) np (r_set (m_r M) j np) (N j)).1) h2 z) : QMi V iX9_releaseSet [.ref a, .int t] h z P Kx := by
  have ho : q_out a 13 h h := q_out.refl
  refine eX9_releaseSet ?_
  refine wX9_releaseSet_0 ?_
  refine wX9_releaseSet_1 ?_
  refine wX9_releaseSet_2 ?_
  refine wX9_releaseSet_3 hM.c (mX9_isTeam hM ?_)
  refine wX9_releaseSet_6 hM.c (mX9_isWrong (g := mgT M t) hM rfl (fun hc h2 hM ho2 => ?_) (fun hl hg h2 hM ho2 => ?_))
  · refine wX9_releaseSet_9 (fun c9 => absurd c9 (by decide)) (fun c9 => ?_)
    refine wX9_releaseSet_12 ?_
    refine wX9_releaseSet_13  ?_
    exact hw hc _ hM ho2
  · have ho := ho.trans ho2
    have hO := hO hl
    have hP := hP hl
    have hg0 := hg
    obtain ⟨j, hj, rfl⟩ := mgT_of hO hg0
    have hO0 : okM (mS M 4 0) w nt np nb := okM_4 hO
    refine wX9_releaseSet_9 (fun c9 => ?_) (fun c9 => absurd rfl c9)
    refine wX9_releaseSet_14 ?_
    refine wX9_releaseSet_15 ?_
    refine wX9_releaseSet_16 hM.c (mX9_bestReleases hM hO0 hj hP (hT j hj).1 (hT j hj).2.1 (hT j hj).2.2 (fun h2 f g c hM ho2 => ?_))
    have ho := ho.trans ho2
    refine wX9_releaseSet_19 ?_
    refine wX9_releaseSet_20 ?_
    refine wX9_releaseSet_21 ?_
    refine wX9_releaseSet_22 (fun c22 => ?_) (fun c22 => ?_)
    · refine wX9_releaseSet_30 ?_
      refine wX9_releaseSet_31  ?_
      first
        | (have q9 : (r_bs (r_Gf (m_r M) (r_set (m_r M) j np)) (r_Cf (m_r M) (r_set (m_r M) j np)) (r_room M.1 (m_r M) np w j) np (r_set (m_r M) j np) (N j)).1 = -1 := c22; exact q_cv (by rw [if_pos q9]) (hk hl hg j hj rfl _ f g c hM ho))
        | (have q9 : ¬ (r_bs (r_Gf (m_r M) (r_set (m_r M) j np)) (r_Cf (m_r M) (r_set (m_r M) j np)) (r_room M.1 (m_r M) np w j) np (r_set (m_r M) j np) (N j)).1 = -1 := c22; exact q_cv (by rw [if_neg q9]; try rfl) (hk hl hg j hj rfl _ f g c hM ho))
    · refine wX9_releaseSet_25 ?_
      refine wX9_releaseSet_27 ?_
      refine wX9_releaseSet_31  ?_
      first
        | (have q9 : (r_bs (r_Gf (m_r M) (r_set (m_r M) j np)) (r_Cf (m_r M) (r_set (m_r M) j np)) (r_room M.1 (m_r M) np w j) np (r_set (m_r M) j np) (N j)).1 = -1 := c22; exact q_cv (by rw [if_pos q9]) (hk hl hg j hj rfl _ f g c hM ho))
        | (have q9 : ¬ (r_bs (r_Gf (m_r M) (r_set (m_r M) j np)) (r_Cf (m_r M) (r_set (m_r M) j np)) (r_room M.1 (m_r M) np w j) np (r_set (m_r M) j np) (N j)).1 = -1 := c22; exact q_cv (by rw [if_neg q9]; try rfl) (hk hl hg j hj rfl _ f g c hM ho))
theorem rp_hi {r : Nat → Int64} {p w q : Nat} {v : Int32} (hp : p < 24) (hw : w < 10) (hq : 386 ≤ q) : rp r p w v q = r q := by unfold rp vp_updL; rw [if_neg (by omega)]
theorem ra_hi {r : Nat → Int64} {t w q : Nat} {x : Int64} (ht : t < 4) (hw : w < 35) (hq : 386 ≤ q) : ra r t w x q = r q := by unfold ra vp_updL; rw [if_neg (by omega)]
theorem r_mv_hi {r : Nat → Int64} {w f t q : Nat} {s : Int32} (hf : f < 4) (hw : w ≤ 15) (hq : 386 ≤ q) (k : Nat) (hk : k ≤ 24) : r_mv r w s f t k q = r q := by
  induction k with
  | zero => rfl
  | succ k ih =>
    rw [r_mv]
    split
    · unfold r_mvp
      rw [rp_hi (by omega) (by decide) hq, rp_hi (by omega) (by decide) hq, rp_hi (by omega) (by decide) hq, ra_hi hf (by omega) hq, ih (by omega)]
    · exact ih (by omega)
theorem r_trr_hi {r : Nat → Int64} {w np t u q : Nat} {s v : Int32} (ht : t < 4) (hu : u < 4) (hw : w ≤ 15) (hn : np ≤ 24) (hq : 386 ≤ q) : r_trr r w np t s u v q = r q := by
  unfold r_trr
  split
  · unfold r_tr2; rw [r_mv_hi hu hw hq np hn, r_mv_hi ht hw hq np hn]
  · rfl
/-- the row laid aside and taken back is the row -/
theorem r_cp_b {r r' A0 : Nat → Int64} (h : ∀ q, 386 ≤ q → r' q = r q) : r_cp (r_cp r A0 386) r' 386 = r := funext fun q => by
  unfold r_cp
  by_cases e : q < 386
  · rw [if_pos e, if_pos e]
  · rw [if_neg e]; exact h q (by omega)
theorem r_tre_0 {r : Nat → Int64} {np t u : Nat} {s v : Int32} (e : r_tre r np t s u v = 0) : s &&& (r_set r t np ^^^ -1) = 0 ∧ v &&& (r_set r u np ^^^ -1) = 0 := by
  unfold r_tre at e
  split at e
  · exact absurd e (by decide)
  · split at e
    · exact absurd e (by decide)
    · rename_i q
      exact ⟨Classical.byContradiction fun z => q (Or.inl z), Classical.byContradiction fun z => q (Or.inr z)⟩
theorem okM_trr {M : q_Mo} {r : Nat → Int64} {w nt np nb t u : Nat} {s v : Int32} (hO : okM (mLr M 1 r) w nt np nb) (ht : t < 4) (hu : u < 4) : okM (mLr M 1 (r_trr r w np t s u v)) w nt np nb := by
  unfold r_trr
  split
  · rename_i e
    have hnp := hO.2.2.1.1
    obtain ⟨hs, hv⟩ := r_tre_0 e
    have hs5 : ∀ p, p < 24 → q_bit s p = true → ¬ r_op r p 5 = 0 := fun p hp hb => hO.2.2.2.2.2 p hp (r_has_t ht (q_sub_r hnp hs (by omega) hb).2)
    have hv5 : ∀ p, p < 24 → q_bit v p = true → ¬ r_op (r_mv r w s t u np) p 5 = 0 := fun p hp hb => by
      rw [r_mv_5 hp]; exact hO.2.2.2.2.2 p hp (r_has_t hu (q_sub_r hnp hv (by omega) hb).2)
    exact okM_mv (okM_mv hO hs5) hv5
  · exact hO
theorem mX9_tradeCode {a : Nat} {M : q_Mo} {t : Int32} {s : Int32} {u : Int32} {v : Int32}  {w nt np nb : Nat} {P : Int32 → q_H → Option Nat → Prop} (hM : isM h a M) (hO : ¬ M.1 3 = 0 → okM M w nt np nb)  (hw : M.1 3 = 0 ∨ (mgTr M t s u v) = false → ∀ h2, isM h2 a (mS M 4 (mo_th M (mgTr M t s u v))) → q_out a 13 h h2 → P 0 h2 z) (hk : ¬ M.1 3 = 0 → mgTr M t s u v = true → ∀ j k, j < 4 → k < 4 → t = nI j → u = nI k → ∀ h2 A9, isM h2 a (mLr (mS M 4 0) 9 A9) → q_out a 13 h h2 → P (r_trc M.1 (m_r M) w np j s k v) h2 z) : QMi V iX9_tradeCode [.ref a, .int t, .int s, .int u, .int v] h z P Kx := by
  have ho : q_out a 13 h h := q_out.refl
  refine eX9_tradeCode ?_
  refine wX9_tradeCode_0 ?_
  refine wX9_tradeCode_1 ?_
  refine wX9_tradeCode_2 ?_
  refine wX9_tradeCode_3 ?_
  refine wX9_tradeCode_4 ?_
  refine wX9_tradeCode_5 ?_
  refine wX9_tradeCode_7 hM.c (mX9_isTrade hM ?_)
  refine wX9_tradeCode_10 hM.c (mX9_isWrong (g := mgTr M t s u v) hM rfl (fun hc h2 hM ho2 => ?_) (fun hl hg h2 hM ho2 => ?_))
  · refine wX9_tradeCode_13 (fun c13 => absurd c13 (by decide)) (fun c13 => ?_)
    refine wX9_tradeCode_16 ?_
    refine wX9_tradeCode_17  ?_
    exact hw hc _ hM ho2
  · have ho := ho.trans ho2
    have hO := hO hl
    have hO0 : okM (mS M 4 0) w nt np nb := okM_4 hO
    have hg0 := hg
    simp only [mgTr, Bool.and_eq_true] at hg0
    obtain ⟨j, hj, rfl⟩ := mgT_of hO hg0.1
    obtain ⟨k, hk4, rfl⟩ := mgT_of hO hg0.2.1
    have hnp := hO.2.2.1.1
    have hw15 := hO.1.1
    refine wX9_tradeCode_13 (fun c13 => ?_) (fun c13 => absurd rfl c13)
    refine wX9_tradeCode_18 ?_
    refine wX9_tradeCode_19 hM.c (mX9_putAside hM (fun h2 hM ho2 => ?_))
    have ho := ho.trans ho2
    have hM : isM h2 a (mLr (mLr (mS M 4 0) 9 (r_cp (m_r M) (M.2.1 9) 386)) 1 (m_r M)) := hM.e mLr_i.symm
    have hO1 : okM (mLr (mLr (mS M 4 0) 9 (r_cp (m_r M) (M.2.1 9) 386)) 1 (m_r M)) w nt np nb := okM_i (okM_9 (okM_4 hO)) rfl
    refine wX9_tradeCode_22 ?_
    refine wX9_tradeCode_23 ?_
    refine wX9_tradeCode_24 ?_
    refine wX9_tradeCode_25 ?_
    refine wX9_tradeCode_26 ?_
    refine wX9_tradeCode_28 hM.c (mX9_trades hM hO1 hj hk4 (fun h2 hM ho2 => ?_))
    have ho := ho.trans ho2
    refine wX9_tradeCode_31 ?_
    refine wX9_tradeCode_33 ?_
    refine wX9_tradeCode_34 hM.c (mX9_takeBack hM (fun h2 hM ho2 => ?_))
    have ho := ho.trans ho2
    have hM : isM h2 a (mLr (mS M 4 0) 9 (r_cp (m_r M) (M.2.1 9) 386)) := hM.e (mLr_2.trans ((congrArg (mLr (mLr (mS M 4 0) 9 (r_cp (m_r M) (M.2.1 9) 386)) 1) (r_cp_b (fun q hq => r_trr_hi hj hk4 hw15 hnp hq))).trans mLr_i))
    refine wX9_tradeCode_37 ?_
    refine wX9_tradeCode_39  ?_
    exact hk hl hg j k hj hk4 rfl rfl _ _ hM ho
theorem mX9_trade {a : Nat} {M : q_Mo} {t : Int32} {s : Int32} {u : Int32} {v : Int32} {n : Nat} {w nt np nb : Nat} {P : Int32 → q_H → Option Nat → Prop} (hM : isM h a M) (hO : ¬ M.1 3 = 0 → okM M w nt np nb) (hn : M.1 2 = nI n) (hn10 : n ≤ 10) (hw : M.1 3 = 0 ∨ (mgTr M t s u v) = false → ∀ h2, isM h2 a (mS M 4 (mo_th M (mgTr M t s u v))) → q_out a 13 h h2 → P 0 h2 z) (hk1 : ¬ M.1 3 = 0 → mgTr M t s u v = true → ∀ j k, j < 4 → k < 4 → t = nI j → u = nI k → r_trc M.1 (m_r M) w np j s k v < 0 → ∀ h2 A9, isM h2 a (mLr (mS M 4 0) 9 A9) → q_out a 13 h h2 → P (r_trc M.1 (m_r M) w np j s k v) h2 z) (hk2 : ¬ M.1 3 = 0 → mgTr M t s u v = true → ∀ j k, j < 4 → k < 4 → t = nI j → u = nI k → ¬ r_trc M.1 (m_r M) w np j s k v < 0 → ∀ h2 A9, isM h2 a (mLr (mo_rem (mLr (mS M 4 0) 9 A9) n) 1 (r_trr (m_r M) w np j s k v)) → q_out a 13 h h2 → P (r_ch (r_trr (m_r M) w np j s k v) np w j 0 + r_ch (r_trr (m_r M) w np j s k v) np w k 0) h2 z) : QMi V iX9_trade [.ref a, .int t, .int s, .int u, .int v] h z P Kx := by
  have ho : q_out a 13 h h := q_out.refl
  refine eX9_trade ?_
  refine wX9_trade_0 ?_
  refine wX9_trade_1 ?_
  refine wX9_trade_2 ?_
  refine wX9_trade_3 ?_
  refine wX9_trade_4 ?_
  refine wX9_trade_5 ?_
  refine wX9_trade_7 hM.c (mX9_isTrade hM ?_)
  refine wX9_trade_10 hM.c (mX9_isWrong (g := mgTr M t s u v) hM rfl (fun hc h2 hM ho2 => ?_) (fun hl hg h2 hM ho2 => ?_))
  · refine wX9_trade_13 (fun c13 => absurd c13 (by decide)) (fun c13 => ?_)
    refine wX9_trade_16 ?_
    refine wX9_trade_17  ?_
    exact hw hc _ hM ho2
  · have ho := ho.trans ho2
    have hO := hO hl
    have hO0 : okM (mS M 4 0) w nt np nb := okM_4 hO
    have hg0 := hg
    simp only [mgTr, Bool.and_eq_true] at hg0
    obtain ⟨j, hj, rfl⟩ := mgT_of hO hg0.1
    obtain ⟨k, hk4, rfl⟩ := mgT_of hO hg0.2.1
    have hnp := hO.2.2.1.1
    have hw15 := hO.1.1
    refine wX9_trade_13 (fun c13 => ?_) (fun c13 => absurd rfl c13)
    refine wX9_trade_18 ?_
    refine wX9_trade_19 hM.c (mX9_putAside hM (fun h2 hM ho2 => ?_))
    have ho := ho.trans ho2
    have hM : isM h2 a (mLr (mLr (mS M 4 0) 9 (r_cp (m_r M) (M.2.1 9) 386)) 1 (m_r M)) := hM.e mLr_i.symm
    have hO1 : okM (mLr (mLr (mS M 4 0) 9 (r_cp (m_r M) (M.2.1 9) 386)) 1 (m_r M)) w nt np nb := okM_i (okM_9 (okM_4 hO)) rfl
    refine wX9_trade_22 ?_
    refine wX9_trade_23 ?_
    refine wX9_trade_24 ?_
    refine wX9_trade_25 ?_
    refine wX9_trade_26 ?_
    refine wX9_trade_28 hM.c (mX9_trades hM hO1 hj hk4 (fun h2 hM ho2 => ?_))
    have ho := ho.trans ho2
    refine wX9_trade_31 ?_
    refine wX9_trade_33 ?_
    refine wX9_trade_34 hM.c (mX9_takeBack hM (fun h2 hM ho2 => ?_))
    have ho := ho.trans ho2
    have hM : isM h2 a (mLr (mS M 4 0) 9 (r_cp (m_r M) (M.2.1 9) 386)) := hM.e (mLr_2.trans ((congrArg (mLr (mLr (mS M 4 0) 9 (r_cp (m_r M) (M.2.1 9) 386)) 1) (r_cp_b (fun q hq => r_trr_hi hj hk4 hw15 hnp hq))).trans mLr_i))
    refine wX9_trade_37 ?_
    refine wX9_trade_39 (fun c39 => ?_) (fun c39 => ?_)
    · refine wX9_trade_45 ?_
      refine wX9_trade_46 hM.c (mX9_remember hM hn hn10 (fun h2 hM ho2 => ?_))
      have ho := ho.trans ho2
      have hM : isM h2 a (mLr (mo_rem (mLr (mS M 4 0) 9 (r_cp (m_r M) (M.2.1 9) 386)) n) 1 (m_r M)) := hM.rr mo_rem_r
      have hO2 : okM (mLr (mo_rem (mLr (mS M 4 0) 9 (r_cp (m_r M) (M.2.1 9) 386)) n) 1 (m_r M)) w nt np nb := okM_i (okM_rem (okM_9 (okM_4 hO))) mo_rem_r.symm
      have hO3 := okM_trr (s := s) (v := v) hO2 hj hk4
      refine wX9_trade_49 ?_
      refine wX9_trade_50 ?_
      refine wX9_trade_51 ?_
      refine wX9_trade_52 ?_
      refine wX9_trade_53 ?_
      refine wX9_trade_55 hM.c (mX9_trades hM hO2 hj hk4 (fun h2 hM ho2 => ?_))
      have ho := ho.trans ho2
      refine wX9_trade_58 ?_
      refine wX9_trade_60 ?_
      refine wX9_trade_61 ?_
      refine wX9_trade_62 ?_
      refine wX9_trade_63 hM.c (mX9_chargeOf (x := 0) hM hO3 hj (by decide) ?_)
      refine wX9_trade_66 ?_
      refine wX9_trade_67 ?_
      refine wX9_trade_68 ?_
      refine wX9_trade_69 hM.c (mX9_chargeOf (x := 0) hM hO3 hk4 (by decide) ?_)
      refine wX9_trade_72 ?_
      refine wX9_trade_73  ?_
      exact hk2 hl hg j k hj hk4 rfl rfl (Int32.not_lt.mpr c39) _ _ hM ho
    · refine wX9_trade_42 ?_
      refine wX9_trade_44  ?_
      exact hk1 hl hg j k hj hk4 rfl rfl (Int32.not_le.mp c39) _ _ hM ho
abbrev mSw (M : q_Mo) (A9 : Nat → Int64) (S B : Int32) : q_Mo := mLr (upd (upd M.1 33 S) 34 B, M.2) 9 A9
theorem mSw_33 {M : q_Mo} {A9 : Nat → Int64} {S B x : Int32} : mS (mSw M A9 S B) 33 x = mSw M A9 x B := congrArg (fun q => (q, (mSw M A9 S B).2)) (funext fun q => by
  show upd (upd (upd M.1 33 S) 34 B) 33 x q = upd (upd M.1 33 x) 34 B q
  unfold upd
  by_cases e : q = 33
  · simp [e]
  · by_cases e2 : q = 34 <;> simp [e, e2])
theorem mSw_34 {M : q_Mo} {A9 : Nat → Int64} {S B x : Int32} : mS (mSw M A9 S B) 34 x = mSw M A9 S x := congrArg (fun q => (q, (mSw M A9 S B).2)) upd_2
/-- one swap tried; all swaps of one player; all swaps -/
def r_swt (M : q_Mo) (nb np w t u p q : Nat) : Int64 := r_tax (mLr M 1 (r_trr (m_r M) w np t ((1 : Int32) <<< (nI p &&& 31)) u ((1 : Int32) <<< (nI q &&& 31)))) nb np w t + r_tax (mLr M 1 (r_trr (m_r M) w np t ((1 : Int32) <<< (nI p &&& 31)) u ((1 : Int32) <<< (nI q &&& 31)))) nb np w u
def r_sw1 (M : q_Mo) (nb np w t u p q : Nat) (B : Int32 × Int32 × Int64) : Int32 × Int32 × Int64 :=
  if q_bit (r_set (m_r M) t np) p = true ∧ q_bit (r_set (m_r M) u np) q = true then
    (if r_trc M.1 (m_r M) w np t ((1 : Int32) <<< (nI p &&& 31)) u ((1 : Int32) <<< (nI q &&& 31)) = 0 then
      (if B.1 = 0 ∨ r_swt M nb np w t u p q < B.2.2 then (B.1 + 1, 32 * nI p + nI q, r_swt M nb np w t u p q) else (B.1 + 1, B.2)) else (B.1 + 0, B.2)) else B
def r_sw2 (M : q_Mo) (nb np w t u p : Nat) (B : Int32 × Int32 × Int64) : Nat → Int32 × Int32 × Int64
  | 0 => B
  | q + 1 => r_sw1 M nb np w t u p q (r_sw2 M nb np w t u p B q)
def r_sw (M : q_Mo) (nb np w t u : Nat) : Nat → Int32 × Int32 × Int64
  | 0 => (0, -2, 0)
  | p + 1 => r_sw2 M nb np w t u p (r_sw M nb np w t u p) np
theorem mSw_34r {M : q_Mo} {A9 r : Nat → Int64} {S B x : Int32} : mS (mLr (mSw M A9 S B) 1 r) 34 x = mLr (mSw M A9 S x) 1 r := congrArg (fun q => (q, (mLr (mSw M A9 S B) 1 r).2)) upd_2
theorem mSw_33r {M : q_Mo} {A9 r : Nat → Int64} {S B x : Int32} : mS (mLr (mSw M A9 S B) 1 r) 33 x = mLr (mSw M A9 x B) 1 r := congrArg (fun q => (q, (mLr (mSw M A9 S B) 1 r).2)) (funext fun q => by
  show upd (upd (upd M.1 33 S) 34 B) 33 x q = upd (upd M.1 33 x) 34 B q
  unfold upd
  by_cases e : q = 33
  · simp [e]
  · by_cases e2 : q = 34 <;> simp [e, e2])
theorem mX9_trySwaps {a : Nat} {M : q_Mo} {j k : Nat} {w nt np nb : Nat} {P : q_H → Option Nat → Prop} (hM : isM h a M) (hO : okM M w nt np nb) (hj : j < 4) (hk4 : k < 4) (hk : ∀ h2 A9, isM h2 a (mSw M A9 (r_sw M nb np w j k np).1 (r_sw M nb np w j k np).2.1) → q_out a 13 h h2 → P h2 z) : QMv V iX9_trySwaps [.ref a, .int (nI j), .int (nI k)] h z P Kx := by
  have ho : q_out a 13 h h := q_out.refl
  have hnp := hO.2.2.1.1
  have hnnp := hO.2.2.1.2
  have hw15 := hO.1.1
  refine eX9_trySwaps ?_
  refine wX9_trySwaps_0 ?_
  refine wX9_trySwaps_1 ?_
  refine wX9_trySwaps_2 hM.c ?_
  refine q_sx (k := 33) hM ho (fun h2 hM ho => ?_)
  refine wX9_trySwaps_5 ?_
  refine wX9_trySwaps_6 ?_
  refine wX9_trySwaps_8 hM.c ?_
  refine q_sx (k := 34) hM ho (fun h2 hM ho => ?_)
  have hOa : okM (mS (mS M 33 0) 34 (-2)) w nt np nb := hO
  refine wX9_trySwaps_11 ?_
  refine wX9_trySwaps_12 ?_
  refine wX9_trySwaps_13 ?_
  refine wX9_trySwaps_14 ?_
  refine wX9_trySwaps_15 hM.c (mX9_rosterOf hM hOa ?_)
  refine wX9_trySwaps_18 ?_
  refine wX9_trySwaps_20 ?_
  refine wX9_trySwaps_21 ?_
  refine wX9_trySwaps_22 hM.c (mX9_rosterOf hM hOa ?_)
  refine wX9_trySwaps_25 ?_
  refine wX9_trySwaps_27 ?_
  refine wX9_trySwaps_28 hM.c (mX9_putAside hM (fun h2 hM ho2 => ?_))
  have ho := ho.trans ho2
  refine wX9_trySwaps_31 ?_
  refine wX9_trySwaps_32 ?_
  refine q_for (P := fun p => ∀ hh, isM hh a (mSw M (r_cp (m_r M) (M.2.1 9) 386) (r_sw M nb np w j k p).1 (r_sw M nb np w j k p).2.1) → q_out a 13 h hh → QW V iX9_trySwaps 34 [some (.ref a), some (.int (nI j)), some (.int (nI k)), some (.long (r_sw M nb np w j k p).2.2), none, some (.int (r_set (m_r M) j np)), some (.int (r_set (m_r M) k np)), some (.int (nI p)), none, none, none, none] [] hh z 0 0 (q_Kv P) Kx) np ?_ ?_ _ hM ho
  · intro hh hM ho
    refine wX9_trySwaps_34 ?_
    refine wX9_trySwaps_36 ?_
    refine wX9_trySwaps_37 hM.c ?_
    refine wX9_trySwaps_40 (fun c40 => ?_) (fun c40 => absurd (nI_leq hnnp (Nat.le_refl _) (by omega)) c40)
    refine wX9_trySwaps_173  ?_
    exact hk _ _ hM ho
  · intro p hpn ih hh hM ho
    have hp24 : p < 24 := by omega
    refine wX9_trySwaps_34 ?_
    refine wX9_trySwaps_36 ?_
    refine wX9_trySwaps_37 hM.c ?_
    refine wX9_trySwaps_40 (fun c40 => absurd c40 (nI_geq hnnp hpn (by omega))) (fun c40 => ?_)
    refine wX9_trySwaps_43 ?_
    refine wX9_trySwaps_44 ?_
    refine q_for (P := fun q => ∀ hh, isM hh a (mSw M (r_cp (m_r M) (M.2.1 9) 386) (r_sw2 M nb np w j k p (r_sw M nb np w j k p) q).1 (r_sw2 M nb np w j k p (r_sw M nb np w j k p) q).2.1) → q_out a 13 h hh → QW V iX9_trySwaps 46 [some (.ref a), some (.int (nI j)), some (.int (nI k)), some (.long (r_sw2 M nb np w j k p (r_sw M nb np w j k p) q).2.2), none, some (.int (r_set (m_r M) j np)), some (.int (r_set (m_r M) k np)), some (.int (nI p)), some (.int (nI q)), none, none, none] [] hh z 0 0 (q_Kv P) Kx) np ?_ ?_ _ hM ho
    · intro hh hM ho
      refine wX9_trySwaps_46 ?_
      refine wX9_trySwaps_48 ?_
      refine wX9_trySwaps_49 hM.c ?_
      refine wX9_trySwaps_52 (fun c52 => ?_) (fun c52 => absurd (nI_leq hnnp (Nat.le_refl _) (by omega)) c52)
      refine wX9_trySwaps_167 ?_
      refine wX9_trySwaps_170 ?_
      refine q_drp 8 (q_ls ?_ (ih _ hM ho))
      rw [nI_1]; try rfl
    · intro q hqn ih2 hh hM ho
      have hq24 : q < 24 := by omega
      have hj138 : ∀ hh (B2 : Int32 × Int64), q_bit (r_set (m_r M) j np) p = true → q_bit (r_set (m_r M) k np) q = true → r_sw1 M nb np w j k p q (r_sw2 M nb np w j k p (r_sw M nb np w j k p) q) = ((r_sw2 M nb np w j k p (r_sw M nb np w j k p) q).1 + (if r_trc M.1 (m_r M) w np j ((1 : Int32) <<< (nI p &&& 31)) k ((1 : Int32) <<< (nI q &&& 31)) = 0 then 1 else 0), B2) → isM hh a (mLr (mSw M (r_cp (m_r M) (M.2.1 9) 386) (r_sw2 M nb np w j k p (r_sw M nb np w j k p) q).1 B2.1) 1 (r_trr (m_r M) w np j ((1 : Int32) <<< (nI p &&& 31)) k ((1 : Int32) <<< (nI q &&& 31)))) → q_out a 13 h hh → QW V iX9_trySwaps 138 [some (.ref a), some (.int (nI j)), some (.int (nI k)), some (.long B2.2), none, some (.int (r_set (m_r M) j np)), some (.int (r_set (m_r M) k np)), some (.int (nI p)), some (.int (nI q)), some (.int (r_trc M.1 (m_r M) w np j ((1 : Int32) <<< (nI p &&& 31)) k ((1 : Int32) <<< (nI q &&& 31)))), none, none] [] hh z 0 0 (q_Kv P) Kx := by
        intro hh B2 hb1 hb2 he hM ho
        refine wX9_trySwaps_138 ?_
        refine wX9_trySwaps_139 ?_
        refine wX9_trySwaps_140 hM.c ?_
        refine wX9_trySwaps_143 ?_
        refine wX9_trySwaps_145 (fun c145 => ?_) (fun c145 => ?_)
        · refine wX9_trySwaps_152 ?_
          refine wX9_trySwaps_153 ?_
          refine wX9_trySwaps_154 hM.c ?_
          refine q_sx (k := 33) hM ho (fun h2 hM ho => ?_)
          refine wX9_trySwaps_157 ?_
          refine wX9_trySwaps_158 hM.c (mX9_takeBack hM (fun h2 hM ho2 => ?_))
          have ho := ho.trans ho2
          refine wX9_trySwaps_161 ?_
          refine wX9_trySwaps_164 ?_
          have hM2 : isM h2 a (mSw M (r_cp (m_r M) (M.2.1 9) 386) (r_sw2 M nb np w j k p (r_sw M nb np w j k p) (q + 1)).1 (r_sw2 M nb np w j k p (r_sw M nb np w j k p) (q + 1)).2.1) := by
            refine hM.e ?_
            rw [r_sw2, he]
            first
              | (have q9 : r_trc M.1 (m_r M) w np j ((1 : Int32) <<< (nI p &&& 31)) k ((1 : Int32) <<< (nI q &&& 31)) = 0 := c145; rw [if_pos q9]; exact (mLr_2.trans ((congrArg (mLr _ 1) (r_cp_b (fun z hz => r_trr_hi hj hk4 hw15 hnp hz))).trans mLr_i)).trans mSw_33)
              | (have q9 : ¬ r_trc M.1 (m_r M) w np j ((1 : Int32) <<< (nI p &&& 31)) k ((1 : Int32) <<< (nI q &&& 31)) = 0 := c145; rw [if_neg q9]; exact (mLr_2.trans ((congrArg (mLr _ 1) (r_cp_b (fun z hz => r_trr_hi hj hk4 hw15 hnp hz))).trans mLr_i)).trans mSw_33)
          refine q_drp 9 (q_ls ?_ (ih2 _ hM2 ho))
          rw [nI_1, r_sw2, he]; try rfl
        · refine wX9_trySwaps_148 ?_
          refine wX9_trySwaps_149 ?_
          refine wX9_trySwaps_153 ?_
          refine wX9_trySwaps_154 hM.c ?_
          refine q_sx (k := 33) hM ho (fun h2 hM ho => ?_)
          refine wX9_trySwaps_157 ?_
          refine wX9_trySwaps_158 hM.c (mX9_takeBack hM (fun h2 hM ho2 => ?_))
          have ho := ho.trans ho2
          refine wX9_trySwaps_161 ?_
          refine wX9_trySwaps_164 ?_
          have hM2 : isM h2 a (mSw M (r_cp (m_r M) (M.2.1 9) 386) (r_sw2 M nb np w j k p (r_sw M nb np w j k p) (q + 1)).1 (r_sw2 M nb np w j k p (r_sw M nb np w j k p) (q + 1)).2.1) := by
            refine hM.e ?_
            rw [r_sw2, he]
            first
              | (have q9 : r_trc M.1 (m_r M) w np j ((1 : Int32) <<< (nI p &&& 31)) k ((1 : Int32) <<< (nI q &&& 31)) = 0 := c145; rw [if_pos q9]; exact (mLr_2.trans ((congrArg (mLr _ 1) (r_cp_b (fun z hz => r_trr_hi hj hk4 hw15 hnp hz))).trans mLr_i)).trans mSw_33)
              | (have q9 : ¬ r_trc M.1 (m_r M) w np j ((1 : Int32) <<< (nI p &&& 31)) k ((1 : Int32) <<< (nI q &&& 31)) = 0 := c145; rw [if_neg q9]; exact (mLr_2.trans ((congrArg (mLr _ 1) (r_cp_b (fun z hz => r_trr_hi hj hk4 hw15 hnp hz))).trans mLr_i)).trans mSw_33)
          refine q_drp 9 (q_ls ?_ (ih2 _ hM2 ho))
          rw [nI_1, r_sw2, he]; try rfl
      refine wX9_trySwaps_46 ?_
      refine wX9_trySwaps_48 ?_
      refine wX9_trySwaps_49 hM.c ?_
      refine wX9_trySwaps_52 (fun c52 => absurd c52 (nI_geq hnnp hqn (by omega))) (fun c52 => ?_)
      refine wX9_trySwaps_55 ?_
      refine wX9_trySwaps_57 ?_
      refine wX9_trySwaps_59 (mX9_has ?_)
      refine wX9_trySwaps_62 (fun c62 => ?_) (fun c62 => ?_)
      · refine wX9_trySwaps_161 ?_
        refine wX9_trySwaps_164 ?_
        refine q_ls ?_ (ih2 _ (hM.e ?_) ho)
        · rw [nI_1, r_sw2]
          first
            | (have q9 := q_b0 c72; rw [r_sw1, if_neg (fun z => by rw [q9] at z; cases z.2)])
            | (have q9 := q_b0 c62; rw [r_sw1, if_neg (fun z => by rw [q9] at z; cases z.1)])
        · rw [r_sw2]
          first
            | (have q9 := q_b0 c72; rw [r_sw1, if_neg (fun z => by rw [q9] at z; cases z.2)])
            | (have q9 := q_b0 c62; rw [r_sw1, if_neg (fun z => by rw [q9] at z; cases z.1)])
      · refine wX9_trySwaps_65 ?_
        refine wX9_trySwaps_67 ?_
        refine wX9_trySwaps_69 (mX9_has ?_)
        refine wX9_trySwaps_72 (fun c72 => ?_) (fun c72 => ?_)
        · refine wX9_trySwaps_161 ?_
          refine wX9_trySwaps_164 ?_
          refine q_ls ?_ (ih2 _ (hM.e ?_) ho)
          · rw [nI_1, r_sw2]
            first
              | (have q9 := q_b0 c72; rw [r_sw1, if_neg (fun z => by rw [q9] at z; cases z.2)])
              | (have q9 := q_b0 c62; rw [r_sw1, if_neg (fun z => by rw [q9] at z; cases z.1)])
          · rw [r_sw2]
            first
              | (have q9 := q_b0 c72; rw [r_sw1, if_neg (fun z => by rw [q9] at z; cases z.2)])
              | (have q9 := q_b0 c62; rw [r_sw1, if_neg (fun z => by rw [q9] at z; cases z.1)])
        · have hb1 : q_bit (r_set (m_r M) j np) p = true := q_b1 c62
          have hb2 : q_bit (r_set (m_r M) k np) q = true := q_b1 c72
          have hM : isM hh a (mLr (mSw M (r_cp (m_r M) (M.2.1 9) 386) (r_sw2 M nb np w j k p (r_sw M nb np w j k p) q).1 (r_sw2 M nb np w j k p (r_sw M nb np w j k p) q).2.1) 1 (m_r M)) := hM.e mLr_i.symm
          have hOb : okM (mLr (mSw M (r_cp (m_r M) (M.2.1 9) 386) (r_sw2 M nb np w j k p (r_sw M nb np w j k p) q).1 (r_sw2 M nb np w j k p (r_sw M nb np w j k p) q).2.1) 1 (m_r M)) w nt np nb := hO
          have hOc : okM (mLr (mSw M (r_cp (m_r M) (M.2.1 9) 386) (r_sw2 M nb np w j k p (r_sw M nb np w j k p) q).1 (r_sw2 M nb np w j k p (r_sw M nb np w j k p) q).2.1) 1 (r_trr (m_r M) w np j ((1 : Int32) <<< (nI p &&& 31)) k ((1 : Int32) <<< (nI q &&& 31)))) w nt np nb := okM_trr hOb hj hk4
          refine wX9_trySwaps_75 ?_
          refine wX9_trySwaps_76 ?_
          refine wX9_trySwaps_77 ?_
          refine wX9_trySwaps_78 ?_
          refine wX9_trySwaps_80 ?_
          refine wX9_trySwaps_81 ?_
          refine wX9_trySwaps_82 ?_
          refine wX9_trySwaps_83 ?_
          refine wX9_trySwaps_85 ?_
          refine wX9_trySwaps_86 hM.c (mX9_trades hM hOb hj hk4 (fun h2 hM ho2 => ?_))
          have ho := ho.trans ho2
          refine wX9_trySwaps_89 ?_
          refine wX9_trySwaps_91 ?_
          refine wX9_trySwaps_92 ?_
          refine wX9_trySwaps_93 hM.c (mX9_taxOf hM hOc hj ?_)
          refine wX9_trySwaps_96 ?_
          refine wX9_trySwaps_97 ?_
          refine wX9_trySwaps_98 hM.c (mX9_taxOf hM hOc hk4 ?_)
          refine wX9_trySwaps_101 ?_
          refine wX9_trySwaps_102 ?_
          refine wX9_trySwaps_104 ?_
          refine wX9_trySwaps_106 (fun c106 => ?_) (fun c106 => ?_)
          · have hsw : r_sw1 M nb np w j k p q (r_sw2 M nb np w j k p (r_sw M nb np w j k p) q) = (if r_trc M.1 (m_r M) w np j ((1 : Int32) <<< (nI p &&& 31)) k ((1 : Int32) <<< (nI q &&& 31)) = 0 then (if (r_sw2 M nb np w j k p (r_sw M nb np w j k p) q).1 = 0 ∨ r_swt M nb np w j k p q < (r_sw2 M nb np w j k p (r_sw M nb np w j k p) q).2.2 then ((r_sw2 M nb np w j k p (r_sw M nb np w j k p) q).1 + 1, 32 * nI p + nI q, r_swt M nb np w j k p q) else ((r_sw2 M nb np w j k p (r_sw M nb np w j k p) q).1 + 1, (r_sw2 M nb np w j k p (r_sw M nb np w j k p) q).2)) else ((r_sw2 M nb np w j k p (r_sw M nb np w j k p) q).1 + 0, (r_sw2 M nb np w j k p (r_sw M nb np w j k p) q).2)) := by rw [r_sw1, if_pos ⟨hb1, hb2⟩]
            first
              | (have q9 : (r_sw2 M nb np w j k p (r_sw M nb np w j k p) q).1 = 0 := c113; have q8 : r_trc M.1 (m_r M) w np j ((1 : Int32) <<< (nI p &&& 31)) k ((1 : Int32) <<< (nI q &&& 31)) = 0 := c106
                 rw [if_pos q8, if_pos (Or.inl q9)] at hsw
                 exact q_drp 10 (hj138 _ (32 * nI p + nI q, r_swt M nb np w j k p q) hb1 hb2 (hsw.trans (by rw [if_pos q8])) (hM.e mSw_34r) ho))
              | (have q9 : ¬ (r_sw2 M nb np w j k p (r_sw M nb np w j k p) q).2.2 ≤ r_swt M nb np w j k p q := c119; have q8 : r_trc M.1 (m_r M) w np j ((1 : Int32) <<< (nI p &&& 31)) k ((1 : Int32) <<< (nI q &&& 31)) = 0 := c106
                 rw [if_pos q8, if_pos (Or.inr (Int64.not_le.mp q9))] at hsw
                 exact q_drp 10 (hj138 _ (32 * nI p + nI q, r_swt M nb np w j k p q) hb1 hb2 (hsw.trans (by rw [if_pos q8])) (hM.e mSw_34r) ho))
              | (have q9 : (r_sw2 M nb np w j k p (r_sw M nb np w j k p) q).2.2 ≤ r_swt M nb np w j k p q := c119; have q8 : r_trc M.1 (m_r M) w np j ((1 : Int32) <<< (nI p &&& 31)) k ((1 : Int32) <<< (nI q &&& 31)) = 0 := c106
                 rw [if_pos q8, if_neg (fun z => z.elim c113 (fun z => Int64.not_lt.mpr q9 z))] at hsw
                 exact q_drp 10 (hj138 _ (r_sw2 M nb np w j k p (r_sw M nb np w j k p) q).2 hb1 hb2 (hsw.trans (by rw [if_pos q8])) hM ho))
              | (have q8 : ¬ r_trc M.1 (m_r M) w np j ((1 : Int32) <<< (nI p &&& 31)) k ((1 : Int32) <<< (nI q &&& 31)) = 0 := c106
                 rw [if_neg q8] at hsw
                 exact q_drp 10 (hj138 _ (r_sw2 M nb np w j k p (r_sw M nb np w j k p) q).2 hb1 hb2 (hsw.trans (by rw [if_neg q8])) hM ho))
          · refine wX9_trySwaps_109 ?_
            refine wX9_trySwaps_110 hM.c ?_
            refine wX9_trySwaps_113 (fun c113 => ?_) (fun c113 => ?_)
            · refine wX9_trySwaps_123 ?_
              refine wX9_trySwaps_124 ?_
              refine wX9_trySwaps_126 ?_
              refine wX9_trySwaps_128 ?_
              refine wX9_trySwaps_129 ?_
              refine wX9_trySwaps_131 ?_
              refine wX9_trySwaps_132 hM.c ?_
              refine q_sx (k := 34) hM ho (fun h2 hM ho => ?_)
              refine wX9_trySwaps_135 ?_
              refine wX9_trySwaps_137 ?_
              have hsw : r_sw1 M nb np w j k p q (r_sw2 M nb np w j k p (r_sw M nb np w j k p) q) = (if r_trc M.1 (m_r M) w np j ((1 : Int32) <<< (nI p &&& 31)) k ((1 : Int32) <<< (nI q &&& 31)) = 0 then (if (r_sw2 M nb np w j k p (r_sw M nb np w j k p) q).1 = 0 ∨ r_swt M nb np w j k p q < (r_sw2 M nb np w j k p (r_sw M nb np w j k p) q).2.2 then ((r_sw2 M nb np w j k p (r_sw M nb np w j k p) q).1 + 1, 32 * nI p + nI q, r_swt M nb np w j k p q) else ((r_sw2 M nb np w j k p (r_sw M nb np w j k p) q).1 + 1, (r_sw2 M nb np w j k p (r_sw M nb np w j k p) q).2)) else ((r_sw2 M nb np w j k p (r_sw M nb np w j k p) q).1 + 0, (r_sw2 M nb np w j k p (r_sw M nb np w j k p) q).2)) := by rw [r_sw1, if_pos ⟨hb1, hb2⟩]
              first
                | (have q9 : (r_sw2 M nb np w j k p (r_sw M nb np w j k p) q).1 = 0 := c113; have q8 : r_trc M.1 (m_r M) w np j ((1 : Int32) <<< (nI p &&& 31)) k ((1 : Int32) <<< (nI q &&& 31)) = 0 := c106
                   rw [if_pos q8, if_pos (Or.inl q9)] at hsw
                   exact q_drp 10 (hj138 _ (32 * nI p + nI q, r_swt M nb np w j k p q) hb1 hb2 (hsw.trans (by rw [if_pos q8])) (hM.e mSw_34r) ho))
                | (have q9 : ¬ (r_sw2 M nb np w j k p (r_sw M nb np w j k p) q).2.2 ≤ r_swt M nb np w j k p q := c119; have q8 : r_trc M.1 (m_r M) w np j ((1 : Int32) <<< (nI p &&& 31)) k ((1 : Int32) <<< (nI q &&& 31)) = 0 := c106
                   rw [if_pos q8, if_pos (Or.inr (Int64.not_le.mp q9))] at hsw
                   exact q_drp 10 (hj138 _ (32 * nI p + nI q, r_swt M nb np w j k p q) hb1 hb2 (hsw.trans (by rw [if_pos q8])) (hM.e mSw_34r) ho))
                | (have q9 : (r_sw2 M nb np w j k p (r_sw M nb np w j k p) q).2.2 ≤ r_swt M nb np w j k p q := c119; have q8 : r_trc M.1 (m_r M) w np j ((1 : Int32) <<< (nI p &&& 31)) k ((1 : Int32) <<< (nI q &&& 31)) = 0 := c106
                   rw [if_pos q8, if_neg (fun z => z.elim c113 (fun z => Int64.not_lt.mpr q9 z))] at hsw
                   exact q_drp 10 (hj138 _ (r_sw2 M nb np w j k p (r_sw M nb np w j k p) q).2 hb1 hb2 (hsw.trans (by rw [if_pos q8])) hM ho))
                | (have q8 : ¬ r_trc M.1 (m_r M) w np j ((1 : Int32) <<< (nI p &&& 31)) k ((1 : Int32) <<< (nI q &&& 31)) = 0 := c106
                   rw [if_neg q8] at hsw
                   exact q_drp 10 (hj138 _ (r_sw2 M nb np w j k p (r_sw M nb np w j k p) q).2 hb1 hb2 (hsw.trans (by rw [if_neg q8])) hM ho))
            · refine wX9_trySwaps_116 ?_
              refine wX9_trySwaps_118 ?_
              refine wX9_trySwaps_119 (fun c119 => ?_) (fun c119 => ?_)
              · have hsw : r_sw1 M nb np w j k p q (r_sw2 M nb np w j k p (r_sw M nb np w j k p) q) = (if r_trc M.1 (m_r M) w np j ((1 : Int32) <<< (nI p &&& 31)) k ((1 : Int32) <<< (nI q &&& 31)) = 0 then (if (r_sw2 M nb np w j k p (r_sw M nb np w j k p) q).1 = 0 ∨ r_swt M nb np w j k p q < (r_sw2 M nb np w j k p (r_sw M nb np w j k p) q).2.2 then ((r_sw2 M nb np w j k p (r_sw M nb np w j k p) q).1 + 1, 32 * nI p + nI q, r_swt M nb np w j k p q) else ((r_sw2 M nb np w j k p (r_sw M nb np w j k p) q).1 + 1, (r_sw2 M nb np w j k p (r_sw M nb np w j k p) q).2)) else ((r_sw2 M nb np w j k p (r_sw M nb np w j k p) q).1 + 0, (r_sw2 M nb np w j k p (r_sw M nb np w j k p) q).2)) := by rw [r_sw1, if_pos ⟨hb1, hb2⟩]
                first
                  | (have q9 : (r_sw2 M nb np w j k p (r_sw M nb np w j k p) q).1 = 0 := c113; have q8 : r_trc M.1 (m_r M) w np j ((1 : Int32) <<< (nI p &&& 31)) k ((1 : Int32) <<< (nI q &&& 31)) = 0 := c106
                     rw [if_pos q8, if_pos (Or.inl q9)] at hsw
                     exact q_drp 10 (hj138 _ (32 * nI p + nI q, r_swt M nb np w j k p q) hb1 hb2 (hsw.trans (by rw [if_pos q8])) (hM.e mSw_34r) ho))
                  | (have q9 : ¬ (r_sw2 M nb np w j k p (r_sw M nb np w j k p) q).2.2 ≤ r_swt M nb np w j k p q := c119; have q8 : r_trc M.1 (m_r M) w np j ((1 : Int32) <<< (nI p &&& 31)) k ((1 : Int32) <<< (nI q &&& 31)) = 0 := c106
                     rw [if_pos q8, if_pos (Or.inr (Int64.not_le.mp q9))] at hsw
                     exact q_drp 10 (hj138 _ (32 * nI p + nI q, r_swt M nb np w j k p q) hb1 hb2 (hsw.trans (by rw [if_pos q8])) (hM.e mSw_34r) ho))
                  | (have q9 : (r_sw2 M nb np w j k p (r_sw M nb np w j k p) q).2.2 ≤ r_swt M nb np w j k p q := c119; have q8 : r_trc M.1 (m_r M) w np j ((1 : Int32) <<< (nI p &&& 31)) k ((1 : Int32) <<< (nI q &&& 31)) = 0 := c106
                     rw [if_pos q8, if_neg (fun z => z.elim c113 (fun z => Int64.not_lt.mpr q9 z))] at hsw
                     exact q_drp 10 (hj138 _ (r_sw2 M nb np w j k p (r_sw M nb np w j k p) q).2 hb1 hb2 (hsw.trans (by rw [if_pos q8])) hM ho))
                  | (have q8 : ¬ r_trc M.1 (m_r M) w np j ((1 : Int32) <<< (nI p &&& 31)) k ((1 : Int32) <<< (nI q &&& 31)) = 0 := c106
                     rw [if_neg q8] at hsw
                     exact q_drp 10 (hj138 _ (r_sw2 M nb np w j k p (r_sw M nb np w j k p) q).2 hb1 hb2 (hsw.trans (by rw [if_neg q8])) hM ho))
              · refine wX9_trySwaps_123 ?_
                refine wX9_trySwaps_124 ?_
                refine wX9_trySwaps_126 ?_
                refine wX9_trySwaps_128 ?_
                refine wX9_trySwaps_129 ?_
                refine wX9_trySwaps_131 ?_
                refine wX9_trySwaps_132 hM.c ?_
                refine q_sx (k := 34) hM ho (fun h2 hM ho => ?_)
                refine wX9_trySwaps_135 ?_
                refine wX9_trySwaps_137 ?_
                have hsw : r_sw1 M nb np w j k p q (r_sw2 M nb np w j k p (r_sw M nb np w j k p) q) = (if r_trc M.1 (m_r M) w np j ((1 : Int32) <<< (nI p &&& 31)) k ((1 : Int32) <<< (nI q &&& 31)) = 0 then (if (r_sw2 M nb np w j k p (r_sw M nb np w j k p) q).1 = 0 ∨ r_swt M nb np w j k p q < (r_sw2 M nb np w j k p (r_sw M nb np w j k p) q).2.2 then ((r_sw2 M nb np w j k p (r_sw M nb np w j k p) q).1 + 1, 32 * nI p + nI q, r_swt M nb np w j k p q) else ((r_sw2 M nb np w j k p (r_sw M nb np w j k p) q).1 + 1, (r_sw2 M nb np w j k p (r_sw M nb np w j k p) q).2)) else ((r_sw2 M nb np w j k p (r_sw M nb np w j k p) q).1 + 0, (r_sw2 M nb np w j k p (r_sw M nb np w j k p) q).2)) := by rw [r_sw1, if_pos ⟨hb1, hb2⟩]
                first
                  | (have q9 : (r_sw2 M nb np w j k p (r_sw M nb np w j k p) q).1 = 0 := c113; have q8 : r_trc M.1 (m_r M) w np j ((1 : Int32) <<< (nI p &&& 31)) k ((1 : Int32) <<< (nI q &&& 31)) = 0 := c106
                     rw [if_pos q8, if_pos (Or.inl q9)] at hsw
                     exact q_drp 10 (hj138 _ (32 * nI p + nI q, r_swt M nb np w j k p q) hb1 hb2 (hsw.trans (by rw [if_pos q8])) (hM.e mSw_34r) ho))
                  | (have q9 : ¬ (r_sw2 M nb np w j k p (r_sw M nb np w j k p) q).2.2 ≤ r_swt M nb np w j k p q := c119; have q8 : r_trc M.1 (m_r M) w np j ((1 : Int32) <<< (nI p &&& 31)) k ((1 : Int32) <<< (nI q &&& 31)) = 0 := c106
                     rw [if_pos q8, if_pos (Or.inr (Int64.not_le.mp q9))] at hsw
                     exact q_drp 10 (hj138 _ (32 * nI p + nI q, r_swt M nb np w j k p q) hb1 hb2 (hsw.trans (by rw [if_pos q8])) (hM.e mSw_34r) ho))
                  | (have q9 : (r_sw2 M nb np w j k p (r_sw M nb np w j k p) q).2.2 ≤ r_swt M nb np w j k p q := c119; have q8 : r_trc M.1 (m_r M) w np j ((1 : Int32) <<< (nI p &&& 31)) k ((1 : Int32) <<< (nI q &&& 31)) = 0 := c106
                     rw [if_pos q8, if_neg (fun z => z.elim c113 (fun z => Int64.not_lt.mpr q9 z))] at hsw
                     exact q_drp 10 (hj138 _ (r_sw2 M nb np w j k p (r_sw M nb np w j k p) q).2 hb1 hb2 (hsw.trans (by rw [if_pos q8])) hM ho))
                  | (have q8 : ¬ r_trc M.1 (m_r M) w np j ((1 : Int32) <<< (nI p &&& 31)) k ((1 : Int32) <<< (nI q &&& 31)) = 0 := c106
                     rw [if_neg q8] at hsw
                     exact q_drp 10 (hj138 _ (r_sw2 M nb np w j k p (r_sw M nb np w j k p) q).2 hb1 hb2 (hsw.trans (by rw [if_neg q8])) hM ho))
theorem mX9_swapCount {a : Nat} {M : q_Mo} {t : Int32} {u : Int32}  {w nt np nb : Nat} {P : Int32 → q_H → Option Nat → Prop} (hM : isM h a M) (hO : ¬ M.1 3 = 0 → okM M w nt np nb)  (hw : M.1 3 = 0 ∨ (mg2 M t u) = false → ∀ h2, isM h2 a (mS M 4 (mo_th M (mg2 M t u))) → q_out a 13 h h2 → P 0 h2 z) (hk : ¬ M.1 3 = 0 → mg2 M t u = true → ∀ j k, j < 4 → k < 4 → t = nI j → u = nI k → ∀ h2 A9, isM h2 a (mSw (mS M 4 0) A9 (r_sw (mS M 4 0) nb np w j k np).1 (r_sw (mS M 4 0) nb np w j k np).2.1) → q_out a 13 h h2 → P ((r_sw (mS M 4 0) nb np w j k np).1) h2 z) : QMi V iX9_swapCount [.ref a, .int t, .int u] h z P Kx := by
  have ho : q_out a 13 h h := q_out.refl
  refine eX9_swapCount ?_
  refine wX9_swapCount_0 ?_
  refine wX9_swapCount_1 ?_
  refine wX9_swapCount_2 ?_
  refine wX9_swapCount_3 ?_
  refine wX9_swapCount_4 hM.c (mX9_areTwo hM ?_)
  refine wX9_swapCount_7 hM.c (mX9_isWrong (g := mg2 M t u) hM rfl (fun hc h2 hM ho2 => ?_) (fun hl hg h2 hM ho2 => ?_))
  · refine wX9_swapCount_10 (fun c10 => absurd c10 (by decide)) (fun c10 => ?_)
    refine wX9_swapCount_13 ?_
    refine wX9_swapCount_14  ?_
    exact hw hc _ hM ho2
  · have ho := ho.trans ho2
    have hO := hO hl
    have hO0 : okM (mS M 4 0) w nt np nb := okM_4 hO
    have hg0 := hg
    simp only [mg2, Bool.and_eq_true] at hg0
    obtain ⟨j, hj, rfl⟩ := mgT_of hO hg0.1
    obtain ⟨k, hk4, rfl⟩ := mgT_of hO hg0.2.1
    refine wX9_swapCount_10 (fun c10 => ?_) (fun c10 => absurd rfl c10)
    refine wX9_swapCount_15 ?_
    refine wX9_swapCount_16 ?_
    refine wX9_swapCount_17 ?_
    refine wX9_swapCount_18 hM.c (mX9_trySwaps hM hO0 hj hk4 (fun h2 A9 hM ho2 => ?_))
    have ho := ho.trans ho2
    refine wX9_swapCount_21 ?_
    refine wX9_swapCount_22 hM.c ?_
    refine wX9_swapCount_25  ?_
    exact hk hl hg j k hj hk4 rfl rfl _ A9 hM ho
theorem mX9_bestSwap {a : Nat} {M : q_Mo} {t : Int32} {u : Int32}  {w nt np nb : Nat} {P : Int32 → q_H → Option Nat → Prop} (hM : isM h a M) (hO : ¬ M.1 3 = 0 → okM M w nt np nb)  (hw : M.1 3 = 0 ∨ (mg2 M t u) = false → ∀ h2, isM h2 a (mS M 4 (mo_th M (mg2 M t u))) → q_out a 13 h h2 → P 0 h2 z) (hk : ¬ M.1 3 = 0 → mg2 M t u = true → ∀ j k, j < 4 → k < 4 → t = nI j → u = nI k → ∀ h2 A9, isM h2 a (mSw (mS M 4 0) A9 (r_sw (mS M 4 0) nb np w j k np).1 (r_sw (mS M 4 0) nb np w j k np).2.1) → q_out a 13 h h2 → P ((r_sw (mS M 4 0) nb np w j k np).2.1) h2 z) : QMi V iX9_bestSwap [.ref a, .int t, .int u] h z P Kx := by
  have ho : q_out a 13 h h := q_out.refl
  refine eX9_bestSwap ?_
  refine wX9_bestSwap_0 ?_
  refine wX9_bestSwap_1 ?_
  refine wX9_bestSwap_2 ?_
  refine wX9_bestSwap_3 ?_
  refine wX9_bestSwap_4 hM.c (mX9_areTwo hM ?_)
  refine wX9_bestSwap_7 hM.c (mX9_isWrong (g := mg2 M t u) hM rfl (fun hc h2 hM ho2 => ?_) (fun hl hg h2 hM ho2 => ?_))
  · refine wX9_bestSwap_10 (fun c10 => absurd c10 (by decide)) (fun c10 => ?_)
    refine wX9_bestSwap_13 ?_
    refine wX9_bestSwap_14  ?_
    exact hw hc _ hM ho2
  · have ho := ho.trans ho2
    have hO := hO hl
    have hO0 : okM (mS M 4 0) w nt np nb := okM_4 hO
    have hg0 := hg
    simp only [mg2, Bool.and_eq_true] at hg0
    obtain ⟨j, hj, rfl⟩ := mgT_of hO hg0.1
    obtain ⟨k, hk4, rfl⟩ := mgT_of hO hg0.2.1
    refine wX9_bestSwap_10 (fun c10 => ?_) (fun c10 => absurd rfl c10)
    refine wX9_bestSwap_15 ?_
    refine wX9_bestSwap_16 ?_
    refine wX9_bestSwap_17 ?_
    refine wX9_bestSwap_18 hM.c (mX9_trySwaps hM hO0 hj hk4 (fun h2 A9 hM ho2 => ?_))
    have ho := ho.trans ho2
    refine wX9_bestSwap_21 ?_
    refine wX9_bestSwap_22 hM.c ?_
    refine wX9_bestSwap_25  ?_
    exact hk hl hg j k hj hk4 rfl rfl _ A9 hM ho
def r_ta (M : q_Mo) (nb np w t : Nat) : Nat → Int32 × Int64
  | 0 => ((r_ot (m_r M) t 1).toInt32, 0)
  | k + 1 => ((r_ta M nb np w t k).1 ||| (if r_ab M.1 (m_r M) np w t k ≤ 0 then 0 else (1 : Int32) <<< (nI (w + k) &&& 31)), (r_ta M nb np w t k).2 + r_txo M nb (r_ab M.1 (m_r M) np w t k) (r_rp (r_ta M nb np w t k).1 (w + k)))
theorem mgN1_of {t : Int32} {n : Nat} {N : Int32} (hn : n < 2147483647) (hN : N = nI n) (hg : rgL t.toInt64 1 N.toInt64 = true) : ∃ j, j < n + 1 ∧ t = nI j := by
  have h1 := of_decide_eq_true hg
  refine mgN_of hn hN (decide_eq_true ⟨fun z => h1.1 (Int64.lt_trans z (by decide)), h1.2⟩)
theorem mX9_taxAhead {a : Nat} {M : q_Mo} {t : Int32} {x : Int32}  {w nt np nb : Nat} {P : Int64 → q_H → Option Nat → Prop} (hM : isM h a M) (hO : ¬ M.1 3 = 0 → okM M w nt np nb)  (hw : M.1 3 = 0 ∨ (mgT M t && rgL x.toInt64 1 8) = false → ∀ h2, isM h2 a (mS M 4 (mo_th M (mgT M t && rgL x.toInt64 1 8))) → q_out a 13 h h2 → P 0 h2 z) (hk : ¬ M.1 3 = 0 → (mgT M t && rgL x.toInt64 1 8) = true → ∀ j, j < 4 → t = nI j → ∀ y, y < 9 → x = nI y → ∀ h2, isM h2 a (mS M 4 0) → q_out a 13 h h2 → P ((r_ta (mS M 4 0) nb np w j y).2) h2 z) : QMl V iX9_taxAhead [.ref a, .int t, .int x] h z P Kx := by
  have ho : q_out a 13 h h := q_out.refl
  have hj : ∀ b9 : Int32, b9 = q_b (mgT M t && rgL x.toInt64 1 8) → QW V iX9_taxAhead 26 [some (.ref a), some (.int t), some (.int x), none, none, none, none, none] [.int b9, .ref a] h z 0 0 (q_Kl P) Kx := by
    intro b9 hb9
    refine wX9_taxAhead_26 hM.c (mX9_isWrong (g := mgT M t && rgL x.toInt64 1 8) hM hb9 (fun hc h2 hM ho2 => ?_) (fun hl hg h2 hM ho2 => ?_))
    · refine wX9_taxAhead_29 (fun c29 => absurd c29 (by decide)) (fun c29 => ?_)
      refine wX9_taxAhead_32 ?_
      refine wX9_taxAhead_33  ?_
      exact hw hc _ hM ho2
    · have ho := ho.trans ho2
      have hO := hO hl
      have hg0 := hg
      simp only [Bool.and_eq_true] at hg0
      obtain ⟨j, hj, rfl⟩ := mgT_of hO hg0.1
      obtain ⟨y, hy, rfl⟩ := mgN1_of (n := 8) (N := 8) (by decide) rfl hg0.2
      have hO0 : okM (mS M 4 0) w nt np nb := okM_4 hO
      have hw15 := hO.1.1
      refine wX9_taxAhead_29 (fun c29 => ?_) (fun c29 => absurd rfl c29)
      refine wX9_taxAhead_34 ?_
      refine wX9_taxAhead_35 ?_
      refine wX9_taxAhead_36 hM.c (mX9_taxedOf hM hj ?_)
      refine wX9_taxAhead_39 ?_
      refine wX9_taxAhead_40 ?_
      refine wX9_taxAhead_41 ?_
      refine wX9_taxAhead_43 ?_
      refine wX9_taxAhead_44 ?_
      refine q_for (P := fun k => QW V iX9_taxAhead 46 [some (.ref a), some (.int (nI j)), some (.int (nI y)), some (.int (r_ta (mS M 4 0) nb np w j k).1), some (.long (r_ta (mS M 4 0) nb np w j k).2), none, some (.int (nI k)), none] [] h2 z 0 0 (q_Kl P) Kx) y ?_ (fun k hkn ih => ?_)
      · refine wX9_taxAhead_46 ?_
        refine wX9_taxAhead_48 ?_
        refine wX9_taxAhead_49 (fun c49 => ?_) (fun c49 => absurd (nI_le (Nat.le_refl _) (by omega)) c49)
        refine wX9_taxAhead_110 ?_
        refine wX9_taxAhead_112  ?_
        exact hk hl hg j hj rfl y hy rfl _ hM ho
      · refine wX9_taxAhead_46 ?_
        refine wX9_taxAhead_48 ?_
        refine wX9_taxAhead_49 (fun c49 => absurd c49 (nI_ge hkn (by omega))) (fun c49 => ?_)
        refine wX9_taxAhead_52 ?_
        refine wX9_taxAhead_53 ?_
        refine wX9_taxAhead_54 ?_
        refine wX9_taxAhead_56 hM.c (mX9_aboveLine hM hO0 hj (by omega) ?_)
        refine wX9_taxAhead_59 ?_
        refine wX9_taxAhead_61 ?_
        refine wX9_taxAhead_63 ?_
        refine wX9_taxAhead_64 ?_
        refine wX9_taxAhead_66 ?_
        refine wX9_taxAhead_67 ?_
        refine wX9_taxAhead_68 hM.c (mX9_now hM ?_)
        rw [show r_nw (m_r (mS M 4 0)) = nI w from hO.1.2]
        refine wX9_taxAhead_71 ?_
        refine wX9_taxAhead_73 ?_
        rw [nI_add]
        refine wX9_taxAhead_74 (mX9_isRepeatedN (y := w + k) (by omega) rfl ?_)
        refine wX9_taxAhead_77 hM.c (mX9_taxOn hM hO0 ?_)
        refine wX9_taxAhead_80 ?_
        refine wX9_taxAhead_81 ?_
        refine wX9_taxAhead_83 ?_
        refine wX9_taxAhead_84 ?_
        refine wX9_taxAhead_86 (fun c86 => ?_) (fun c86 => ?_)
        · refine wX9_taxAhead_101 ?_
          refine wX9_taxAhead_102 ?_
          refine wX9_taxAhead_103 ?_
          refine wX9_taxAhead_104 ?_
          refine wX9_taxAhead_107 ?_
          refine q_drp 7 (q_ls ?_ ih)
          rw [nI_1]
          first
            | (have q9 : r_ab (mS M 4 0).1 (m_r (mS M 4 0)) np w j k ≤ 0 := c86; rw [r_ta, if_pos q9]; try rfl)
            | (have q9 : ¬ r_ab (mS M 4 0).1 (m_r (mS M 4 0)) np w j k ≤ 0 := c86; rw [r_ta, if_neg q9]; try rfl)
        · refine wX9_taxAhead_89 ?_
          refine wX9_taxAhead_90 ?_
          refine wX9_taxAhead_91 hM.c (mX9_now hM ?_)
          rw [show r_nw (m_r (mS M 4 0)) = nI w from hO.1.2]
          refine wX9_taxAhead_94 ?_
          refine wX9_taxAhead_96 ?_
          rw [nI_add]
          refine wX9_taxAhead_97 ?_
          refine wX9_taxAhead_98 ?_
          refine wX9_taxAhead_102 ?_
          refine wX9_taxAhead_103 ?_
          refine wX9_taxAhead_104 ?_
          refine wX9_taxAhead_107 ?_
          refine q_drp 7 (q_ls ?_ ih)
          rw [nI_1]
          first
            | (have q9 : r_ab (mS M 4 0).1 (m_r (mS M 4 0)) np w j k ≤ 0 := c86; rw [r_ta, if_pos q9]; try rfl)
            | (have q9 : ¬ r_ab (mS M 4 0).1 (m_r (mS M 4 0)) np w j k ≤ 0 := c86; rw [r_ta, if_neg q9]; try rfl)
  refine eX9_taxAhead ?_
  refine wX9_taxAhead_0 ?_
  refine wX9_taxAhead_1 ?_
  refine wX9_taxAhead_2 ?_
  refine wX9_taxAhead_3 hM.c (mX9_isTeam hM ?_)
  refine wX9_taxAhead_6 (fun c6 => ?_) (fun c6 => ?_)
  · refine wX9_taxAhead_25 ?_
    first
      | (have p0 : (mgT M t) = true := q_b1 c6; have p1 : (rgL x.toInt64 1 8) = true := q_b1 c18; exact hj _ (by simp only [p0, p1]; first | rfl | simp [q_b]))
      | (have p0 : (mgT M t) = true := q_b1 c6; have p1 : (rgL x.toInt64 1 8) = false := q_b0 c18; exact hj _ (by simp only [p0, p1]; first | rfl | simp [q_b]))
      | (have p0 : (mgT M t) = false := q_b0 c6; exact hj _ (by simp only [p0]; first | rfl | simp [q_b]))
  · refine wX9_taxAhead_9 ?_
    refine wX9_taxAhead_10 ?_
    refine wX9_taxAhead_11 ?_
    refine wX9_taxAhead_12 ?_
    refine wX9_taxAhead_15 (mX9_isIn ?_)
    refine wX9_taxAhead_18 (fun c18 => ?_) (fun c18 => ?_)
    · refine wX9_taxAhead_25 ?_
      first
        | (have p0 : (mgT M t) = true := q_b1 c6; have p1 : (rgL x.toInt64 1 8) = true := q_b1 c18; exact hj _ (by simp only [p0, p1]; first | rfl | simp [q_b]))
        | (have p0 : (mgT M t) = true := q_b1 c6; have p1 : (rgL x.toInt64 1 8) = false := q_b0 c18; exact hj _ (by simp only [p0, p1]; first | rfl | simp [q_b]))
        | (have p0 : (mgT M t) = false := q_b0 c6; exact hj _ (by simp only [p0]; first | rfl | simp [q_b]))
    · refine wX9_taxAhead_21 ?_
      refine wX9_taxAhead_22 ?_
      first
        | (have p0 : (mgT M t) = true := q_b1 c6; have p1 : (rgL x.toInt64 1 8) = true := q_b1 c18; exact hj _ (by simp only [p0, p1]; first | rfl | simp [q_b]))
        | (have p0 : (mgT M t) = true := q_b1 c6; have p1 : (rgL x.toInt64 1 8) = false := q_b0 c18; exact hj _ (by simp only [p0, p1]; first | rfl | simp [q_b]))
        | (have p0 : (mgT M t) = false := q_b0 c6; exact hj _ (by simp only [p0]; first | rfl | simp [q_b]))
end CX9g
