/-! SalaryCapLedgerModel: questions -/
section CX9f
variable {V : q_En} {h : q_H} {z : Option Nat} {Kx : q_KX}
theorem mX9_year {a : Nat} {M : q_Mo}   {w nt np nb : Nat} {P : Int32 → q_H → Option Nat → Prop} (hM : isM h a M) (hO : ¬ M.1 3 = 0 → okM M w nt np nb)  (hw : M.1 3 = 0 ∨ (true) = false → ∀ h2, isM h2 a (mS M 4 (mo_th M (true))) → q_out a 13 h h2 → P 0 h2 z) (hk : ¬ M.1 3 = 0 → (true) = true → ∀ h2, isM h2 a (mS M 4 0) → q_out a 13 h h2 → P (r_nw (m_r (mS M 4 0))) h2 z) : QMi V iX9_year [.ref a] h z P Kx := by
  have ho : q_out a 13 h h := q_out.refl
  refine eX9_year ?_
  refine wX9_year_0 ?_
  refine wX9_year_1 ?_
  refine wX9_year_2 hM.c (mX9_isWrong (g := true) hM rfl (fun hc h2 hM ho2 => ?_) (fun hl hg h2 hM ho2 => ?_))
  · refine wX9_year_5 (fun c5 => absurd c5 (by decide)) (fun c5 => ?_)
    refine wX9_year_8 ?_
    refine wX9_year_9 ?_
    refine wX9_year_16  ?_
    exact hw hc _ hM ho2
  · have ho := ho.trans ho2
    have hO := hO hl
    refine wX9_year_5 (fun c5 => ?_) (fun c5 => absurd rfl c5)
    refine wX9_year_12 ?_
    refine wX9_year_13 hM.c (mX9_now hM ?_)
    refine wX9_year_16  ?_
    exact hk hl hg _ hM ho
theorem mX9_cap {a : Nat} {M : q_Mo} {x : Int32}  {w nt np nb : Nat} {P : Int32 → q_H → Option Nat → Prop} (hM : isM h a M) (hO : ¬ M.1 3 = 0 → okM M w nt np nb)  (hw : M.1 3 = 0 ∨ (mgA x) = false → ∀ h2, isM h2 a (mS M 4 (mo_th M (mgA x))) → q_out a 13 h h2 → P 0 h2 z) (hk : ¬ M.1 3 = 0 → (mgA x) = true → ∀ y, y < 12 → x = nI y → ∀ h2, isM h2 a (mS M 4 0) → q_out a 13 h h2 → P (r_cap (mS M 4 0).1 w y) h2 z) : QMi V iX9_cap [.ref a, .int x] h z P Kx := by
  have ho : q_out a 13 h h := q_out.refl
  refine eX9_cap ?_
  refine wX9_cap_0 ?_
  refine wX9_cap_1 ?_
  refine wX9_cap_2 (mX9_isAhead ?_)
  refine wX9_cap_5 hM.c (mX9_isWrong (g := mgA x) hM rfl (fun hc h2 hM ho2 => ?_) (fun hl hg h2 hM ho2 => ?_))
  · refine wX9_cap_8 (fun c8 => absurd c8 (by decide)) (fun c8 => ?_)
    refine wX9_cap_11 ?_
    refine wX9_cap_12 ?_
    refine wX9_cap_20  ?_
    exact hw hc _ hM ho2
  · have ho := ho.trans ho2
    have hO := hO hl
    have hg0 := hg
    obtain ⟨y, hy, rfl⟩ := mgA_of hg0
    refine wX9_cap_8 (fun c8 => ?_) (fun c8 => absurd rfl c8)
    refine wX9_cap_15 ?_
    refine wX9_cap_16 ?_
    refine wX9_cap_17 hM.c (mX9_capIn hM hO.1.2 (by have := hO.1.1; omega) (by omega) ?_)
    refine wX9_cap_20  ?_
    exact hk hl hg y hy rfl _ hM ho
theorem mX9_taxLine {a : Nat} {M : q_Mo} {x : Int32}  {w nt np nb : Nat} {P : Int32 → q_H → Option Nat → Prop} (hM : isM h a M) (hO : ¬ M.1 3 = 0 → okM M w nt np nb)  (hw : M.1 3 = 0 ∨ (mgA x) = false → ∀ h2, isM h2 a (mS M 4 (mo_th M (mgA x))) → q_out a 13 h h2 → P 0 h2 z) (hk : ¬ M.1 3 = 0 → (mgA x) = true → ∀ y, y < 12 → x = nI y → ∀ h2, isM h2 a (mS M 4 0) → q_out a 13 h h2 → P (r_ln (mS M 4 0).1 w y) h2 z) : QMi V iX9_taxLine [.ref a, .int x] h z P Kx := by
  have ho : q_out a 13 h h := q_out.refl
  refine eX9_taxLine ?_
  refine wX9_taxLine_0 ?_
  refine wX9_taxLine_1 ?_
  refine wX9_taxLine_2 (mX9_isAhead ?_)
  refine wX9_taxLine_5 hM.c (mX9_isWrong (g := mgA x) hM rfl (fun hc h2 hM ho2 => ?_) (fun hl hg h2 hM ho2 => ?_))
  · refine wX9_taxLine_8 (fun c8 => absurd c8 (by decide)) (fun c8 => ?_)
    refine wX9_taxLine_11 ?_
    refine wX9_taxLine_12 ?_
    refine wX9_taxLine_20  ?_
    exact hw hc _ hM ho2
  · have ho := ho.trans ho2
    have hO := hO hl
    have hg0 := hg
    obtain ⟨y, hy, rfl⟩ := mgA_of hg0
    refine wX9_taxLine_8 (fun c8 => ?_) (fun c8 => absurd rfl c8)
    refine wX9_taxLine_15 ?_
    refine wX9_taxLine_16 ?_
    refine wX9_taxLine_17 hM.c (mX9_lineIn hM hO.1.2 (by have := hO.1.1; omega) (by omega) ?_)
    refine wX9_taxLine_20  ?_
    exact hk hl hg y hy rfl _ hM ho
theorem mgN_of {t : Int32} {n : Nat} {N : Int32} (hn : n < 2147483647) (hN : N = nI n) (hg : rgL t.toInt64 0 N.toInt64 = true) : ∃ j, j < n + 1 ∧ t = nI j := by
  rw [rgL_0] at hg
  obtain ⟨j, hj, e⟩ := rg_of (n := nI (n + 1)) (k := n + 1) (Nat.le_refl _) (by omega) rfl (by rw [nI_pred, ← hN]; exact hg)
  exact ⟨j, hj, e⟩
theorem mX9_offer {a : Nat} {M : q_Mo} {x : Int32}  {w nt np nb : Nat} {P : Int32 → q_H → Option Nat → Prop} (hM : isM h a M) (hO : ¬ M.1 3 = 0 → okM M w nt np nb)  (hw : M.1 3 = 0 ∨ (rgL x.toInt64 0 4) = false → ∀ h2, isM h2 a (mS M 4 (mo_th M (rgL x.toInt64 0 4))) → q_out a 13 h h2 → P 0 h2 z) (hk : ¬ M.1 3 = 0 → (rgL x.toInt64 0 4) = true → ∀ y, y < 5 → x = nI y → ∀ h2, isM h2 a (mS M 4 0) → q_out a 13 h h2 → P (r_oo (m_r (mS M 4 0)) y) h2 z) : QMi V iX9_offer [.ref a, .int x] h z P Kx := by
  have ho : q_out a 13 h h := q_out.refl
  refine eX9_offer ?_
  refine wX9_offer_0 ?_
  refine wX9_offer_1 ?_
  refine wX9_offer_2 ?_
  refine wX9_offer_3 ?_
  refine wX9_offer_4 ?_
  refine wX9_offer_7 (mX9_isIn ?_)
  refine wX9_offer_10 hM.c (mX9_isWrong (g := rgL x.toInt64 0 4) hM rfl (fun hc h2 hM ho2 => ?_) (fun hl hg h2 hM ho2 => ?_))
  · refine wX9_offer_13 (fun c13 => absurd c13 (by decide)) (fun c13 => ?_)
    refine wX9_offer_16 ?_
    refine wX9_offer_17 ?_
    refine wX9_offer_25  ?_
    exact hw hc _ hM ho2
  · have ho := ho.trans ho2
    have hO := hO hl
    have hg0 := hg
    obtain ⟨y, hy, rfl⟩ := mgN_of (n := 4) (N := 4) (by decide) rfl hg0
    refine wX9_offer_13 (fun c13 => ?_) (fun c13 => absurd rfl c13)
    refine wX9_offer_20 ?_
    refine wX9_offer_21 ?_
    refine wX9_offer_22 hM.c (mX9_ofOffer hM hy ?_)
    refine wX9_offer_25  ?_
    exact hk hl hg y hy rfl _ hM ho
theorem mX9_charge {a : Nat} {M : q_Mo} {t : Int32} {x : Int32}  {w nt np nb : Nat} {P : Int32 → q_H → Option Nat → Prop} (hM : isM h a M) (hO : ¬ M.1 3 = 0 → okM M w nt np nb)  (hw : M.1 3 = 0 ∨ (mgT M t && mgA x) = false → ∀ h2, isM h2 a (mS M 4 (mo_th M (mgT M t && mgA x))) → q_out a 13 h h2 → P 0 h2 z) (hk : ¬ M.1 3 = 0 → (mgT M t && mgA x) = true → ∀ j, j < 4 → t = nI j → ∀ y, y < 12 → x = nI y → ∀ h2, isM h2 a (mS M 4 0) → q_out a 13 h h2 → P (r_ch (m_r (mS M 4 0)) np w j y) h2 z) : QMi V iX9_charge [.ref a, .int t, .int x] h z P Kx := by
  have ho : q_out a 13 h h := q_out.refl
  have hj : ∀ b9 : Int32, b9 = q_b (mgT M t && mgA x) → QW V iX9_charge 21 [some (.ref a), some (.int t), some (.int x)] [.int b9, .ref a] h z 0 0 (q_Ki P) Kx := by
    intro b9 hb9
    refine wX9_charge_21 hM.c (mX9_isWrong (g := mgT M t && mgA x) hM hb9 (fun hc h2 hM ho2 => ?_) (fun hl hg h2 hM ho2 => ?_))
    · refine wX9_charge_24 (fun c24 => absurd c24 (by decide)) (fun c24 => ?_)
      refine wX9_charge_27 ?_
      refine wX9_charge_28 ?_
      refine wX9_charge_37  ?_
      exact hw hc _ hM ho2
    · have ho := ho.trans ho2
      have hO := hO hl
      have hg0 := hg
      simp only [Bool.and_eq_true] at hg0
      obtain ⟨j, hj, rfl⟩ := mgT_of hO hg0.1
      obtain ⟨y, hy, rfl⟩ := mgA_of hg0.2
      have hO0 : okM (mS M 4 0) w nt np nb := okM_4 hO
      refine wX9_charge_24 (fun c24 => ?_) (fun c24 => absurd rfl c24)
      refine wX9_charge_31 ?_
      refine wX9_charge_32 ?_
      refine wX9_charge_33 ?_
      refine wX9_charge_34 hM.c (mX9_chargeOf hM hO0 hj (by omega) ?_)
      refine wX9_charge_37  ?_
      exact hk hl hg j hj rfl y hy rfl _ hM ho
  refine eX9_charge ?_
  refine wX9_charge_0 ?_
  refine wX9_charge_1 ?_
  refine wX9_charge_2 ?_
  refine wX9_charge_3 hM.c (mX9_isTeam hM ?_)
  refine wX9_charge_6 (fun c6 => ?_) (fun c6 => ?_)
  · refine wX9_charge_20 ?_
    first
      | (have p0 : (mgT M t) = true := q_b1 c6; have p1 : (mgA x) = true := q_b1 c13; exact hj _ (by simp only [p0, p1]; first | rfl | simp [q_b]))
      | (have p0 : (mgT M t) = true := q_b1 c6; have p1 : (mgA x) = false := q_b0 c13; exact hj _ (by simp only [p0, p1]; first | rfl | simp [q_b]))
      | (have p0 : (mgT M t) = false := q_b0 c6; exact hj _ (by simp only [p0]; first | rfl | simp [q_b]))
  · refine wX9_charge_9 ?_
    refine wX9_charge_10 (mX9_isAhead ?_)
    refine wX9_charge_13 (fun c13 => ?_) (fun c13 => ?_)
    · refine wX9_charge_20 ?_
      first
        | (have p0 : (mgT M t) = true := q_b1 c6; have p1 : (mgA x) = true := q_b1 c13; exact hj _ (by simp only [p0, p1]; first | rfl | simp [q_b]))
        | (have p0 : (mgT M t) = true := q_b1 c6; have p1 : (mgA x) = false := q_b0 c13; exact hj _ (by simp only [p0, p1]; first | rfl | simp [q_b]))
        | (have p0 : (mgT M t) = false := q_b0 c6; exact hj _ (by simp only [p0]; first | rfl | simp [q_b]))
    · refine wX9_charge_16 ?_
      refine wX9_charge_17 ?_
      first
        | (have p0 : (mgT M t) = true := q_b1 c6; have p1 : (mgA x) = true := q_b1 c13; exact hj _ (by simp only [p0, p1]; first | rfl | simp [q_b]))
        | (have p0 : (mgT M t) = true := q_b1 c6; have p1 : (mgA x) = false := q_b0 c13; exact hj _ (by simp only [p0, p1]; first | rfl | simp [q_b]))
        | (have p0 : (mgT M t) = false := q_b0 c6; exact hj _ (by simp only [p0]; first | rfl | simp [q_b]))
theorem mX9_deadMoney {a : Nat} {M : q_Mo} {t : Int32} {x : Int32}  {w nt np nb : Nat} {P : Int32 → q_H → Option Nat → Prop} (hM : isM h a M) (hO : ¬ M.1 3 = 0 → okM M w nt np nb)  (hw : M.1 3 = 0 ∨ (mgT M t && mgA x) = false → ∀ h2, isM h2 a (mS M 4 (mo_th M (mgT M t && mgA x))) → q_out a 13 h h2 → P 0 h2 z) (hk : ¬ M.1 3 = 0 → (mgT M t && mgA x) = true → ∀ j, j < 4 → t = nI j → ∀ y, y < 12 → x = nI y → ∀ h2, isM h2 a (mS M 4 0) → q_out a 13 h h2 → P (r_dd (m_r (mS M 4 0)) w j y) h2 z) : QMi V iX9_deadMoney [.ref a, .int t, .int x] h z P Kx := by
  have ho : q_out a 13 h h := q_out.refl
  have hj : ∀ b9 : Int32, b9 = q_b (mgT M t && mgA x) → QW V iX9_deadMoney 21 [some (.ref a), some (.int t), some (.int x)] [.int b9, .ref a] h z 0 0 (q_Ki P) Kx := by
    intro b9 hb9
    refine wX9_deadMoney_21 hM.c (mX9_isWrong (g := mgT M t && mgA x) hM hb9 (fun hc h2 hM ho2 => ?_) (fun hl hg h2 hM ho2 => ?_))
    · refine wX9_deadMoney_24 (fun c24 => absurd c24 (by decide)) (fun c24 => ?_)
      refine wX9_deadMoney_27 ?_
      refine wX9_deadMoney_28 ?_
      refine wX9_deadMoney_37  ?_
      exact hw hc _ hM ho2
    · have ho := ho.trans ho2
      have hO := hO hl
      have hg0 := hg
      simp only [Bool.and_eq_true] at hg0
      obtain ⟨j, hj, rfl⟩ := mgT_of hO hg0.1
      obtain ⟨y, hy, rfl⟩ := mgA_of hg0.2
      refine wX9_deadMoney_24 (fun c24 => ?_) (fun c24 => absurd rfl c24)
      refine wX9_deadMoney_31 ?_
      refine wX9_deadMoney_32 ?_
      refine wX9_deadMoney_33 ?_
      refine wX9_deadMoney_34 hM.c (mX9_deadIn hM hj hO.1.2 (by have := hO.1.1; omega) (by omega) ?_)
      refine wX9_deadMoney_37  ?_
      exact hk hl hg j hj rfl y hy rfl _ hM ho
  refine eX9_deadMoney ?_
  refine wX9_deadMoney_0 ?_
  refine wX9_deadMoney_1 ?_
  refine wX9_deadMoney_2 ?_
  refine wX9_deadMoney_3 hM.c (mX9_isTeam hM ?_)
  refine wX9_deadMoney_6 (fun c6 => ?_) (fun c6 => ?_)
  · refine wX9_deadMoney_20 ?_
    first
      | (have p0 : (mgT M t) = true := q_b1 c6; have p1 : (mgA x) = true := q_b1 c13; exact hj _ (by simp only [p0, p1]; first | rfl | simp [q_b]))
      | (have p0 : (mgT M t) = true := q_b1 c6; have p1 : (mgA x) = false := q_b0 c13; exact hj _ (by simp only [p0, p1]; first | rfl | simp [q_b]))
      | (have p0 : (mgT M t) = false := q_b0 c6; exact hj _ (by simp only [p0]; first | rfl | simp [q_b]))
  · refine wX9_deadMoney_9 ?_
    refine wX9_deadMoney_10 (mX9_isAhead ?_)
    refine wX9_deadMoney_13 (fun c13 => ?_) (fun c13 => ?_)
    · refine wX9_deadMoney_20 ?_
      first
        | (have p0 : (mgT M t) = true := q_b1 c6; have p1 : (mgA x) = true := q_b1 c13; exact hj _ (by simp only [p0, p1]; first | rfl | simp [q_b]))
        | (have p0 : (mgT M t) = true := q_b1 c6; have p1 : (mgA x) = false := q_b0 c13; exact hj _ (by simp only [p0, p1]; first | rfl | simp [q_b]))
        | (have p0 : (mgT M t) = false := q_b0 c6; exact hj _ (by simp only [p0]; first | rfl | simp [q_b]))
    · refine wX9_deadMoney_16 ?_
      refine wX9_deadMoney_17 ?_
      first
        | (have p0 : (mgT M t) = true := q_b1 c6; have p1 : (mgA x) = true := q_b1 c13; exact hj _ (by simp only [p0, p1]; first | rfl | simp [q_b]))
        | (have p0 : (mgT M t) = true := q_b1 c6; have p1 : (mgA x) = false := q_b0 c13; exact hj _ (by simp only [p0, p1]; first | rfl | simp [q_b]))
        | (have p0 : (mgT M t) = false := q_b0 c6; exact hj _ (by simp only [p0]; first | rfl | simp [q_b]))
theorem mX9_room {a : Nat} {M : q_Mo} {t : Int32}  {w nt np nb : Nat} {P : Int32 → q_H → Option Nat → Prop} (hM : isM h a M) (hO : ¬ M.1 3 = 0 → okM M w nt np nb)  (hw : M.1 3 = 0 ∨ (mgT M t) = false → ∀ h2, isM h2 a (mS M 4 (mo_th M (mgT M t))) → q_out a 13 h h2 → P 0 h2 z) (hk : ¬ M.1 3 = 0 → (mgT M t) = true → ∀ j, j < 4 → t = nI j → ∀ h2, isM h2 a (mS M 4 0) → q_out a 13 h h2 → P (r_room (mS M 4 0).1 (m_r (mS M 4 0)) np w j) h2 z) : QMi V iX9_room [.ref a, .int t] h z P Kx := by
  have ho : q_out a 13 h h := q_out.refl
  refine eX9_room ?_
  refine wX9_room_0 ?_
  refine wX9_room_1 ?_
  refine wX9_room_2 ?_
  refine wX9_room_3 hM.c (mX9_isTeam hM ?_)
  refine wX9_room_6 hM.c (mX9_isWrong (g := mgT M t) hM rfl (fun hc h2 hM ho2 => ?_) (fun hl hg h2 hM ho2 => ?_))
  · refine wX9_room_9 (fun c9 => absurd c9 (by decide)) (fun c9 => ?_)
    refine wX9_room_12 ?_
    refine wX9_room_13 ?_
    refine wX9_room_21  ?_
    exact hw hc _ hM ho2
  · have ho := ho.trans ho2
    have hO := hO hl
    have hg0 := hg
    obtain ⟨j, hj, rfl⟩ := mgT_of hO hg0
    have hO0 : okM (mS M 4 0) w nt np nb := okM_4 hO
    refine wX9_room_9 (fun c9 => ?_) (fun c9 => absurd rfl c9)
    refine wX9_room_16 ?_
    refine wX9_room_17 ?_
    refine wX9_room_18 hM.c (mX9_roomOf hM hO0 hj ?_)
    refine wX9_room_21  ?_
    exact hk hl hg j hj rfl _ hM ho
theorem mX9_tax {a : Nat} {M : q_Mo} {t : Int32}  {w nt np nb : Nat} {P : Int64 → q_H → Option Nat → Prop} (hM : isM h a M) (hO : ¬ M.1 3 = 0 → okM M w nt np nb)  (hw : M.1 3 = 0 ∨ (mgT M t) = false → ∀ h2, isM h2 a (mS M 4 (mo_th M (mgT M t))) → q_out a 13 h h2 → P 0 h2 z) (hk : ¬ M.1 3 = 0 → (mgT M t) = true → ∀ j, j < 4 → t = nI j → ∀ h2, isM h2 a (mS M 4 0) → q_out a 13 h h2 → P (r_tax (mS M 4 0) nb np w j) h2 z) : QMl V iX9_tax [.ref a, .int t] h z P Kx := by
  have ho : q_out a 13 h h := q_out.refl
  refine eX9_tax ?_
  refine wX9_tax_0 ?_
  refine wX9_tax_1 ?_
  refine wX9_tax_2 ?_
  refine wX9_tax_3 hM.c (mX9_isTeam hM ?_)
  refine wX9_tax_6 hM.c (mX9_isWrong (g := mgT M t) hM rfl (fun hc h2 hM ho2 => ?_) (fun hl hg h2 hM ho2 => ?_))
  · refine wX9_tax_9 (fun c9 => absurd c9 (by decide)) (fun c9 => ?_)
    refine wX9_tax_12 ?_
    refine wX9_tax_13 ?_
    refine wX9_tax_21  ?_
    exact hw hc _ hM ho2
  · have ho := ho.trans ho2
    have hO := hO hl
    have hg0 := hg
    obtain ⟨j, hj, rfl⟩ := mgT_of hO hg0
    have hO0 : okM (mS M 4 0) w nt np nb := okM_4 hO
    refine wX9_tax_9 (fun c9 => ?_) (fun c9 => absurd rfl c9)
    refine wX9_tax_16 ?_
    refine wX9_tax_17 ?_
    refine wX9_tax_18 hM.c (mX9_taxOf hM hO0 hj ?_)
    refine wX9_tax_21  ?_
    exact hk hl hg j hj rfl _ hM ho
theorem mX9_paid {a : Nat} {M : q_Mo} {t : Int32}  {w nt np nb : Nat} {P : Int64 → q_H → Option Nat → Prop} (hM : isM h a M) (hO : ¬ M.1 3 = 0 → okM M w nt np nb)  (hw : M.1 3 = 0 ∨ (mgT M t) = false → ∀ h2, isM h2 a (mS M 4 (mo_th M (mgT M t))) → q_out a 13 h h2 → P 0 h2 z) (hk : ¬ M.1 3 = 0 → (mgT M t) = true → ∀ j, j < 4 → t = nI j → ∀ h2, isM h2 a (mS M 4 0) → q_out a 13 h h2 → P (r_ot (m_r (mS M 4 0)) j 2) h2 z) : QMl V iX9_paid [.ref a, .int t] h z P Kx := by
  have ho : q_out a 13 h h := q_out.refl
  refine eX9_paid ?_
  refine wX9_paid_0 ?_
  refine wX9_paid_1 ?_
  refine wX9_paid_2 ?_
  refine wX9_paid_3 hM.c (mX9_isTeam hM ?_)
  refine wX9_paid_6 hM.c (mX9_isWrong (g := mgT M t) hM rfl (fun hc h2 hM ho2 => ?_) (fun hl hg h2 hM ho2 => ?_))
  · refine wX9_paid_9 (fun c9 => absurd c9 (by decide)) (fun c9 => ?_)
    refine wX9_paid_12 ?_
    refine wX9_paid_13 ?_
    refine wX9_paid_22  ?_
    exact hw hc _ hM ho2
  · have ho := ho.trans ho2
    have hO := hO hl
    have hg0 := hg
    obtain ⟨j, hj, rfl⟩ := mgT_of hO hg0
    refine wX9_paid_9 (fun c9 => ?_) (fun c9 => absurd rfl c9)
    refine wX9_paid_16 ?_
    refine wX9_paid_17 ?_
    refine wX9_paid_18 ?_
    refine wX9_paid_19 hM.c (mX9_ofTeam (w := 2) hM hj (by decide) ?_)
    refine wX9_paid_22  ?_
    exact hk hl hg j hj rfl _ hM ho
theorem mX9_taxedYears {a : Nat} {M : q_Mo} {t : Int32}  {w nt np nb : Nat} {P : Int32 → q_H → Option Nat → Prop} (hM : isM h a M) (hO : ¬ M.1 3 = 0 → okM M w nt np nb)  (hw : M.1 3 = 0 ∨ (mgT M t) = false → ∀ h2, isM h2 a (mS M 4 (mo_th M (mgT M t))) → q_out a 13 h h2 → P 0 h2 z) (hk : ¬ M.1 3 = 0 → (mgT M t) = true → ∀ j, j < 4 → t = nI j → ∀ h2, isM h2 a (mS M 4 0) → q_out a 13 h h2 → P ((r_ot (m_r (mS M 4 0)) j 1).toInt32) h2 z) : QMi V iX9_taxedYears [.ref a, .int t] h z P Kx := by
  have ho : q_out a 13 h h := q_out.refl
  refine eX9_taxedYears ?_
  refine wX9_taxedYears_0 ?_
  refine wX9_taxedYears_1 ?_
  refine wX9_taxedYears_2 ?_
  refine wX9_taxedYears_3 hM.c (mX9_isTeam hM ?_)
  refine wX9_taxedYears_6 hM.c (mX9_isWrong (g := mgT M t) hM rfl (fun hc h2 hM ho2 => ?_) (fun hl hg h2 hM ho2 => ?_))
  · refine wX9_taxedYears_9 (fun c9 => absurd c9 (by decide)) (fun c9 => ?_)
    refine wX9_taxedYears_12 ?_
    refine wX9_taxedYears_13 ?_
    refine wX9_taxedYears_21  ?_
    exact hw hc _ hM ho2
  · have ho := ho.trans ho2
    have hO := hO hl
    have hg0 := hg
    obtain ⟨j, hj, rfl⟩ := mgT_of hO hg0
    refine wX9_taxedYears_9 (fun c9 => ?_) (fun c9 => absurd rfl c9)
    refine wX9_taxedYears_16 ?_
    refine wX9_taxedYears_17 ?_
    refine wX9_taxedYears_18 hM.c (mX9_taxedOf hM hj ?_)
    refine wX9_taxedYears_21  ?_
    exact hk hl hg j hj rfl _ hM ho
theorem mX9_midLevel {a : Nat} {M : q_Mo} {t : Int32}  {w nt np nb : Nat} {P : Int32 → q_H → Option Nat → Prop} (hM : isM h a M) (hO : ¬ M.1 3 = 0 → okM M w nt np nb)  (hw : M.1 3 = 0 ∨ (mgT M t) = false → ∀ h2, isM h2 a (mS M 4 (mo_th M (mgT M t))) → q_out a 13 h h2 → P 0 h2 z) (hk : ¬ M.1 3 = 0 → (mgT M t) = true → ∀ j, j < 4 → t = nI j → ∀ h2, isM h2 a (mS M 4 0) → q_out a 13 h h2 → P ((r_ot (m_r (mS M 4 0)) j 0).toInt32) h2 z) : QMi V iX9_midLevel [.ref a, .int t] h z P Kx := by
  have ho : q_out a 13 h h := q_out.refl
  refine eX9_midLevel ?_
  refine wX9_midLevel_0 ?_
  refine wX9_midLevel_1 ?_
  refine wX9_midLevel_2 ?_
  refine wX9_midLevel_3 hM.c (mX9_isTeam hM ?_)
  refine wX9_midLevel_6 hM.c (mX9_isWrong (g := mgT M t) hM rfl (fun hc h2 hM ho2 => ?_) (fun hl hg h2 hM ho2 => ?_))
  · refine wX9_midLevel_9 (fun c9 => absurd c9 (by decide)) (fun c9 => ?_)
    refine wX9_midLevel_12 ?_
    refine wX9_midLevel_13 ?_
    refine wX9_midLevel_23  ?_
    exact hw hc _ hM ho2
  · have ho := ho.trans ho2
    have hO := hO hl
    have hg0 := hg
    obtain ⟨j, hj, rfl⟩ := mgT_of hO hg0
    refine wX9_midLevel_9 (fun c9 => ?_) (fun c9 => absurd rfl c9)
    refine wX9_midLevel_16 ?_
    refine wX9_midLevel_17 ?_
    refine wX9_midLevel_18 ?_
    refine wX9_midLevel_19 hM.c (mX9_ofTeam (w := 0) hM hj (by decide) ?_)
    refine wX9_midLevel_22 ?_
    refine wX9_midLevel_23  ?_
    exact hk hl hg j hj rfl _ hM ho
theorem mX9_roster {a : Nat} {M : q_Mo} {t : Int32}  {w nt np nb : Nat} {P : Int32 → q_H → Option Nat → Prop} (hM : isM h a M) (hO : ¬ M.1 3 = 0 → okM M w nt np nb)  (hw : M.1 3 = 0 ∨ (mgT M t) = false → ∀ h2, isM h2 a (mS M 4 (mo_th M (mgT M t))) → q_out a 13 h h2 → P 0 h2 z) (hk : ¬ M.1 3 = 0 → (mgT M t) = true → ∀ j, j < 4 → t = nI j → ∀ h2, isM h2 a (mS M 4 0) → q_out a 13 h h2 → P (r_set (m_r (mS M 4 0)) j np) h2 z) : QMi V iX9_roster [.ref a, .int t] h z P Kx := by
  have ho : q_out a 13 h h := q_out.refl
  refine eX9_roster ?_
  refine wX9_roster_0 ?_
  refine wX9_roster_1 ?_
  refine wX9_roster_2 ?_
  refine wX9_roster_3 hM.c (mX9_isTeam hM ?_)
  refine wX9_roster_6 hM.c (mX9_isWrong (g := mgT M t) hM rfl (fun hc h2 hM ho2 => ?_) (fun hl hg h2 hM ho2 => ?_))
  · refine wX9_roster_9 (fun c9 => absurd c9 (by decide)) (fun c9 => ?_)
    refine wX9_roster_12 ?_
    refine wX9_roster_13 ?_
    refine wX9_roster_21  ?_
    exact hw hc _ hM ho2
  · have ho := ho.trans ho2
    have hO := hO hl
    have hg0 := hg
    obtain ⟨j, hj, rfl⟩ := mgT_of hO hg0
    have hO0 : okM (mS M 4 0) w nt np nb := okM_4 hO
    refine wX9_roster_9 (fun c9 => ?_) (fun c9 => absurd rfl c9)
    refine wX9_roster_16 ?_
    refine wX9_roster_17 ?_
    refine wX9_roster_18 hM.c (mX9_rosterOf hM hO0 ?_)
    refine wX9_roster_21  ?_
    exact hk hl hg j hj rfl _ hM ho
theorem mX9_salary {a : Nat} {M : q_Mo} {p : Int32} {x : Int32}  {w nt np nb : Nat} {P : Int32 → q_H → Option Nat → Prop} (hM : isM h a M) (hO : ¬ M.1 3 = 0 → okM M w nt np nb)  (hw : M.1 3 = 0 ∨ (mgP M p && mgA x) = false → ∀ h2, isM h2 a (mS M 4 (mo_th M (mgP M p && mgA x))) → q_out a 13 h h2 → P 0 h2 z) (hk : ¬ M.1 3 = 0 → (mgP M p && mgA x) = true → ∀ i, i < 24 → p = nI i → ∀ y, y < 12 → x = nI y → ∀ h2, isM h2 a (mS M 4 0) → q_out a 13 h h2 → P (r_sl (m_r (mS M 4 0)) i (nI y)) h2 z) : QMi V iX9_salary [.ref a, .int p, .int x] h z P Kx := by
  have ho : q_out a 13 h h := q_out.refl
  have hj : ∀ b9 : Int32, b9 = q_b (mgP M p && mgA x) → QW V iX9_salary 21 [some (.ref a), some (.int p), some (.int x)] [.int b9, .ref a] h z 0 0 (q_Ki P) Kx := by
    intro b9 hb9
    refine wX9_salary_21 hM.c (mX9_isWrong (g := mgP M p && mgA x) hM hb9 (fun hc h2 hM ho2 => ?_) (fun hl hg h2 hM ho2 => ?_))
    · refine wX9_salary_24 (fun c24 => absurd c24 (by decide)) (fun c24 => ?_)
      refine wX9_salary_27 ?_
      refine wX9_salary_28 ?_
      refine wX9_salary_37  ?_
      exact hw hc _ hM ho2
    · have ho := ho.trans ho2
      have hO := hO hl
      have hg0 := hg
      simp only [Bool.and_eq_true] at hg0
      obtain ⟨i, hi, rfl⟩ := mgP_of hO hg0.1
      obtain ⟨y, hy, rfl⟩ := mgA_of hg0.2
      have hO0 : okM (mS M 4 0) w nt np nb := okM_4 hO
      refine wX9_salary_24 (fun c24 => ?_) (fun c24 => absurd rfl c24)
      refine wX9_salary_31 ?_
      refine wX9_salary_32 ?_
      refine wX9_salary_33 ?_
      refine wX9_salary_34 hM.c (mX9_salaryIn hM hi ?_)
      refine wX9_salary_37  ?_
      exact hk hl hg i hi rfl y hy rfl _ hM ho
  refine eX9_salary ?_
  refine wX9_salary_0 ?_
  refine wX9_salary_1 ?_
  refine wX9_salary_2 ?_
  refine wX9_salary_3 hM.c (mX9_isPlayer hM ?_)
  refine wX9_salary_6 (fun c6 => ?_) (fun c6 => ?_)
  · refine wX9_salary_20 ?_
    first
      | (have p0 : (mgP M p) = true := q_b1 c6; have p1 : (mgA x) = true := q_b1 c13; exact hj _ (by simp only [p0, p1]; first | rfl | simp [q_b]))
      | (have p0 : (mgP M p) = true := q_b1 c6; have p1 : (mgA x) = false := q_b0 c13; exact hj _ (by simp only [p0, p1]; first | rfl | simp [q_b]))
      | (have p0 : (mgP M p) = false := q_b0 c6; exact hj _ (by simp only [p0]; first | rfl | simp [q_b]))
  · refine wX9_salary_9 ?_
    refine wX9_salary_10 (mX9_isAhead ?_)
    refine wX9_salary_13 (fun c13 => ?_) (fun c13 => ?_)
    · refine wX9_salary_20 ?_
      first
        | (have p0 : (mgP M p) = true := q_b1 c6; have p1 : (mgA x) = true := q_b1 c13; exact hj _ (by simp only [p0, p1]; first | rfl | simp [q_b]))
        | (have p0 : (mgP M p) = true := q_b1 c6; have p1 : (mgA x) = false := q_b0 c13; exact hj _ (by simp only [p0, p1]; first | rfl | simp [q_b]))
        | (have p0 : (mgP M p) = false := q_b0 c6; exact hj _ (by simp only [p0]; first | rfl | simp [q_b]))
    · refine wX9_salary_16 ?_
      refine wX9_salary_17 ?_
      first
        | (have p0 : (mgP M p) = true := q_b1 c6; have p1 : (mgA x) = true := q_b1 c13; exact hj _ (by simp only [p0, p1]; first | rfl | simp [q_b]))
        | (have p0 : (mgP M p) = true := q_b1 c6; have p1 : (mgA x) = false := q_b0 c13; exact hj _ (by simp only [p0, p1]; first | rfl | simp [q_b]))
        | (have p0 : (mgP M p) = false := q_b0 c6; exact hj _ (by simp only [p0]; first | rfl | simp [q_b]))
theorem mX9_share {a : Nat} {M : q_Mo} {p : Int32} {x : Int32}  {w nt np nb : Nat} {P : Int32 → q_H → Option Nat → Prop} (hM : isM h a M) (hO : ¬ M.1 3 = 0 → okM M w nt np nb)  (hw : M.1 3 = 0 ∨ (mgP M p && mgA x) = false → ∀ h2, isM h2 a (mS M 4 (mo_th M (mgP M p && mgA x))) → q_out a 13 h h2 → P 0 h2 z) (hk : ¬ M.1 3 = 0 → (mgP M p && mgA x) = true → ∀ i, i < 24 → p = nI i → ∀ y, y < 12 → x = nI y → ∀ h2, isM h2 a (mS M 4 0) → q_out a 13 h h2 → P (r_sh (m_r (mS M 4 0)) i (nI y)) h2 z) : QMi V iX9_share [.ref a, .int p, .int x] h z P Kx := by
  have ho : q_out a 13 h h := q_out.refl
  have hj : ∀ b9 : Int32, b9 = q_b (mgP M p && mgA x) → QW V iX9_share 21 [some (.ref a), some (.int p), some (.int x)] [.int b9, .ref a] h z 0 0 (q_Ki P) Kx := by
    intro b9 hb9
    refine wX9_share_21 hM.c (mX9_isWrong (g := mgP M p && mgA x) hM hb9 (fun hc h2 hM ho2 => ?_) (fun hl hg h2 hM ho2 => ?_))
    · refine wX9_share_24 (fun c24 => absurd c24 (by decide)) (fun c24 => ?_)
      refine wX9_share_27 ?_
      refine wX9_share_28 ?_
      refine wX9_share_37  ?_
      exact hw hc _ hM ho2
    · have ho := ho.trans ho2
      have hO := hO hl
      have hg0 := hg
      simp only [Bool.and_eq_true] at hg0
      obtain ⟨i, hi, rfl⟩ := mgP_of hO hg0.1
      obtain ⟨y, hy, rfl⟩ := mgA_of hg0.2
      have hO0 : okM (mS M 4 0) w nt np nb := okM_4 hO
      refine wX9_share_24 (fun c24 => ?_) (fun c24 => absurd rfl c24)
      refine wX9_share_31 ?_
      refine wX9_share_32 ?_
      refine wX9_share_33 ?_
      refine wX9_share_34 hM.c (mX9_shareIn hM hi (hO0.2.2.2.2.2 i hi) ?_)
      refine wX9_share_37  ?_
      exact hk hl hg i hi rfl y hy rfl _ hM ho
  refine eX9_share ?_
  refine wX9_share_0 ?_
  refine wX9_share_1 ?_
  refine wX9_share_2 ?_
  refine wX9_share_3 hM.c (mX9_isPlayer hM ?_)
  refine wX9_share_6 (fun c6 => ?_) (fun c6 => ?_)
  · refine wX9_share_20 ?_
    first
      | (have p0 : (mgP M p) = true := q_b1 c6; have p1 : (mgA x) = true := q_b1 c13; exact hj _ (by simp only [p0, p1]; first | rfl | simp [q_b]))
      | (have p0 : (mgP M p) = true := q_b1 c6; have p1 : (mgA x) = false := q_b0 c13; exact hj _ (by simp only [p0, p1]; first | rfl | simp [q_b]))
      | (have p0 : (mgP M p) = false := q_b0 c6; exact hj _ (by simp only [p0]; first | rfl | simp [q_b]))
  · refine wX9_share_9 ?_
    refine wX9_share_10 (mX9_isAhead ?_)
    refine wX9_share_13 (fun c13 => ?_) (fun c13 => ?_)
    · refine wX9_share_20 ?_
      first
        | (have p0 : (mgP M p) = true := q_b1 c6; have p1 : (mgA x) = true := q_b1 c13; exact hj _ (by simp only [p0, p1]; first | rfl | simp [q_b]))
        | (have p0 : (mgP M p) = true := q_b1 c6; have p1 : (mgA x) = false := q_b0 c13; exact hj _ (by simp only [p0, p1]; first | rfl | simp [q_b]))
        | (have p0 : (mgP M p) = false := q_b0 c6; exact hj _ (by simp only [p0]; first | rfl | simp [q_b]))
    · refine wX9_share_16 ?_
      refine wX9_share_17 ?_
      first
        | (have p0 : (mgP M p) = true := q_b1 c6; have p1 : (mgA x) = true := q_b1 c13; exact hj _ (by simp only [p0, p1]; first | rfl | simp [q_b]))
        | (have p0 : (mgP M p) = true := q_b1 c6; have p1 : (mgA x) = false := q_b0 c13; exact hj _ (by simp only [p0, p1]; first | rfl | simp [q_b]))
        | (have p0 : (mgP M p) = false := q_b0 c6; exact hj _ (by simp only [p0]; first | rfl | simp [q_b]))
def r_cost (r : Nat → Int64) (p : Nat) : Int32 := r_sl r p 0 + r_sh r p 0
theorem mX9_costNow {a : Nat} {M : q_Mo} {p : Nat} {P : Int32 → q_H → Option Nat → Prop} (hM : isM h a M) (hp : p < 24) (hn : r_has (m_r M) p = true → ¬ r_op (m_r M) p 5 = 0) (hk : P (r_cost (m_r M) p) h z) : QMi V iX9_costNow [.ref a, .int (nI p)] h z P Kx := by
  refine eX9_costNow ?_
  refine wX9_costNow_0 ?_
  refine wX9_costNow_1 ?_
  refine wX9_costNow_2 ?_
  refine wX9_costNow_3 hM.c (mX9_salaryIn hM hp ?_)
  refine wX9_costNow_6 ?_
  refine wX9_costNow_7 ?_
  refine wX9_costNow_8 ?_
  refine wX9_costNow_9 hM.c (mX9_shareIn hM hp hn ?_)
  refine wX9_costNow_12 ?_
  refine wX9_costNow_13  ?_
  exact hk
def r_ms (M : q_Mo) (nb np w t : Nat) (x : Int32) : Int64 :=
  if x = 0 then (r_ch (m_r M) np w t 0).toInt64 else if x = 1 then (r_room M.1 (m_r M) np w t).toInt64 else if x = 2 then (r_dd (m_r M) w t 0).toInt64
  else if x = 3 then r_tax M nb np w t else (r_ty (r_set (m_r M) t np) 24).toInt64
def r_tb (M : q_Mo) (nb np w t : Nat) (x : Int32) : Nat → Int32
  | 0 => 0
  | k + 1 => r_tb M nb np w t x k + (if 0 < r_ms M nb np w k x - r_ms M nb np w t x ∨ (r_ms M nb np w k x - r_ms M nb np w t x = 0 ∧ k < t) then 1 else 0)
def r_pb (r : Nat → Int64) (p : Nat) : Nat → Int32
  | 0 => 0
  | k + 1 => r_pb r p k + (if r_has r k = true ∧ (0 < r_cost r k - r_cost r p ∨ (r_cost r k - r_cost r p = 0 ∧ k < p)) then 1 else 0)
theorem mX9_measure {a : Nat} {M : q_Mo} {t : Nat} {x : Int32} {w nt np nb : Nat} {P : Int64 → q_H → Option Nat → Prop} (hM : isM h a M) (hO : okM M w nt np nb) (ht : t < 4) (hk : P (r_ms M nb np w t x) h z) : QMl V iX9_measure [.ref a, .int (nI t), .int x] h z P Kx := by
  refine eX9_measure ?_
  refine wX9_measure_0 ?_
  refine wX9_measure_1 (fun c1 => ?_) (fun c1 => ?_) (fun c1 => ?_) (fun c1 => ?_) (fun c1 => ?_)
  · refine wX9_measure_32 ?_
    refine wX9_measure_33 ?_
    refine wX9_measure_34 ?_
    refine wX9_measure_35 hM.c (mX9_chargeOf (x := 0) hM hO ht (by decide) ?_)
    refine wX9_measure_38 ?_
    refine wX9_measure_39  ?_
    subst c1; rw [r_ms, if_pos rfl] at hk; exact hk
  · refine wX9_measure_40 ?_
    refine wX9_measure_41 ?_
    refine wX9_measure_42 hM.c (mX9_roomOf hM hO ht ?_)
    refine wX9_measure_45 ?_
    refine wX9_measure_46  ?_
    subst c1; rw [r_ms, if_neg (by decide), if_pos rfl] at hk; exact hk
  · refine wX9_measure_47 ?_
    refine wX9_measure_48 ?_
    refine wX9_measure_49 ?_
    refine wX9_measure_50 hM.c (mX9_deadIn (x := 0) hM ht hO.1.2 (by have := hO.1.1; omega) (by decide) ?_)
    refine wX9_measure_53 ?_
    refine wX9_measure_54  ?_
    subst c1; rw [r_ms, if_neg (by decide), if_neg (by decide), if_pos rfl] at hk; exact hk
  · refine wX9_measure_55 ?_
    refine wX9_measure_56 ?_
    refine wX9_measure_57 hM.c (mX9_taxOf hM hO ht ?_)
    refine wX9_measure_60  ?_
    subst c1; rw [r_ms, if_neg (by decide), if_neg (by decide), if_neg (by decide), if_pos rfl] at hk; exact hk
  · refine wX9_measure_61 ?_
    refine wX9_measure_62 ?_
    refine wX9_measure_63 hM.c (mX9_rosterOf hM hO ?_)
    refine wX9_measure_66 (mX9_many ?_)
    refine wX9_measure_69 ?_
    refine wX9_measure_70  ?_
    rw [r_ms, if_neg (by rintro rfl; exact absurd c1 (by decide)), if_neg (by rintro rfl; exact absurd c1 (by decide)), if_neg (by rintro rfl; exact absurd c1 (by decide)), if_neg (by rintro rfl; exact absurd c1 (by decide))] at hk; exact hk
theorem mX9_teamRank {a : Nat} {M : q_Mo} {x : Int32} {q : Int32}  {w nt np nb : Nat} {P : Int32 → q_H → Option Nat → Prop} (hM : isM h a M) (hO : ¬ M.1 3 = 0 → okM M w nt np nb)  (hw : M.1 3 = 0 ∨ (rgL x.toInt64 0 4 && decide (0 ≤ q)) = false → ∀ h2, isM h2 a (mS M 4 (mo_th M (rgL x.toInt64 0 4 && decide (0 ≤ q)))) → q_out a 13 h h2 → P 0 h2 z) (hk : ¬ M.1 3 = 0 → (rgL x.toInt64 0 4 && decide (0 ≤ q)) = true → ∀ t, t < nt → (∀ s, s < t → ¬ r_tb (mS M 4 0) nb np w s x nt = q) → r_tb (mS M 4 0) nb np w t x nt = q → ∀ h2, isM h2 a (mS M 4 0) → q_out a 13 h h2 → P (nI t) h2 z) (hk3 : ¬ M.1 3 = 0 → (rgL x.toInt64 0 4 && decide (0 ≤ q)) = true → (∀ s, s < nt → ¬ r_tb (mS M 4 0) nb np w s x nt = q) → ∀ h2, isM h2 a (mS M 4 3) → q_out a 13 h h2 → P 0 h2 z) : QMi V iX9_teamRank [.ref a, .int x, .int q] h z P Kx := by
  have ho : q_out a 13 h h := q_out.refl
  have hj : ∀ b9 : Int32, b9 = q_b (rgL x.toInt64 0 4 && decide (0 ≤ q)) → QW V iX9_teamRank 22 [some (.ref a), some (.int x), some (.int q), none, none, none, none, none] [.int b9, .ref a] h z 0 0 (q_Ki P) Kx := by
    intro b9 hb9
    refine wX9_teamRank_22 hM.c (mX9_isWrong (g := rgL x.toInt64 0 4 && decide (0 ≤ q)) hM hb9 (fun hc h2 hM ho2 => ?_) (fun hl hg h2 hM ho2 => ?_))
    · refine wX9_teamRank_25 (fun c25 => absurd c25 (by decide)) (fun c25 => ?_)
      refine wX9_teamRank_28 ?_
      refine wX9_teamRank_29  ?_
      exact hw hc _ hM ho2
    · have ho := ho.trans ho2
      have hO := hO hl
      have hO0 : okM (mS M 4 0) w nt np nb := okM_4 hO
      have hnt := hO.2.1.1
      have hnnt := hO.2.1.2
      refine wX9_teamRank_25 (fun c25 => ?_) (fun c25 => absurd rfl c25)
      refine wX9_teamRank_30 ?_
      refine wX9_teamRank_31 ?_
      refine q_for (P := fun t => (∀ s, s < t → ¬ r_tb (mS M 4 0) nb np w s x nt = q) → QW V iX9_teamRank 32 [some (.ref a), some (.int x), some (.int q), some (.int (nI t)), none, none, none, none] [] h2 z 0 0 (q_Ki P) Kx) nt ?_ ?_ (fun s hs => absurd hs (by omega))
      · intro hne
        refine wX9_teamRank_32 ?_
        refine wX9_teamRank_33 ?_
        refine wX9_teamRank_34 hM.c ?_
        refine wX9_teamRank_37 (fun c37 => ?_) (fun c37 => absurd (nI_leq hnnt (Nat.le_refl _) (by omega)) c37)
        refine wX9_teamRank_121 ?_
        refine wX9_teamRank_122 ?_
        refine wX9_teamRank_123 hM.c ?_
        refine q_sx (k := 4) hM ho (fun h2 hM ho => ?_)
        refine wX9_teamRank_126 ?_
        refine wX9_teamRank_127  ?_
        exact hk3 hl hg hne _ (hM.e mS_2) ho
      · intro t htn ih hne
        have ht4 : t < 4 := by omega
        refine wX9_teamRank_32 ?_
        refine wX9_teamRank_33 ?_
        refine wX9_teamRank_34 hM.c ?_
        refine wX9_teamRank_37 (fun c37 => absurd c37 (nI_geq hnnt htn (by omega))) (fun c37 => ?_)
        refine wX9_teamRank_40 ?_
        refine wX9_teamRank_41 ?_
        refine wX9_teamRank_43 ?_
        refine wX9_teamRank_44 ?_
        refine q_for (P := fun k => QW V iX9_teamRank 46 [some (.ref a), some (.int x), some (.int q), some (.int (nI t)), some (.int (r_tb (mS M 4 0) nb np w t x k)), some (.int (nI k)), none, none] [] h2 z 0 0 (q_Ki P) Kx) nt ?_ (fun k hkn ih2 => ?_)
        · refine wX9_teamRank_46 ?_
          refine wX9_teamRank_48 ?_
          refine wX9_teamRank_49 hM.c ?_
          refine wX9_teamRank_52 (fun c52 => ?_) (fun c52 => absurd (nI_leq hnnt (Nat.le_refl _) (by omega)) c52)
          refine wX9_teamRank_107 ?_
          refine wX9_teamRank_109 ?_
          refine wX9_teamRank_110 (fun c110 => ?_) (fun c110 => ?_)
          · refine wX9_teamRank_115 ?_
            refine wX9_teamRank_118 ?_
            refine q_drp 4 (q_drp 5 (q_ls ?_ (ih (fun s hs => ?_))))
            · rw [nI_1]; try rfl
            · by_cases e : s = t
              · rw [e]; exact c110
              · exact hne s (by omega)
          · refine wX9_teamRank_113 ?_
            refine wX9_teamRank_114  ?_
            exact hk hl hg t htn hne c110 _ hM ho
        · have hk4 : k < 4 := by omega
          refine wX9_teamRank_46 ?_
          refine wX9_teamRank_48 ?_
          refine wX9_teamRank_49 hM.c ?_
          refine wX9_teamRank_52 (fun c52 => absurd c52 (nI_geq hnnt hkn (by omega))) (fun c52 => ?_)
          refine wX9_teamRank_55 ?_
          refine wX9_teamRank_56 ?_
          refine wX9_teamRank_58 ?_
          refine wX9_teamRank_59 hM.c (mX9_measure hM hO0 hk4 ?_)
          refine wX9_teamRank_62 ?_
          refine wX9_teamRank_63 ?_
          refine wX9_teamRank_64 ?_
          refine wX9_teamRank_65 hM.c (mX9_measure hM hO0 ht4 ?_)
          refine wX9_teamRank_68 ?_
          refine wX9_teamRank_69 ?_
          refine wX9_teamRank_71 ?_
          refine wX9_teamRank_73 ?_
          refine wX9_teamRank_75 ?_
          refine wX9_teamRank_76 (fun c76 => ?_) (fun c76 => ?_)
          · refine wX9_teamRank_93 ?_
            refine wX9_teamRank_94 ?_
            refine wX9_teamRank_98 ?_
            refine wX9_teamRank_99 ?_
            refine wX9_teamRank_101 ?_
            refine wX9_teamRank_104 ?_
            refine q_drp 6 (q_ls ?_ ih2)
            rw [nI_1]
            first
              | (have q9 : (0 : Int64) < r_ms (mS M 4 0) nb np w k x - r_ms (mS M 4 0) nb np w t x := c76; rw [r_tb, if_pos (Or.inl q9)]; try rfl)
              | (have q9 : nI t ≤ nI k := c90; rw [r_tb, if_neg (fun z => z.elim c76 (fun z => (nI_ge z.2 (by omega)) q9))]; try rfl)
              | (have q9 : ¬ nI t ≤ nI k := c90; rw [r_tb, if_pos (Or.inr ⟨c83, nI_lto (by omega) (Int32.not_le.mp q9)⟩)]; try rfl)
              | (have q9 : ¬ r_ms (mS M 4 0) nb np w k x - r_ms (mS M 4 0) nb np w t x = 0 := c83; rw [r_tb, if_neg (fun z => z.elim c76 (fun z => q9 z.1))]; try rfl)
          · refine wX9_teamRank_80 ?_
            refine wX9_teamRank_82 ?_
            refine wX9_teamRank_83 (fun c83 => ?_) (fun c83 => ?_)
            · refine wX9_teamRank_97 ?_
              refine wX9_teamRank_98 ?_
              refine wX9_teamRank_99 ?_
              refine wX9_teamRank_101 ?_
              refine wX9_teamRank_104 ?_
              refine q_drp 6 (q_ls ?_ ih2)
              rw [nI_1]
              first
                | (have q9 : (0 : Int64) < r_ms (mS M 4 0) nb np w k x - r_ms (mS M 4 0) nb np w t x := c76; rw [r_tb, if_pos (Or.inl q9)]; try rfl)
                | (have q9 : nI t ≤ nI k := c90; rw [r_tb, if_neg (fun z => z.elim c76 (fun z => (nI_ge z.2 (by omega)) q9))]; try rfl)
                | (have q9 : ¬ nI t ≤ nI k := c90; rw [r_tb, if_pos (Or.inr ⟨c83, nI_lto (by omega) (Int32.not_le.mp q9)⟩)]; try rfl)
                | (have q9 : ¬ r_ms (mS M 4 0) nb np w k x - r_ms (mS M 4 0) nb np w t x = 0 := c83; rw [r_tb, if_neg (fun z => z.elim c76 (fun z => q9 z.1))]; try rfl)
            · refine wX9_teamRank_87 ?_
              refine wX9_teamRank_89 ?_
              refine wX9_teamRank_90 (fun c90 => ?_) (fun c90 => ?_)
              · refine wX9_teamRank_97 ?_
                refine wX9_teamRank_98 ?_
                refine wX9_teamRank_99 ?_
                refine wX9_teamRank_101 ?_
                refine wX9_teamRank_104 ?_
                refine q_drp 6 (q_ls ?_ ih2)
                rw [nI_1]
                first
                  | (have q9 : (0 : Int64) < r_ms (mS M 4 0) nb np w k x - r_ms (mS M 4 0) nb np w t x := c76; rw [r_tb, if_pos (Or.inl q9)]; try rfl)
                  | (have q9 : nI t ≤ nI k := c90; rw [r_tb, if_neg (fun z => z.elim c76 (fun z => (nI_ge z.2 (by omega)) q9))]; try rfl)
                  | (have q9 : ¬ nI t ≤ nI k := c90; rw [r_tb, if_pos (Or.inr ⟨c83, nI_lto (by omega) (Int32.not_le.mp q9)⟩)]; try rfl)
                  | (have q9 : ¬ r_ms (mS M 4 0) nb np w k x - r_ms (mS M 4 0) nb np w t x = 0 := c83; rw [r_tb, if_neg (fun z => z.elim c76 (fun z => q9 z.1))]; try rfl)
              · refine wX9_teamRank_93 ?_
                refine wX9_teamRank_94 ?_
                refine wX9_teamRank_98 ?_
                refine wX9_teamRank_99 ?_
                refine wX9_teamRank_101 ?_
                refine wX9_teamRank_104 ?_
                refine q_drp 6 (q_ls ?_ ih2)
                rw [nI_1]
                first
                  | (have q9 : (0 : Int64) < r_ms (mS M 4 0) nb np w k x - r_ms (mS M 4 0) nb np w t x := c76; rw [r_tb, if_pos (Or.inl q9)]; try rfl)
                  | (have q9 : nI t ≤ nI k := c90; rw [r_tb, if_neg (fun z => z.elim c76 (fun z => (nI_ge z.2 (by omega)) q9))]; try rfl)
                  | (have q9 : ¬ nI t ≤ nI k := c90; rw [r_tb, if_pos (Or.inr ⟨c83, nI_lto (by omega) (Int32.not_le.mp q9)⟩)]; try rfl)
                  | (have q9 : ¬ r_ms (mS M 4 0) nb np w k x - r_ms (mS M 4 0) nb np w t x = 0 := c83; rw [r_tb, if_neg (fun z => z.elim c76 (fun z => q9 z.1))]; try rfl)
  refine eX9_teamRank ?_
  refine wX9_teamRank_0 ?_
  refine wX9_teamRank_1 ?_
  refine wX9_teamRank_2 ?_
  refine wX9_teamRank_3 ?_
  refine wX9_teamRank_4 ?_
  refine wX9_teamRank_7 (mX9_isIn ?_)
  refine wX9_teamRank_10 (fun c10 => ?_) (fun c10 => ?_)
  · refine wX9_teamRank_21 ?_
    first
      | (have p0 : (rgL x.toInt64 0 4) = true := q_b1 c10; have p1 : (decide (0 ≤ q)) = true := decide_eq_true (Int32.not_lt.mp c14); exact hj _ (by simp only [p0, p1]; first | rfl | simp [q_b]))
      | (have p0 : (rgL x.toInt64 0 4) = true := q_b1 c10; have p1 : (decide (0 ≤ q)) = false := decide_eq_false (fun z => Int32.not_lt.mpr z c14); exact hj _ (by simp only [p0, p1]; first | rfl | simp [q_b]))
      | (have p0 : (rgL x.toInt64 0 4) = false := q_b0 c10; exact hj _ (by simp only [p0]; first | rfl | simp [q_b]))
  · refine wX9_teamRank_13 ?_
    refine wX9_teamRank_14 (fun c14 => ?_) (fun c14 => ?_)
    · refine wX9_teamRank_21 ?_
      first
        | (have p0 : (rgL x.toInt64 0 4) = true := q_b1 c10; have p1 : (decide (0 ≤ q)) = true := decide_eq_true (Int32.not_lt.mp c14); exact hj _ (by simp only [p0, p1]; first | rfl | simp [q_b]))
        | (have p0 : (rgL x.toInt64 0 4) = true := q_b1 c10; have p1 : (decide (0 ≤ q)) = false := decide_eq_false (fun z => Int32.not_lt.mpr z c14); exact hj _ (by simp only [p0, p1]; first | rfl | simp [q_b]))
        | (have p0 : (rgL x.toInt64 0 4) = false := q_b0 c10; exact hj _ (by simp only [p0]; first | rfl | simp [q_b]))
    · refine wX9_teamRank_17 ?_
      refine wX9_teamRank_18 ?_
      first
        | (have p0 : (rgL x.toInt64 0 4) = true := q_b1 c10; have p1 : (decide (0 ≤ q)) = true := decide_eq_true (Int32.not_lt.mp c14); exact hj _ (by simp only [p0, p1]; first | rfl | simp [q_b]))
        | (have p0 : (rgL x.toInt64 0 4) = true := q_b1 c10; have p1 : (decide (0 ≤ q)) = false := decide_eq_false (fun z => Int32.not_lt.mpr z c14); exact hj _ (by simp only [p0, p1]; first | rfl | simp [q_b]))
        | (have p0 : (rgL x.toInt64 0 4) = false := q_b0 c10; exact hj _ (by simp only [p0]; first | rfl | simp [q_b]))
theorem mX9_playerRank {a : Nat} {M : q_Mo} {q : Int32}  {w nt np nb : Nat} {P : Int32 → q_H → Option Nat → Prop} (hM : isM h a M) (hO : ¬ M.1 3 = 0 → okM M w nt np nb)  (hw : M.1 3 = 0 ∨ (decide (0 ≤ q)) = false → ∀ h2, isM h2 a (mS M 4 (mo_th M (decide (0 ≤ q)))) → q_out a 13 h h2 → P 0 h2 z) (hk : ¬ M.1 3 = 0 → (decide (0 ≤ q)) = true → ∀ t, t < np → (∀ s, s < t → ¬ (r_has (m_r (mS M 4 0)) s = true ∧ r_pb (m_r (mS M 4 0)) s np = q)) → r_has (m_r (mS M 4 0)) t = true → r_pb (m_r (mS M 4 0)) t np = q → ∀ h2, isM h2 a (mS M 4 0) → q_out a 13 h h2 → P (nI t) h2 z) (hk3 : ¬ M.1 3 = 0 → (decide (0 ≤ q)) = true → (∀ s, s < np → ¬ (r_has (m_r (mS M 4 0)) s = true ∧ r_pb (m_r (mS M 4 0)) s np = q)) → ∀ h2, isM h2 a (mS M 4 3) → q_out a 13 h h2 → P 0 h2 z) : QMi V iX9_playerRank [.ref a, .int q] h z P Kx := by
  have ho : q_out a 13 h h := q_out.refl
  have hj : ∀ b9 : Int32, b9 = q_b (decide (0 ≤ q)) → QW V iX9_playerRank 10 [some (.ref a), some (.int q), none, none, none, none] [.int b9, .ref a] h z 0 0 (q_Ki P) Kx := by
    intro b9 hb9
    refine wX9_playerRank_10 hM.c (mX9_isWrong (g := decide (0 ≤ q)) hM hb9 (fun hc h2 hM ho2 => ?_) (fun hl hg h2 hM ho2 => ?_))
    · refine wX9_playerRank_13 (fun c13 => absurd c13 (by decide)) (fun c13 => ?_)
      refine wX9_playerRank_16 ?_
      refine wX9_playerRank_17  ?_
      exact hw hc _ hM ho2
    · have ho := ho.trans ho2
      have hO := hO hl
      have hO0 : okM (mS M 4 0) w nt np nb := okM_4 hO
      have hnp := hO.2.2.1.1
      have hnnp := hO.2.2.1.2
      refine wX9_playerRank_13 (fun c13 => ?_) (fun c13 => absurd rfl c13)
      refine wX9_playerRank_18 ?_
      refine wX9_playerRank_19 ?_
      refine q_for (P := fun t => (∀ s, s < t → ¬ (r_has (m_r (mS M 4 0)) s = true ∧ r_pb (m_r (mS M 4 0)) s np = q)) → QW V iX9_playerRank 20 [some (.ref a), some (.int q), some (.int (nI t)), none, none, none] [] h2 z 0 0 (q_Ki P) Kx) np ?_ ?_ (fun s hs => absurd hs (by omega))
      · intro hne
        refine wX9_playerRank_20 ?_
        refine wX9_playerRank_21 ?_
        refine wX9_playerRank_22 hM.c ?_
        refine wX9_playerRank_25 (fun c25 => ?_) (fun c25 => absurd (nI_leq hnnp (Nat.le_refl _) (by omega)) c25)
        refine wX9_playerRank_116 ?_
        refine wX9_playerRank_117 ?_
        refine wX9_playerRank_118 hM.c ?_
        refine q_sx (k := 4) hM ho (fun h2 hM ho => ?_)
        refine wX9_playerRank_121 ?_
        refine wX9_playerRank_122  ?_
        exact hk3 hl hg hne _ (hM.e mS_2) ho
      · intro t htn ih hne
        have ht24 : t < 24 := by omega
        refine wX9_playerRank_20 ?_
        refine wX9_playerRank_21 ?_
        refine wX9_playerRank_22 hM.c ?_
        refine wX9_playerRank_25 (fun c25 => absurd c25 (nI_geq hnnp htn (by omega))) (fun c25 => ?_)
        refine wX9_playerRank_28 ?_
        refine wX9_playerRank_29 ?_
        refine wX9_playerRank_30 ?_
        refine wX9_playerRank_31 ?_
        refine q_for (P := fun k => QW V iX9_playerRank 33 [some (.ref a), some (.int q), some (.int (nI t)), some (.int (r_pb (m_r (mS M 4 0)) t k)), some (.int (nI k)), none] [] h2 z 0 0 (q_Ki P) Kx) np ?_ (fun k hkn ih2 => ?_)
        · refine wX9_playerRank_33 ?_
          refine wX9_playerRank_35 ?_
          refine wX9_playerRank_36 hM.c ?_
          refine wX9_playerRank_39 (fun c39 => ?_) (fun c39 => absurd (nI_leq hnnp (Nat.le_refl _) (by omega)) c39)
          refine wX9_playerRank_95 ?_
          refine wX9_playerRank_96 ?_
          refine wX9_playerRank_97 hM.c (mX9_hasContract hM ht24 ?_)
          refine wX9_playerRank_100 (fun c100 => ?_) (fun c100 => ?_)
          · refine wX9_playerRank_110 ?_
            refine wX9_playerRank_113 ?_
            refine q_drp 3 (q_drp 4 (q_ls ?_ (ih (fun s hs => ?_))))
            · rw [nI_1]; try rfl
            · by_cases e : s = t
              · rw [e]
                first
                  | (have q9 := q_b0 c100; exact fun z => by rw [q9] at z; cases z.1)
                  | (have q9 := c105; exact fun z => q9 z.2)
              · exact hne s (by omega)
          · refine wX9_playerRank_103 ?_
            refine wX9_playerRank_104 ?_
            refine wX9_playerRank_105 (fun c105 => ?_) (fun c105 => ?_)
            · refine wX9_playerRank_110 ?_
              refine wX9_playerRank_113 ?_
              refine q_drp 3 (q_drp 4 (q_ls ?_ (ih (fun s hs => ?_))))
              · rw [nI_1]; try rfl
              · by_cases e : s = t
                · rw [e]
                  first
                    | (have q9 := q_b0 c100; exact fun z => by rw [q9] at z; cases z.1)
                    | (have q9 := c105; exact fun z => q9 z.2)
                · exact hne s (by omega)
            · refine wX9_playerRank_108 ?_
              refine wX9_playerRank_109  ?_
              exact hk hl hg t htn hne (q_b1 c100) c105 _ hM ho
        · have hk24 : k < 24 := by omega
          refine wX9_playerRank_33 ?_
          refine wX9_playerRank_35 ?_
          refine wX9_playerRank_36 hM.c ?_
          refine wX9_playerRank_39 (fun c39 => absurd c39 (nI_geq hnnp hkn (by omega))) (fun c39 => ?_)
          refine wX9_playerRank_42 ?_
          refine wX9_playerRank_43 ?_
          refine wX9_playerRank_45 hM.c (mX9_costNow hM hk24 (hO0.2.2.2.2.2 k hk24) ?_)
          refine wX9_playerRank_48 ?_
          refine wX9_playerRank_49 ?_
          refine wX9_playerRank_50 hM.c (mX9_costNow hM ht24 (hO0.2.2.2.2.2 t ht24) ?_)
          refine wX9_playerRank_53 ?_
          refine wX9_playerRank_54 ?_
          refine wX9_playerRank_56 ?_
          refine wX9_playerRank_57 ?_
          refine wX9_playerRank_58 ?_
          refine wX9_playerRank_60 hM.c (mX9_hasContract hM hk24 ?_)
          refine wX9_playerRank_63 (fun c63 => ?_) (fun c63 => ?_)
          · refine wX9_playerRank_86 ?_
            refine wX9_playerRank_87 ?_
            refine wX9_playerRank_88 ?_
            refine wX9_playerRank_89 ?_
            refine wX9_playerRank_92 ?_
            refine q_drp 5 (q_ls ?_ ih2)
            rw [nI_1]
            first
              | (have q9 := q_b0 c63; rw [r_pb, if_neg (fun z => by rw [q9] at z; cases z.1)]; try rfl)
              | (have q9 : (0 : Int32) < r_cost (m_r (mS M 4 0)) k - r_cost (m_r (mS M 4 0)) t := c68; rw [r_pb, if_pos ⟨q_b1 c63, Or.inl q9⟩]; try rfl)
              | (have q9 : nI t ≤ nI k := c79; rw [r_pb, if_neg (fun z => z.2.elim c68 (fun z => (nI_ge z.2 (by omega)) q9))]; try rfl)
              | (have q9 : ¬ nI t ≤ nI k := c79; rw [r_pb, if_pos ⟨q_b1 c63, Or.inr ⟨c73, nI_lto (by omega) (Int32.not_le.mp q9)⟩⟩]; try rfl)
              | (have q9 : ¬ r_cost (m_r (mS M 4 0)) k - r_cost (m_r (mS M 4 0)) t = 0 := c73; rw [r_pb, if_neg (fun z => z.2.elim c68 (fun z => q9 z.1))]; try rfl)
          · refine wX9_playerRank_66 ?_
            refine wX9_playerRank_68 (fun c68 => ?_) (fun c68 => ?_)
            · refine wX9_playerRank_82 ?_
              refine wX9_playerRank_83 ?_
              refine wX9_playerRank_87 ?_
              refine wX9_playerRank_88 ?_
              refine wX9_playerRank_89 ?_
              refine wX9_playerRank_92 ?_
              refine q_drp 5 (q_ls ?_ ih2)
              rw [nI_1]
              first
                | (have q9 := q_b0 c63; rw [r_pb, if_neg (fun z => by rw [q9] at z; cases z.1)]; try rfl)
                | (have q9 : (0 : Int32) < r_cost (m_r (mS M 4 0)) k - r_cost (m_r (mS M 4 0)) t := c68; rw [r_pb, if_pos ⟨q_b1 c63, Or.inl q9⟩]; try rfl)
                | (have q9 : nI t ≤ nI k := c79; rw [r_pb, if_neg (fun z => z.2.elim c68 (fun z => (nI_ge z.2 (by omega)) q9))]; try rfl)
                | (have q9 : ¬ nI t ≤ nI k := c79; rw [r_pb, if_pos ⟨q_b1 c63, Or.inr ⟨c73, nI_lto (by omega) (Int32.not_le.mp q9)⟩⟩]; try rfl)
                | (have q9 : ¬ r_cost (m_r (mS M 4 0)) k - r_cost (m_r (mS M 4 0)) t = 0 := c73; rw [r_pb, if_neg (fun z => z.2.elim c68 (fun z => q9 z.1))]; try rfl)
            · refine wX9_playerRank_71 ?_
              refine wX9_playerRank_73 (fun c73 => ?_) (fun c73 => ?_)
              · refine wX9_playerRank_86 ?_
                refine wX9_playerRank_87 ?_
                refine wX9_playerRank_88 ?_
                refine wX9_playerRank_89 ?_
                refine wX9_playerRank_92 ?_
                refine q_drp 5 (q_ls ?_ ih2)
                rw [nI_1]
                first
                  | (have q9 := q_b0 c63; rw [r_pb, if_neg (fun z => by rw [q9] at z; cases z.1)]; try rfl)
                  | (have q9 : (0 : Int32) < r_cost (m_r (mS M 4 0)) k - r_cost (m_r (mS M 4 0)) t := c68; rw [r_pb, if_pos ⟨q_b1 c63, Or.inl q9⟩]; try rfl)
                  | (have q9 : nI t ≤ nI k := c79; rw [r_pb, if_neg (fun z => z.2.elim c68 (fun z => (nI_ge z.2 (by omega)) q9))]; try rfl)
                  | (have q9 : ¬ nI t ≤ nI k := c79; rw [r_pb, if_pos ⟨q_b1 c63, Or.inr ⟨c73, nI_lto (by omega) (Int32.not_le.mp q9)⟩⟩]; try rfl)
                  | (have q9 : ¬ r_cost (m_r (mS M 4 0)) k - r_cost (m_r (mS M 4 0)) t = 0 := c73; rw [r_pb, if_neg (fun z => z.2.elim c68 (fun z => q9 z.1))]; try rfl)
              · refine wX9_playerRank_76 ?_
                refine wX9_playerRank_78 ?_
                refine wX9_playerRank_79 (fun c79 => ?_) (fun c79 => ?_)
                · refine wX9_playerRank_86 ?_
                  refine wX9_playerRank_87 ?_
                  refine wX9_playerRank_88 ?_
                  refine wX9_playerRank_89 ?_
                  refine wX9_playerRank_92 ?_
                  refine q_drp 5 (q_ls ?_ ih2)
                  rw [nI_1]
                  first
                    | (have q9 := q_b0 c63; rw [r_pb, if_neg (fun z => by rw [q9] at z; cases z.1)]; try rfl)
                    | (have q9 : (0 : Int32) < r_cost (m_r (mS M 4 0)) k - r_cost (m_r (mS M 4 0)) t := c68; rw [r_pb, if_pos ⟨q_b1 c63, Or.inl q9⟩]; try rfl)
                    | (have q9 : nI t ≤ nI k := c79; rw [r_pb, if_neg (fun z => z.2.elim c68 (fun z => (nI_ge z.2 (by omega)) q9))]; try rfl)
                    | (have q9 : ¬ nI t ≤ nI k := c79; rw [r_pb, if_pos ⟨q_b1 c63, Or.inr ⟨c73, nI_lto (by omega) (Int32.not_le.mp q9)⟩⟩]; try rfl)
                    | (have q9 : ¬ r_cost (m_r (mS M 4 0)) k - r_cost (m_r (mS M 4 0)) t = 0 := c73; rw [r_pb, if_neg (fun z => z.2.elim c68 (fun z => q9 z.1))]; try rfl)
                · refine wX9_playerRank_82 ?_
                  refine wX9_playerRank_83 ?_
                  refine wX9_playerRank_87 ?_
                  refine wX9_playerRank_88 ?_
                  refine wX9_playerRank_89 ?_
                  refine wX9_playerRank_92 ?_
                  refine q_drp 5 (q_ls ?_ ih2)
                  rw [nI_1]
                  first
                    | (have q9 := q_b0 c63; rw [r_pb, if_neg (fun z => by rw [q9] at z; cases z.1)]; try rfl)
                    | (have q9 : (0 : Int32) < r_cost (m_r (mS M 4 0)) k - r_cost (m_r (mS M 4 0)) t := c68; rw [r_pb, if_pos ⟨q_b1 c63, Or.inl q9⟩]; try rfl)
                    | (have q9 : nI t ≤ nI k := c79; rw [r_pb, if_neg (fun z => z.2.elim c68 (fun z => (nI_ge z.2 (by omega)) q9))]; try rfl)
                    | (have q9 : ¬ nI t ≤ nI k := c79; rw [r_pb, if_pos ⟨q_b1 c63, Or.inr ⟨c73, nI_lto (by omega) (Int32.not_le.mp q9)⟩⟩]; try rfl)
                    | (have q9 : ¬ r_cost (m_r (mS M 4 0)) k - r_cost (m_r (mS M 4 0)) t = 0 := c73; rw [r_pb, if_neg (fun z => z.2.elim c68 (fun z => q9 z.1))]; try rfl)
  refine eX9_playerRank ?_
  refine wX9_playerRank_0 ?_
  refine wX9_playerRank_1 ?_
  refine wX9_playerRank_2 (fun c2 => ?_) (fun c2 => ?_)
  · refine wX9_playerRank_9 ?_
    first
      | (have p0 : (decide (0 ≤ q)) = true := decide_eq_true (Int32.not_lt.mp c2); exact hj _ (by simp only [p0]; first | rfl | simp [q_b]))
      | (have p0 : (decide (0 ≤ q)) = false := decide_eq_false (fun z => Int32.not_lt.mpr z c2); exact hj _ (by simp only [p0]; first | rfl | simp [q_b]))
  · refine wX9_playerRank_5 ?_
    refine wX9_playerRank_6 ?_
    first
      | (have p0 : (decide (0 ≤ q)) = true := decide_eq_true (Int32.not_lt.mp c2); exact hj _ (by simp only [p0]; first | rfl | simp [q_b]))
      | (have p0 : (decide (0 ≤ q)) = false := decide_eq_false (fun z => Int32.not_lt.mpr z c2); exact hj _ (by simp only [p0]; first | rfl | simp [q_b]))
def r_pv (r : Nat → Int64) (i k : Nat) : Int32 :=
  if k < 3 then r_op r i k else if r_has r i = true then (if k = 3 then r_yn r i 0 else if k = 4 then r_op r i 5 - r_yn r i 0 else if k = 5 then r_op r i 7 else r_sf r i) else -2
theorem mX9_playerValue {a : Nat} {M : q_Mo} {p : Int32} {x : Int32}  {w nt np nb : Nat} {P : Int32 → q_H → Option Nat → Prop} (hM : isM h a M) (hO : ¬ M.1 3 = 0 → okM M w nt np nb)  (hw : M.1 3 = 0 ∨ (mgP M p && rgL x.toInt64 0 6) = false → ∀ h2, isM h2 a (mS M 4 (mo_th M (mgP M p && rgL x.toInt64 0 6))) → q_out a 13 h h2 → P 0 h2 z) (hk : ¬ M.1 3 = 0 → (mgP M p && rgL x.toInt64 0 6) = true → ∀ i, i < 24 → p = nI i → ∀ y, y < 7 → x = nI y → ∀ h2, isM h2 a (mS M 4 0) → q_out a 13 h h2 → P (r_pv (m_r (mS M 4 0)) i y) h2 z) : QMi V iX9_playerValue [.ref a, .int p, .int x] h z P Kx := by
  have ho : q_out a 13 h h := q_out.refl
  have hj : ∀ b9 : Int32, b9 = q_b (mgP M p && rgL x.toInt64 0 6) → QW V iX9_playerValue 26 [some (.ref a), some (.int p), some (.int x), none] [.int b9, .ref a] h z 0 0 (q_Ki P) Kx := by
    intro b9 hb9
    refine wX9_playerValue_26 hM.c (mX9_isWrong (g := mgP M p && rgL x.toInt64 0 6) hM hb9 (fun hc h2 hM ho2 => ?_) (fun hl hg h2 hM ho2 => ?_))
    · refine wX9_playerValue_29 (fun c29 => absurd c29 (by decide)) (fun c29 => ?_)
      refine wX9_playerValue_32 ?_
      refine wX9_playerValue_33  ?_
      exact hw hc _ hM ho2
    · have ho := ho.trans ho2
      have hO := hO hl
      have hg0 := hg
      simp only [Bool.and_eq_true] at hg0
      obtain ⟨i, hi, rfl⟩ := mgP_of hO hg0.1
      obtain ⟨y, hy, rfl⟩ := mgN_of (n := 6) (N := 6) (by decide) rfl hg0.2
      have hO0 : okM (mS M 4 0) w nt np nb := okM_4 hO
      refine wX9_playerValue_29 (fun c29 => ?_) (fun c29 => absurd rfl c29)
      refine wX9_playerValue_34 ?_
      refine wX9_playerValue_35 ?_
      refine wX9_playerValue_36 (fun c36 => ?_) (fun c36 => ?_)
      · refine wX9_playerValue_46 ?_
        refine wX9_playerValue_47 ?_
        refine wX9_playerValue_48 hM.c (mX9_hasContract hM hi ?_)
        refine wX9_playerValue_51 (fun c51 => ?_) (fun c51 => ?_)
        · refine wX9_playerValue_57 ?_
          refine wX9_playerValue_58 ?_
          refine wX9_playerValue_59 ?_
          refine wX9_playerValue_60 hM.c (mX9_yearNumber hM hi ?_)
          refine wX9_playerValue_63 ?_
          refine wX9_playerValue_64 ?_
          refine wX9_playerValue_65 ?_
          refine wX9_playerValue_66 (fun c66 => ?_) (fun c66 => ?_)
          · refine wX9_playerValue_73 ?_
            refine wX9_playerValue_74 ?_
            refine wX9_playerValue_75 (fun c75 => ?_) (fun c75 => ?_)
            · refine wX9_playerValue_89 ?_
              refine wX9_playerValue_90 ?_
              refine wX9_playerValue_91 (fun c91 => ?_) (fun c91 => ?_)
              · refine wX9_playerValue_104 ?_
                refine wX9_playerValue_105 ?_
                refine wX9_playerValue_106 hM.c (mX9_sharesFrom hM hi (hO0.2.2.2.2.2 i hi) ?_)
                refine wX9_playerValue_109  ?_
                have hy3 : ¬ y < 3 := fun z => (nI_ge z (by decide)) c36
                have hk9 := hk hl hg i hi rfl y hy rfl _ hM ho
                rw [r_pv, if_neg hy3, if_pos (q_b1 c51)] at hk9
                have e3 : nI y = 3 → y = 3 := fun z => nI_inj (by omega) (by decide) z
                have e4 : nI y = 4 → y = 4 := fun z => nI_inj (by omega) (by decide) z
                have e5 : nI y = 5 → y = 5 := fun z => nI_inj (by omega) (by decide) z
                first
                  | (have q9 : ¬ nI y = 5 := c91; rw [if_neg (fun z => c66 (by rw [z]; try rfl)), if_neg (fun z => c75 (by rw [z]; try rfl)), if_neg (fun z => q9 (by rw [z]; try rfl))] at hk9; exact hk9)
                  | (have q9 : nI y = 5 := c91; rw [if_neg (fun z => c66 (by rw [z]; try rfl)), if_neg (fun z => c75 (by rw [z]; try rfl)), if_pos (e5 q9)] at hk9; exact hk9)
                  | (have q9 : nI y = 4 := c75; rw [if_neg (fun z => c66 (by rw [z]; try rfl)), if_pos (e4 q9)] at hk9; exact hk9)
                  | (have q9 : nI y = 3 := c66; rw [if_pos (e3 q9)] at hk9; exact hk9)
              · refine wX9_playerValue_94 ?_
                refine wX9_playerValue_95 ?_
                refine wX9_playerValue_96 ?_
                refine wX9_playerValue_98 hM.c (mX9_ofPlayer (w := 7) hM hi (by decide) ?_)
                refine wX9_playerValue_101 ?_
                refine wX9_playerValue_109  ?_
                have hy3 : ¬ y < 3 := fun z => (nI_ge z (by decide)) c36
                have hk9 := hk hl hg i hi rfl y hy rfl _ hM ho
                rw [r_pv, if_neg hy3, if_pos (q_b1 c51)] at hk9
                have e3 : nI y = 3 → y = 3 := fun z => nI_inj (by omega) (by decide) z
                have e4 : nI y = 4 → y = 4 := fun z => nI_inj (by omega) (by decide) z
                have e5 : nI y = 5 → y = 5 := fun z => nI_inj (by omega) (by decide) z
                first
                  | (have q9 : ¬ nI y = 5 := c91; rw [if_neg (fun z => c66 (by rw [z]; try rfl)), if_neg (fun z => c75 (by rw [z]; try rfl)), if_neg (fun z => q9 (by rw [z]; try rfl))] at hk9; exact hk9)
                  | (have q9 : nI y = 5 := c91; rw [if_neg (fun z => c66 (by rw [z]; try rfl)), if_neg (fun z => c75 (by rw [z]; try rfl)), if_pos (e5 q9)] at hk9; exact hk9)
                  | (have q9 : nI y = 4 := c75; rw [if_neg (fun z => c66 (by rw [z]; try rfl)), if_pos (e4 q9)] at hk9; exact hk9)
                  | (have q9 : nI y = 3 := c66; rw [if_pos (e3 q9)] at hk9; exact hk9)
            · refine wX9_playerValue_78 ?_
              refine wX9_playerValue_79 ?_
              refine wX9_playerValue_80 ?_
              refine wX9_playerValue_81 hM.c (mX9_ofPlayer (w := 5) hM hi (by decide) ?_)
              refine wX9_playerValue_84 ?_
              refine wX9_playerValue_85 ?_
              refine wX9_playerValue_86 ?_
              refine wX9_playerValue_109  ?_
              have hy3 : ¬ y < 3 := fun z => (nI_ge z (by decide)) c36
              have hk9 := hk hl hg i hi rfl y hy rfl _ hM ho
              rw [r_pv, if_neg hy3, if_pos (q_b1 c51)] at hk9
              have e3 : nI y = 3 → y = 3 := fun z => nI_inj (by omega) (by decide) z
              have e4 : nI y = 4 → y = 4 := fun z => nI_inj (by omega) (by decide) z
              have e5 : nI y = 5 → y = 5 := fun z => nI_inj (by omega) (by decide) z
              first
                | (have q9 : ¬ nI y = 5 := c91; rw [if_neg (fun z => c66 (by rw [z]; try rfl)), if_neg (fun z => c75 (by rw [z]; try rfl)), if_neg (fun z => q9 (by rw [z]; try rfl))] at hk9; exact hk9)
                | (have q9 : nI y = 5 := c91; rw [if_neg (fun z => c66 (by rw [z]; try rfl)), if_neg (fun z => c75 (by rw [z]; try rfl)), if_pos (e5 q9)] at hk9; exact hk9)
                | (have q9 : nI y = 4 := c75; rw [if_neg (fun z => c66 (by rw [z]; try rfl)), if_pos (e4 q9)] at hk9; exact hk9)
                | (have q9 : nI y = 3 := c66; rw [if_pos (e3 q9)] at hk9; exact hk9)
          · refine wX9_playerValue_69 ?_
            refine wX9_playerValue_70 ?_
            refine wX9_playerValue_109  ?_
            have hy3 : ¬ y < 3 := fun z => (nI_ge z (by decide)) c36
            have hk9 := hk hl hg i hi rfl y hy rfl _ hM ho
            rw [r_pv, if_neg hy3, if_pos (q_b1 c51)] at hk9
            have e3 : nI y = 3 → y = 3 := fun z => nI_inj (by omega) (by decide) z
            have e4 : nI y = 4 → y = 4 := fun z => nI_inj (by omega) (by decide) z
            have e5 : nI y = 5 → y = 5 := fun z => nI_inj (by omega) (by decide) z
            first
              | (have q9 : ¬ nI y = 5 := c91; rw [if_neg (fun z => c66 (by rw [z]; try rfl)), if_neg (fun z => c75 (by rw [z]; try rfl)), if_neg (fun z => q9 (by rw [z]; try rfl))] at hk9; exact hk9)
              | (have q9 : nI y = 5 := c91; rw [if_neg (fun z => c66 (by rw [z]; try rfl)), if_neg (fun z => c75 (by rw [z]; try rfl)), if_pos (e5 q9)] at hk9; exact hk9)
              | (have q9 : nI y = 4 := c75; rw [if_neg (fun z => c66 (by rw [z]; try rfl)), if_pos (e4 q9)] at hk9; exact hk9)
              | (have q9 : nI y = 3 := c66; rw [if_pos (e3 q9)] at hk9; exact hk9)
        · refine wX9_playerValue_54 ?_
          refine wX9_playerValue_56  ?_
          have hy3 : ¬ y < 3 := fun z => (nI_ge z (by decide)) c36
          have hk9 := hk hl hg i hi rfl y hy rfl _ hM ho
          rw [r_pv, if_neg hy3, if_neg (by rw [q_b0 c51]; decide)] at hk9; exact hk9
      · refine wX9_playerValue_39 ?_
        refine wX9_playerValue_40 ?_
        refine wX9_playerValue_41 ?_
        refine wX9_playerValue_42 hM.c (mX9_ofPlayer hM hi (by omega) ?_)
        refine wX9_playerValue_45  ?_
        have hy3 : y < 3 := nI_lto (by omega) (Int32.not_le.mp c36)
        have hk9 := hk hl hg i hi rfl y hy rfl _ hM ho
        rw [r_pv, if_pos hy3] at hk9; exact hk9
  refine eX9_playerValue ?_
  refine wX9_playerValue_0 ?_
  refine wX9_playerValue_1 ?_
  refine wX9_playerValue_2 ?_
  refine wX9_playerValue_3 hM.c (mX9_isPlayer hM ?_)
  refine wX9_playerValue_6 (fun c6 => ?_) (fun c6 => ?_)
  · refine wX9_playerValue_25 ?_
    first
      | (have p0 : (mgP M p) = true := q_b1 c6; have p1 : (rgL x.toInt64 0 6) = true := q_b1 c18; exact hj _ (by simp only [p0, p1]; first | rfl | simp [q_b]))
      | (have p0 : (mgP M p) = true := q_b1 c6; have p1 : (rgL x.toInt64 0 6) = false := q_b0 c18; exact hj _ (by simp only [p0, p1]; first | rfl | simp [q_b]))
      | (have p0 : (mgP M p) = false := q_b0 c6; exact hj _ (by simp only [p0]; first | rfl | simp [q_b]))
  · refine wX9_playerValue_9 ?_
    refine wX9_playerValue_10 ?_
    refine wX9_playerValue_11 ?_
    refine wX9_playerValue_12 ?_
    refine wX9_playerValue_15 (mX9_isIn ?_)
    refine wX9_playerValue_18 (fun c18 => ?_) (fun c18 => ?_)
    · refine wX9_playerValue_25 ?_
      first
        | (have p0 : (mgP M p) = true := q_b1 c6; have p1 : (rgL x.toInt64 0 6) = true := q_b1 c18; exact hj _ (by simp only [p0, p1]; first | rfl | simp [q_b]))
        | (have p0 : (mgP M p) = true := q_b1 c6; have p1 : (rgL x.toInt64 0 6) = false := q_b0 c18; exact hj _ (by simp only [p0, p1]; first | rfl | simp [q_b]))
        | (have p0 : (mgP M p) = false := q_b0 c6; exact hj _ (by simp only [p0]; first | rfl | simp [q_b]))
    · refine wX9_playerValue_21 ?_
      refine wX9_playerValue_22 ?_
      first
        | (have p0 : (mgP M p) = true := q_b1 c6; have p1 : (rgL x.toInt64 0 6) = true := q_b1 c18; exact hj _ (by simp only [p0, p1]; first | rfl | simp [q_b]))
        | (have p0 : (mgP M p) = true := q_b1 c6; have p1 : (rgL x.toInt64 0 6) = false := q_b0 c18; exact hj _ (by simp only [p0, p1]; first | rfl | simp [q_b]))
        | (have p0 : (mgP M p) = false := q_b0 c6; exact hj _ (by simp only [p0]; first | rfl | simp [q_b]))
def r_mn (r : Nat → Int64) (np j : Nat) : UInt64 := FP.ddiv (FP.i2d (r_sls r (r_set r j np) np)) (FP.i2d (r_ty (r_set r j np) 24))
theorem mX9_meanSalary {a : Nat} {M : q_Mo} {t : Int32}  {w nt np nb : Nat} {P : UInt64 → q_H → Option Nat → Prop} (hM : isM h a M) (hO : ¬ M.1 3 = 0 → okM M w nt np nb) (hty : ∀ j, j < 4 → ¬ r_set (m_r M) j np = 0 → ¬ r_ty (r_set (m_r M) j np) 24 = 0) (hw : M.1 3 = 0 ∨ (mgT M t) = false → ∀ h2, isM h2 a (mS M 4 (mo_th M (mgT M t))) → q_out a 13 h h2 → P FP.dconst0 h2 z) (hk : ¬ M.1 3 = 0 → mgT M t = true → ∀ j, j < 4 → t = nI j → ¬ r_set (m_r M) j np = 0 → ∀ h2, isM h2 a (mS M 4 0) → q_out a 13 h h2 → P (r_mn (m_r M) np j) h2 z) (hk3 : ¬ M.1 3 = 0 → mgT M t = true → ∀ j, j < 4 → t = nI j → r_set (m_r M) j np = 0 → ∀ h2, isM h2 a (mS M 4 3) → q_out a 13 h h2 → P FP.dconst0 h2 z) : QMd V iX9_meanSalary [.ref a, .int t] h z P Kx := by
  have ho : q_out a 13 h h := q_out.refl
  refine eX9_meanSalary ?_
  refine wX9_meanSalary_0 ?_
  refine wX9_meanSalary_1 ?_
  refine wX9_meanSalary_2 ?_
  refine wX9_meanSalary_3 hM.c (mX9_isTeam hM ?_)
  refine wX9_meanSalary_6 hM.c (mX9_isWrong (g := mgT M t) hM rfl (fun hc h2 hM ho2 => ?_) (fun hl hg h2 hM ho2 => ?_))
  · refine wX9_meanSalary_9 (fun c9 => absurd c9 (by decide)) (fun c9 => ?_)
    refine wX9_meanSalary_12 ?_
    refine wX9_meanSalary_13  ?_
    exact hw hc _ hM ho2
  · have ho := ho.trans ho2
    have hO := hO hl
    have hg0 := hg
    obtain ⟨j, hj, rfl⟩ := mgT_of hO hg0
    have hO0 : okM (mS M 4 0) w nt np nb := okM_4 hO
    refine wX9_meanSalary_9 (fun c9 => ?_) (fun c9 => absurd rfl c9)
    refine wX9_meanSalary_14 ?_
    refine wX9_meanSalary_15 ?_
    refine wX9_meanSalary_16 hM.c (mX9_rosterOf hM hO0 ?_)
    refine wX9_meanSalary_19 ?_
    refine wX9_meanSalary_20 ?_
    refine wX9_meanSalary_21 ?_
    refine wX9_meanSalary_22 (fun c22 => ?_) (fun c22 => ?_)
    · refine wX9_meanSalary_29 ?_
      refine wX9_meanSalary_30 hM.c ?_
      refine q_sx (k := 4) hM ho (fun h2 hM ho => ?_)
      refine wX9_meanSalary_33 ?_
      refine wX9_meanSalary_34 (fun c34 => ?_) (fun c34 => ?_)
      · have hO1 : okM (mS (mS M 4 0) 4 0) w nt np nb := hO
        refine wX9_meanSalary_41 ?_
        refine wX9_meanSalary_42 ?_
        refine wX9_meanSalary_43 hM.c (mX9_salariesOf hM hO1 ?_)
        refine wX9_meanSalary_46 ?_
        refine wX9_meanSalary_47 ?_
        refine wX9_meanSalary_48 (mX9_many ?_)
        refine wX9_meanSalary_51 ?_
        refine wX9_meanSalary_52 (q_dn (hty j hj c34)) ?_
        refine wX9_meanSalary_53  ?_
        first
          | (have q9 : ¬ r_set (m_r M) j np = 0 := c34; have q8 : ¬ r_set (m_r M) j np = 0 := c22; exact hk hl hg j hj rfl q9 _ (hM.e mS_2) ho)
          | (have q9 : r_set (m_r M) j np = 0 := c34; have q8 : r_set (m_r M) j np = 0 := c22; exact hk3 hl hg j hj rfl q9 _ (hM.e mS_2) ho)
          | exact absurd c22 c34
          | exact absurd c34 c22
      · refine wX9_meanSalary_37 ?_
        refine wX9_meanSalary_38 ?_
        refine wX9_meanSalary_53  ?_
        first
          | (have q9 : ¬ r_set (m_r M) j np = 0 := c34; have q8 : ¬ r_set (m_r M) j np = 0 := c22; exact hk hl hg j hj rfl q9 _ (hM.e mS_2) ho)
          | (have q9 : r_set (m_r M) j np = 0 := c34; have q8 : r_set (m_r M) j np = 0 := c22; exact hk3 hl hg j hj rfl q9 _ (hM.e mS_2) ho)
          | exact absurd c22 c34
          | exact absurd c34 c22
    · refine wX9_meanSalary_25 ?_
      refine wX9_meanSalary_26 ?_
      refine wX9_meanSalary_30 hM.c ?_
      refine q_sx (k := 4) hM ho (fun h2 hM ho => ?_)
      refine wX9_meanSalary_33 ?_
      refine wX9_meanSalary_34 (fun c34 => ?_) (fun c34 => ?_)
      · have hO1 : okM (mS (mS M 4 0) 4 0) w nt np nb := hO
        refine wX9_meanSalary_41 ?_
        refine wX9_meanSalary_42 ?_
        refine wX9_meanSalary_43 hM.c (mX9_salariesOf hM hO1 ?_)
        refine wX9_meanSalary_46 ?_
        refine wX9_meanSalary_47 ?_
        refine wX9_meanSalary_48 (mX9_many ?_)
        refine wX9_meanSalary_51 ?_
        refine wX9_meanSalary_52 (q_dn (hty j hj c34)) ?_
        refine wX9_meanSalary_53  ?_
        first
          | (have q9 : ¬ r_set (m_r M) j np = 0 := c34; have q8 : ¬ r_set (m_r M) j np = 0 := c22; exact hk hl hg j hj rfl q9 _ (hM.e mS_2) ho)
          | (have q9 : r_set (m_r M) j np = 0 := c34; have q8 : r_set (m_r M) j np = 0 := c22; exact hk3 hl hg j hj rfl q9 _ (hM.e mS_2) ho)
          | exact absurd c22 c34
          | exact absurd c34 c22
      · refine wX9_meanSalary_37 ?_
        refine wX9_meanSalary_38 ?_
        refine wX9_meanSalary_53  ?_
        first
          | (have q9 : ¬ r_set (m_r M) j np = 0 := c34; have q8 : ¬ r_set (m_r M) j np = 0 := c22; exact hk hl hg j hj rfl q9 _ (hM.e mS_2) ho)
          | (have q9 : r_set (m_r M) j np = 0 := c34; have q8 : r_set (m_r M) j np = 0 := c22; exact hk3 hl hg j hj rfl q9 _ (hM.e mS_2) ho)
          | exact absurd c22 c34
          | exact absurd c34 c22
theorem mX9_signCode {a : Nat} {M : q_Mo} {t : Int32} {p : Int32} {x : Int32}  {w nt np nb : Nat} {P : Int32 → q_H → Option Nat → Prop} (hM : isM h a M) (hO : ¬ M.1 3 = 0 → okM M w nt np nb)  (hw : M.1 3 = 0 ∨ (mgS M t p x) = false → ∀ h2, isM h2 a (mS M 4 (mo_th M (mgS M t p x))) → q_out a 13 h h2 → P 0 h2 z) (hk : ¬ M.1 3 = 0 → mgS M t p x = true → ∀ j i, j < 4 → i < 24 → t = nI j → p = nI i → ∀ h2, isM h2 a (mS M 4 0) → q_out a 13 h h2 → P (r_why (mS M 4 0).1 (m_r (mS M 4 0)) np w j i x) h2 z) : QMi V iX9_signCode [.ref a, .int t, .int p, .int x] h z P Kx := by
  have ho : q_out a 13 h h := q_out.refl
  refine eX9_signCode ?_
  refine wX9_signCode_0 ?_
  refine wX9_signCode_1 ?_
  refine wX9_signCode_2 ?_
  refine wX9_signCode_3 ?_
  refine wX9_signCode_4 ?_
  refine wX9_signCode_5 hM.c (mX9_isSigning hM ?_)
  refine wX9_signCode_8 hM.c (mX9_isWrong (g := mgS M t p x) hM rfl (fun hc h2 hM ho2 => ?_) (fun hl hg h2 hM ho2 => ?_))
  · refine wX9_signCode_11 (fun c11 => absurd c11 (by decide)) (fun c11 => ?_)
    refine wX9_signCode_14 ?_
    refine wX9_signCode_15 ?_
    refine wX9_signCode_25  ?_
    exact hw hc _ hM ho2
  · have ho := ho.trans ho2
    have hO := hO hl
    have hO0 : okM (mS M 4 0) w nt np nb := okM_4 hO
    have hg0 := hg
    simp only [mgS, Bool.and_eq_true] at hg0
    obtain ⟨j, hj, rfl⟩ := mgT_of hO hg0.1
    obtain ⟨i, hi, rfl⟩ := mgP_of hO hg0.2.1
    refine wX9_signCode_11 (fun c11 => ?_) (fun c11 => absurd rfl c11)
    refine wX9_signCode_18 ?_
    refine wX9_signCode_19 ?_
    refine wX9_signCode_20 ?_
    refine wX9_signCode_21 ?_
    refine wX9_signCode_22 hM.c (mX9_whyNotSign hM hO0 hj hi ?_)
    refine wX9_signCode_25  ?_
    exact hk hl hg j i hj hi rfl rfl _ hM ho
theorem mX9_bestRule {a : Nat} {M : q_Mo} {t : Int32} {p : Int32}  {w nt np nb : Nat} {P : Int32 → q_H → Option Nat → Prop} (hM : isM h a M) (hO : ¬ M.1 3 = 0 → okM M w nt np nb)  (hw : M.1 3 = 0 ∨ (mgS M t p 0) = false → ∀ h2, isM h2 a (mS M 4 (mo_th M (mgS M t p 0))) → q_out a 13 h h2 → P 0 h2 z) (hk : ¬ M.1 3 = 0 → mgS M t p 0 = true → ∀ j i, j < 4 → i < 24 → t = nI j → p = nI i → ∀ k, k < 4 → (∀ s, s < k → ¬ r_why (mS M 4 0).1 (m_r (mS M 4 0)) np w j i (nI s) = 0) → r_why (mS M 4 0).1 (m_r (mS M 4 0)) np w j i (nI k) = 0 → ∀ h2, isM h2 a (mS M 4 0) → q_out a 13 h h2 → P (nI k) h2 z) (hk3 : ¬ M.1 3 = 0 → mgS M t p 0 = true → ∀ j i, j < 4 → i < 24 → t = nI j → p = nI i → (∀ s, s < 4 → ¬ r_why (mS M 4 0).1 (m_r (mS M 4 0)) np w j i (nI s) = 0) → ∀ h2, isM h2 a (mS M 4 0) → q_out a 13 h h2 → P (-2) h2 z) : QMi V iX9_bestRule [.ref a, .int t, .int p] h z P Kx := by
  have ho : q_out a 13 h h := q_out.refl
  refine eX9_bestRule ?_
  refine wX9_bestRule_0 ?_
  refine wX9_bestRule_1 ?_
  refine wX9_bestRule_2 ?_
  refine wX9_bestRule_3 ?_
  refine wX9_bestRule_4 ?_
  refine wX9_bestRule_5 hM.c (mX9_isSigning hM ?_)
  refine wX9_bestRule_8 hM.c (mX9_isWrong (g := mgS M t p 0) hM rfl (fun hc h2 hM ho2 => ?_) (fun hl hg h2 hM ho2 => ?_))
  · refine wX9_bestRule_11 (fun c11 => absurd c11 (by decide)) (fun c11 => ?_)
    refine wX9_bestRule_14 ?_
    refine wX9_bestRule_15  ?_
    exact hw hc _ hM ho2
  · have ho := ho.trans ho2
    have hO := hO hl
    have hO0 : okM (mS M 4 0) w nt np nb := okM_4 hO
    have hg0 := hg
    simp only [mgS, Bool.and_eq_true] at hg0
    obtain ⟨j, hj, rfl⟩ := mgT_of hO hg0.1
    obtain ⟨i, hi, rfl⟩ := mgP_of hO hg0.2.1
    refine wX9_bestRule_11 (fun c11 => ?_) (fun c11 => absurd rfl c11)
    refine wX9_bestRule_16 ?_
    refine wX9_bestRule_17 ?_
    refine q_for (P := fun k => (∀ s, s < k → ¬ r_why (mS M 4 0).1 (m_r (mS M 4 0)) np w j i (nI s) = 0) → QW V iX9_bestRule 18 [some (.ref a), some (.int (nI j)), some (.int (nI i)), some (.int (nI k))] [] h2 z 0 0 (q_Ki P) Kx) 4 ?_ ?_ (fun s hs => absurd hs (by omega))
    · intro hne
      refine wX9_bestRule_18 ?_
      refine wX9_bestRule_19 ?_
      refine wX9_bestRule_20 (fun c20 => ?_) (fun c20 => absurd (by decide) c20)
      refine wX9_bestRule_41 ?_
      refine wX9_bestRule_43  ?_
      exact hk3 hl hg j i hj hi rfl rfl hne _ hM ho
    · intro k hkn ih hne
      refine wX9_bestRule_18 ?_
      refine wX9_bestRule_19 ?_
      refine wX9_bestRule_20 (fun c20 => absurd c20 (nI_ge (b := 4) hkn (by decide))) (fun c20 => ?_)
      refine wX9_bestRule_23 ?_
      refine wX9_bestRule_24 ?_
      refine wX9_bestRule_25 ?_
      refine wX9_bestRule_26 ?_
      refine wX9_bestRule_27 hM.c (mX9_whyNotSign hM hO0 hj hi ?_)
      refine wX9_bestRule_30 (fun c30 => ?_) (fun c30 => ?_)
      · refine wX9_bestRule_35 ?_
        refine wX9_bestRule_38 ?_
        refine q_ls ?_ (ih (fun s hs => ?_))
        · rw [nI_1]
        · by_cases e : s = k
          · rw [e]; exact c30
          · exact hne s (by omega)
      · refine wX9_bestRule_33 ?_
        refine wX9_bestRule_34  ?_
        exact hk hl hg j i hj hi rfl rfl k hkn hne c30 _ hM ho
def r_most (m : Nat → Int32) (r : Nat → Int64) (np w j : Nat) (x : Int32) : Int64 :=
  if x = 0 then (r_room m r np w j - r_fs r).toInt64 else if x = 1 then r_ot r j 0 - (r_fs r).toInt64 else if x = 2 then (m 12).toInt64 else 99999
def r_gb (m : Nat → Int32) (r : Nat → Int64) (np w j i : Nat) (x : Int32) : Int32 :=
  if r_has r i = true ∨ r_ty (r_set r j np) 24 = 12 then -2 else if r_al m (ro r 0 1) np w j i x = true then (if r_most m r np w j x < 99999 then r_most m r np w j x else 99999).toInt32 else -2
theorem vp_back {r : Nat → Int64} {k : Nat} {x : Int64} : vp_updL (vp_updL r k x) k (r k) = r := funext fun q => by
  unfold vp_updL
  by_cases e : q = k
  · rw [if_pos e, e]
  · rw [if_neg e, if_neg e]
theorem mX9_greatestBase {a : Nat} {M : q_Mo} {t : Int32} {p : Int32} {x : Int32}  {w nt np nb : Nat} {P : Int32 → q_H → Option Nat → Prop} (hM : isM h a M) (hO : ¬ M.1 3 = 0 → okM M w nt np nb)  (hw : M.1 3 = 0 ∨ (mgS M t p x) = false → ∀ h2, isM h2 a (mS M 4 (mo_th M (mgS M t p x))) → q_out a 13 h h2 → P 0 h2 z) (hk : ¬ M.1 3 = 0 → mgS M t p x = true → ∀ j i, j < 4 → i < 24 → t = nI j → p = nI i → ∀ h2, isM h2 a (mS M 4 0) → q_out a 13 h h2 → P (r_gb M.1 (m_r M) np w j i x) h2 z) : QMi V iX9_greatestBase [.ref a, .int t, .int p, .int x] h z P Kx := by
  have ho : q_out a 13 h h := q_out.refl
  refine eX9_greatestBase ?_
  refine wX9_greatestBase_0 ?_
  refine wX9_greatestBase_1 ?_
  refine wX9_greatestBase_2 ?_
  refine wX9_greatestBase_3 ?_
  refine wX9_greatestBase_4 ?_
  refine wX9_greatestBase_5 hM.c (mX9_isSigning hM ?_)
  refine wX9_greatestBase_8 hM.c (mX9_isWrong (g := mgS M t p x) hM rfl (fun hc h2 hM ho2 => ?_) (fun hl hg h2 hM ho2 => ?_))
  · refine wX9_greatestBase_11 (fun c11 => absurd c11 (by decide)) (fun c11 => ?_)
    refine wX9_greatestBase_14 ?_
    refine wX9_greatestBase_15  ?_
    exact hw hc _ hM ho2
  · have ho := ho.trans ho2
    have hO := hO hl
    have hO0 : okM (mS M 4 0) w nt np nb := okM_4 hO
    have hg0 := hg
    simp only [mgS, Bool.and_eq_true] at hg0
    obtain ⟨j, hj, rfl⟩ := mgT_of hO hg0.1
    obtain ⟨i, hi, rfl⟩ := mgP_of hO hg0.2.1
    have hj126 : ∀ hh, isM hh a (mS M 4 0) → q_out a 13 h hh → ¬ r_has (m_r M) i = true → ¬ r_ty (r_set (m_r M) j np) 24 = 12 → ∀ xv : Int64, xv = r_most M.1 (m_r M) np w j x → QW V iX9_greatestBase 126 [some (.ref a), some (.int (nI j)), some (.int (nI i)), some (.int x), some (.long (m_r M 1)), none, some (.int (q_b (r_al M.1 (ro (m_r M) 0 1) np w j i x))), none, none] [.long xv] hh z 0 0 (q_Ki P) Kx := by
      intro hh hM ho n1 n2 xv hxv
      subst hxv
      refine wX9_greatestBase_126 ?_
      refine wX9_greatestBase_128 ?_
      refine wX9_greatestBase_130 (fun c130 => ?_) (fun c130 => ?_)
      · refine wX9_greatestBase_145 ?_
        refine wX9_greatestBase_147  ?_
        have hk9 := hk hl hg j i hj hi rfl rfl _ hM ho
        first
          | (have q9 := q_b1 c130; rw [r_gb, if_neg (fun z => z.elim n1 n2), if_pos q9] at hk9; exact hk9)
          | (have q9 := q_b0 c130; rw [r_gb, if_neg (fun z => z.elim n1 n2), if_neg (by rw [q9]; decide)] at hk9; exact hk9)
      · refine wX9_greatestBase_133 ?_
        refine wX9_greatestBase_136 ?_
        refine wX9_greatestBase_138 ?_
        refine wX9_greatestBase_141 ?_
        refine wX9_greatestBase_142 ?_
        refine wX9_greatestBase_147  ?_
        have hk9 := hk hl hg j i hj hi rfl rfl _ hM ho
        first
          | (have q9 := q_b1 c130; rw [r_gb, if_neg (fun z => z.elim n1 n2), if_pos q9] at hk9; exact hk9)
          | (have q9 := q_b0 c130; rw [r_gb, if_neg (fun z => z.elim n1 n2), if_neg (by rw [q9]; decide)] at hk9; exact hk9)
    refine wX9_greatestBase_11 (fun c11 => ?_) (fun c11 => absurd rfl c11)
    refine wX9_greatestBase_16 ?_
    refine wX9_greatestBase_17 ?_
    refine wX9_greatestBase_18 hM.c (mX9_hasContract hM hi ?_)
    refine wX9_greatestBase_21 (fun c21 => ?_) (fun c21 => ?_)
    · refine wX9_greatestBase_37 ?_
      refine wX9_greatestBase_39  ?_
      have hk9 := hk hl hg j i hj hi rfl rfl _ hM ho
      first
        | (have q9 : r_ty (r_set (m_r M) j np) 24 = 12 := c34; rw [r_gb, if_pos (Or.inr q9)] at hk9; exact hk9)
        | (have q9 := q_b1 c21; rw [r_gb, if_pos (Or.inl q9)] at hk9; exact hk9)
    · refine wX9_greatestBase_24 ?_
      refine wX9_greatestBase_25 ?_
      refine wX9_greatestBase_26 hM.c (mX9_rosterOf hM hO0 ?_)
      refine wX9_greatestBase_29 (mX9_many ?_)
      refine wX9_greatestBase_32 ?_
      refine wX9_greatestBase_34 (fun c34 => ?_) (fun c34 => ?_)
      · refine wX9_greatestBase_40 ?_
        refine wX9_greatestBase_41 hM.c ?_
        refine wX9_greatestBase_44 ?_
        refine wX9_greatestBase_45 hM.a1 (j := 1) rfl (by decide) (by decide) ?_
        refine wX9_greatestBase_46 ?_
        refine wX9_greatestBase_48 ?_
        refine wX9_greatestBase_49 hM.c ?_
        refine wX9_greatestBase_52 ?_
        refine wX9_greatestBase_53 ?_
        refine wX9_greatestBase_54 hM.a1 (j := 1) rfl (by decide) (by decide) ?_
        refine q_nL (k := 1) (by decide) hM ho (fun h2 hM ho => ?_)
        have hO1 : okM (mLr (mS M 4 0) 1 (ro (m_r M) 0 1)) w nt np nb := okM_row (r := m_r M) hO ro_nw (by rw [ro_oo, if_neg (by decide)]) (fun q hq hh => by
          rw [ro_op (by decide)]
          refine hO.2.2.2.2.2 q hq ?_
          have h1 := of_decide_eq_true hh
          rw [ro_op (by decide)] at h1
          exact decide_eq_true h1)
        have hM : isM h2 a (mLr (mS M 4 0) 1 (ro (m_r M) 0 1)) := hM
        refine wX9_greatestBase_55 ?_
        refine wX9_greatestBase_56 ?_
        refine wX9_greatestBase_57 ?_
        refine wX9_greatestBase_58 ?_
        refine wX9_greatestBase_59 hM.c (mX9_isAllowed hM hO1 hj hi ?_)
        refine wX9_greatestBase_62 ?_
        refine wX9_greatestBase_64 ?_
        refine wX9_greatestBase_65 hM.c ?_
        refine wX9_greatestBase_68 ?_
        refine wX9_greatestBase_69 ?_
        refine wX9_greatestBase_71 hM.a1 (j := 1) rfl (by decide) (by decide) ?_
        refine q_nL (k := 1) (by decide) hM ho (fun h2 hM ho => ?_)
        have hM : isM h2 a (mS M 4 0) := hM.e (mLr_2.trans ((congrArg (mLr (mS M 4 0) 1) (show _ = m_r M from vp_back)).trans mLr_i))
        have n1 : ¬ r_has (m_r M) i = true := by rw [q_b0 c21]; decide
        have n2 : ¬ r_ty (r_set (m_r M) j np) 24 = 12 := c34
        refine wX9_greatestBase_72 ?_
        refine wX9_greatestBase_73 (fun c73 => ?_) (fun c73 => ?_)
        · refine wX9_greatestBase_90 ?_
          refine wX9_greatestBase_91 ?_
          refine wX9_greatestBase_92 (fun c92 => ?_) (fun c92 => ?_)
          · refine wX9_greatestBase_110 ?_
            refine wX9_greatestBase_111 ?_
            refine wX9_greatestBase_112 (fun c112 => ?_) (fun c112 => ?_)
            · refine wX9_greatestBase_123 ?_
              first
                | (have q9 : ¬ x = 2 := c112; exact hj126 _ hM ho n1 n2 _ (by rw [r_most, if_neg c73, if_neg c92, if_neg q9]))
                | (have q9 : x = 2 := c112; exact hj126 _ hM ho n1 n2 _ (by rw [r_most, if_neg c73, if_neg c92, if_pos q9]; try rfl))
                | (have q9 : x = 1 := c92; exact hj126 _ hM ho n1 n2 _ (by rw [r_most, if_neg c73, if_pos q9]; try rfl))
                | (have q9 : x = 0 := c73; exact hj126 _ hM ho n1 n2 _ (by rw [r_most, if_pos q9]; try rfl))
            · refine wX9_greatestBase_115 ?_
              refine wX9_greatestBase_116 hM.c ?_
              refine wX9_greatestBase_119 ?_
              refine wX9_greatestBase_120 ?_
              first
                | (have q9 : ¬ x = 2 := c112; exact hj126 _ hM ho n1 n2 _ (by rw [r_most, if_neg c73, if_neg c92, if_neg q9]))
                | (have q9 : x = 2 := c112; exact hj126 _ hM ho n1 n2 _ (by rw [r_most, if_neg c73, if_neg c92, if_pos q9]; try rfl))
                | (have q9 : x = 1 := c92; exact hj126 _ hM ho n1 n2 _ (by rw [r_most, if_neg c73, if_pos q9]; try rfl))
                | (have q9 : x = 0 := c73; exact hj126 _ hM ho n1 n2 _ (by rw [r_most, if_pos q9]; try rfl))
          · refine wX9_greatestBase_95 ?_
            refine wX9_greatestBase_96 ?_
            refine wX9_greatestBase_97 ?_
            refine wX9_greatestBase_98 hM.c (mX9_ofTeam (w := 0) hM hj (by decide) ?_)
            refine wX9_greatestBase_101 ?_
            refine wX9_greatestBase_102 hM.c (mX9_firstShare hM hO0.2.2.2.2.1 ?_)
            refine wX9_greatestBase_105 ?_
            refine wX9_greatestBase_106 ?_
            refine wX9_greatestBase_107 ?_
            first
              | (have q9 : ¬ x = 2 := c112; exact hj126 _ hM ho n1 n2 _ (by rw [r_most, if_neg c73, if_neg c92, if_neg q9]))
              | (have q9 : x = 2 := c112; exact hj126 _ hM ho n1 n2 _ (by rw [r_most, if_neg c73, if_neg c92, if_pos q9]; try rfl))
              | (have q9 : x = 1 := c92; exact hj126 _ hM ho n1 n2 _ (by rw [r_most, if_neg c73, if_pos q9]; try rfl))
              | (have q9 : x = 0 := c73; exact hj126 _ hM ho n1 n2 _ (by rw [r_most, if_pos q9]; try rfl))
        · refine wX9_greatestBase_76 ?_
          refine wX9_greatestBase_77 ?_
          refine wX9_greatestBase_78 hM.c (mX9_roomOf hM hO0 hj ?_)
          refine wX9_greatestBase_81 ?_
          refine wX9_greatestBase_82 hM.c (mX9_firstShare hM hO0.2.2.2.2.1 ?_)
          refine wX9_greatestBase_85 ?_
          refine wX9_greatestBase_86 ?_
          refine wX9_greatestBase_87 ?_
          first
            | (have q9 : ¬ x = 2 := c112; exact hj126 _ hM ho n1 n2 _ (by rw [r_most, if_neg c73, if_neg c92, if_neg q9]))
            | (have q9 : x = 2 := c112; exact hj126 _ hM ho n1 n2 _ (by rw [r_most, if_neg c73, if_neg c92, if_pos q9]; try rfl))
            | (have q9 : x = 1 := c92; exact hj126 _ hM ho n1 n2 _ (by rw [r_most, if_neg c73, if_pos q9]; try rfl))
            | (have q9 : x = 0 := c73; exact hj126 _ hM ho n1 n2 _ (by rw [r_most, if_pos q9]; try rfl))
      · refine wX9_greatestBase_37 ?_
        refine wX9_greatestBase_39  ?_
        have hk9 := hk hl hg j i hj hi rfl rfl _ hM ho
        first
          | (have q9 : r_ty (r_set (m_r M) j np) 24 = 12 := c34; rw [r_gb, if_pos (Or.inr q9)] at hk9; exact hk9)
          | (have q9 := q_b1 c21; rw [r_gb, if_pos (Or.inl q9)] at hk9; exact hk9)
end CX9f
