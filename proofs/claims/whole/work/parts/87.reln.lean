/-! The reference answers as the class did: questions -/
section RELN
variable {V : q_En} {h : q_H} {z : Option Nat} {Kx : q_KX}
def o_year (S : q_Ls) : Int32 → Int64 → q_Ls → Prop := o_x S (true) (fun k v S' => k = 0 ∧ S' = S ∧ v = (b_w (ls_B S)).toInt64)
theorem sX9_year {a c : Nat} {S S' : q_Ls} {M : q_Mo} {k : Int32} {v : Int64} {P : Int32 → q_H → Option Nat → Prop} (hR : Rel S M c) (hc : c < 600) (hM : isM h a M) (hO : o_year S k v S') (hk : ∀ h2 M2 b, isM h2 a M2 → q_out a 13 h h2 → M2.1 4 = k → (k = 0 → b.toInt64 = v) → Rel S' M2 (c + 1) → P b h2 z) : QMi V iX9_year [.ref a] h z P Kx := by
  obtain ⟨nt, np, nb, w, hA, hP, hF⟩ := hR.get
  have eG : ¬ M.1 3 = 0 → (true) = (true) := fun m => by
    obtain ⟨-, hE, -⟩ := hF m
    rfl
  have hw : ∀ b h2, (M.1 3 = 0 ∨ (true) = false) → isM h2 a (mS M 4 (mo_th M (true))) → q_out a 13 h h2 → P b h2 z := fun b h2 q hM2 ho => by
    obtain ⟨w1, w2, w3⟩ := o_x.w hO hR.2.2.2.1 eG q
    subst w3
    exact hk _ _ _ hM2 ho w1 (fun e => absurd e w2) (hR.s4 _)
  refine mX9_year hM hA (fun q h2 hM2 ho => hw _ _ q hM2 ho) (fun m g h2 hM2 ho => ?_)
  obtain ⟨hl, hE, hE0, hB, hX⟩ := hF m
  have hw15 := hB.1.1
  obtain ⟨rfl, rfl, rfl⟩ := o_x.k hO hR.2.2.2.1 eG m g
  exact hk _ _ _ hM2 ho rfl (fun _ => congrArg Int32.toInt64 (hB.1.2.1.trans hB.1.2.2.1.symm)) (hR.s4 0)
def o_cap (S : q_Ls) (x : Int32) : Int32 → Int64 → q_Ls → Prop := o_x S (rg x 0 11) (fun k v S' => k = 0 ∧ S' = S ∧ v = (te_ci (ls_T S) (b_w (ls_B S) + x)).toInt64)
theorem sX9_cap {a c : Nat} {S S' : q_Ls} {M : q_Mo} {x : Int32} {k : Int32} {v : Int64} {P : Int32 → q_H → Option Nat → Prop} (hR : Rel S M c) (hc : c < 600) (hM : isM h a M) (hO : o_cap S x k v S') (hk : ∀ h2 M2 b, isM h2 a M2 → q_out a 13 h h2 → M2.1 4 = k → (k = 0 → b.toInt64 = v) → Rel S' M2 (c + 1) → P b h2 z) : QMi V iX9_cap [.ref a, .int x] h z P Kx := by
  obtain ⟨nt, np, nb, w, hA, hP, hF⟩ := hR.get
  have eG : ¬ M.1 3 = 0 → (mgA x) = (rg x 0 11) := fun m => by
    obtain ⟨-, hE, -⟩ := hF m
    exact mgA_rg
  have hw : ∀ b h2, (M.1 3 = 0 ∨ (mgA x) = false) → isM h2 a (mS M 4 (mo_th M (mgA x))) → q_out a 13 h h2 → P b h2 z := fun b h2 q hM2 ho => by
    obtain ⟨w1, w2, w3⟩ := o_x.w hO hR.2.2.2.1 eG q
    subst w3
    exact hk _ _ _ hM2 ho w1 (fun e => absurd e w2) (hR.s4 _)
  refine mX9_cap hM hA (fun q h2 hM2 ho => hw _ _ q hM2 ho) (fun m g y hy e h2 hM2 ho => ?_)
  obtain ⟨hl, hE, hE0, hB, hX⟩ := hF m
  have hw15 := hB.1.1
  obtain ⟨rfl, rfl, rfl⟩ := o_x.k hO hR.2.2.2.1 eG m g
  subst e
  exact hk _ _ _ hM2 ho rfl (fun _ => congrArg Int32.toInt64 ((by rw [hB.1.2.2.1]; exact hE0.cap (by omega)))) (hR.s4 0)
def o_taxLine (S : q_Ls) (x : Int32) : Int32 → Int64 → q_Ls → Prop := o_x S (rg x 0 11) (fun k v S' => k = 0 ∧ S' = S ∧ v = (te_li (ls_T S) (b_w (ls_B S) + x)).toInt64)
theorem sX9_taxLine {a c : Nat} {S S' : q_Ls} {M : q_Mo} {x : Int32} {k : Int32} {v : Int64} {P : Int32 → q_H → Option Nat → Prop} (hR : Rel S M c) (hc : c < 600) (hM : isM h a M) (hO : o_taxLine S x k v S') (hk : ∀ h2 M2 b, isM h2 a M2 → q_out a 13 h h2 → M2.1 4 = k → (k = 0 → b.toInt64 = v) → Rel S' M2 (c + 1) → P b h2 z) : QMi V iX9_taxLine [.ref a, .int x] h z P Kx := by
  obtain ⟨nt, np, nb, w, hA, hP, hF⟩ := hR.get
  have eG : ¬ M.1 3 = 0 → (mgA x) = (rg x 0 11) := fun m => by
    obtain ⟨-, hE, -⟩ := hF m
    exact mgA_rg
  have hw : ∀ b h2, (M.1 3 = 0 ∨ (mgA x) = false) → isM h2 a (mS M 4 (mo_th M (mgA x))) → q_out a 13 h h2 → P b h2 z := fun b h2 q hM2 ho => by
    obtain ⟨w1, w2, w3⟩ := o_x.w hO hR.2.2.2.1 eG q
    subst w3
    exact hk _ _ _ hM2 ho w1 (fun e => absurd e w2) (hR.s4 _)
  refine mX9_taxLine hM hA (fun q h2 hM2 ho => hw _ _ q hM2 ho) (fun m g y hy e h2 hM2 ho => ?_)
  obtain ⟨hl, hE, hE0, hB, hX⟩ := hF m
  have hw15 := hB.1.1
  obtain ⟨rfl, rfl, rfl⟩ := o_x.k hO hR.2.2.2.1 eG m g
  subst e
  exact hk _ _ _ hM2 ho rfl (fun _ => congrArg Int32.toInt64 ((by rw [hB.1.2.2.1]; exact hE0.line (by omega)))) (hR.s4 0)
def o_offer (S : q_Ls) (x : Int32) : Int32 → Int64 → q_Ls → Prop := o_x S (rg x 0 4) (fun k v S' => k = 0 ∧ S' = S ∧ v = (l_off S x).toInt64)
theorem sX9_offer {a c : Nat} {S S' : q_Ls} {M : q_Mo} {x : Int32} {k : Int32} {v : Int64} {P : Int32 → q_H → Option Nat → Prop} (hR : Rel S M c) (hc : c < 600) (hM : isM h a M) (hO : o_offer S x k v S') (hk : ∀ h2 M2 b, isM h2 a M2 → q_out a 13 h h2 → M2.1 4 = k → (k = 0 → b.toInt64 = v) → Rel S' M2 (c + 1) → P b h2 z) : QMi V iX9_offer [.ref a, .int x] h z P Kx := by
  obtain ⟨nt, np, nb, w, hA, hP, hF⟩ := hR.get
  have eG : ¬ M.1 3 = 0 → (rgL x.toInt64 0 4) = (rg x 0 4) := fun m => by
    obtain ⟨-, hE, -⟩ := hF m
    exact rgL_4
  have hw : ∀ b h2, (M.1 3 = 0 ∨ (rgL x.toInt64 0 4) = false) → isM h2 a (mS M 4 (mo_th M (rgL x.toInt64 0 4))) → q_out a 13 h h2 → P b h2 z := fun b h2 q hM2 ho => by
    obtain ⟨w1, w2, w3⟩ := o_x.w hO hR.2.2.2.1 eG q
    subst w3
    exact hk _ _ _ hM2 ho w1 (fun e => absurd e w2) (hR.s4 _)
  refine mX9_offer hM hA (fun q h2 hM2 ho => hw _ _ q hM2 ho) (fun m g y hy e h2 hM2 ho => ?_)
  obtain ⟨hl, hE, hE0, hB, hX⟩ := hF m
  have hw15 := hB.1.1
  obtain ⟨rfl, rfl, rfl⟩ := o_x.k hO hR.2.2.2.1 eG m g
  subst e
  exact hk _ _ _ hM2 ho rfl (fun _ => congrArg Int32.toInt64 (hB.of hy)) (hR.s4 0)
def o_charge (S : q_Ls) (t x : Int32) : Int32 → Int64 → q_Ls → Prop := o_x S (gT S t && rg x 0 11) (fun k v S' => k = 0 ∧ S' = S ∧ ∃ j, j < 4 ∧ t = nI j ∧ v = (b_ch (ls_B S) j (b_w (ls_B S) + x)).toInt64)
theorem sX9_charge {a c : Nat} {S S' : q_Ls} {M : q_Mo} {t x : Int32} {k : Int32} {v : Int64} {P : Int32 → q_H → Option Nat → Prop} (hR : Rel S M c) (hc : c < 600) (hM : isM h a M) (hO : o_charge S t x k v S') (hk : ∀ h2 M2 b, isM h2 a M2 → q_out a 13 h h2 → M2.1 4 = k → (k = 0 → b.toInt64 = v) → Rel S' M2 (c + 1) → P b h2 z) : QMi V iX9_charge [.ref a, .int t, .int x] h z P Kx := by
  obtain ⟨nt, np, nb, w, hA, hP, hF⟩ := hR.get
  have eG : ¬ M.1 3 = 0 → (mgT M t && mgA x) = (gT S t && rg x 0 11) := fun m => by
    obtain ⟨-, hE, -⟩ := hF m
    rw [hE.eT, mgA_rg]
  have hw : ∀ b h2, (M.1 3 = 0 ∨ (mgT M t && mgA x) = false) → isM h2 a (mS M 4 (mo_th M (mgT M t && mgA x))) → q_out a 13 h h2 → P b h2 z := fun b h2 q hM2 ho => by
    obtain ⟨w1, w2, w3⟩ := o_x.w hO hR.2.2.2.1 eG q
    subst w3
    exact hk _ _ _ hM2 ho w1 (fun e => absurd e w2) (hR.s4 _)
  refine mX9_charge hM hA (fun q h2 hM2 ho => hw _ _ q hM2 ho) (fun m g j hj e y hy e3 h2 hM2 ho => ?_)
  obtain ⟨hl, hE, hE0, hB, hX⟩ := hF m
  have hw15 := hB.1.1
  obtain ⟨rfl, rfl, j2, hj2, e2, rfl⟩ := o_x.k hO hR.2.2.2.1 eG m g
  subst e
  subst e3
  obtain rfl : j = j2 := nI_inj (by omega) (by omega) e2
  exact hk _ _ _ hM2 ho rfl (fun _ => congrArg Int32.toInt64 ((by rw [hB.1.2.2.1]; exact hB.ch hj hy))) (hR.s4 0)
def o_deadMoney (S : q_Ls) (t x : Int32) : Int32 → Int64 → q_Ls → Prop := o_x S (gT S t && rg x 0 11) (fun k v S' => k = 0 ∧ S' = S ∧ ∃ j, j < 4 ∧ t = nI j ∧ v = (t_in (b_t (ls_B S) j) (b_w (ls_B S) + x)).toInt64)
theorem sX9_deadMoney {a c : Nat} {S S' : q_Ls} {M : q_Mo} {t x : Int32} {k : Int32} {v : Int64} {P : Int32 → q_H → Option Nat → Prop} (hR : Rel S M c) (hc : c < 600) (hM : isM h a M) (hO : o_deadMoney S t x k v S') (hk : ∀ h2 M2 b, isM h2 a M2 → q_out a 13 h h2 → M2.1 4 = k → (k = 0 → b.toInt64 = v) → Rel S' M2 (c + 1) → P b h2 z) : QMi V iX9_deadMoney [.ref a, .int t, .int x] h z P Kx := by
  obtain ⟨nt, np, nb, w, hA, hP, hF⟩ := hR.get
  have eG : ¬ M.1 3 = 0 → (mgT M t && mgA x) = (gT S t && rg x 0 11) := fun m => by
    obtain ⟨-, hE, -⟩ := hF m
    rw [hE.eT, mgA_rg]
  have hw : ∀ b h2, (M.1 3 = 0 ∨ (mgT M t && mgA x) = false) → isM h2 a (mS M 4 (mo_th M (mgT M t && mgA x))) → q_out a 13 h h2 → P b h2 z := fun b h2 q hM2 ho => by
    obtain ⟨w1, w2, w3⟩ := o_x.w hO hR.2.2.2.1 eG q
    subst w3
    exact hk _ _ _ hM2 ho w1 (fun e => absurd e w2) (hR.s4 _)
  refine mX9_deadMoney hM hA (fun q h2 hM2 ho => hw _ _ q hM2 ho) (fun m g j hj e y hy e3 h2 hM2 ho => ?_)
  obtain ⟨hl, hE, hE0, hB, hX⟩ := hF m
  have hw15 := hB.1.1
  obtain ⟨rfl, rfl, j2, hj2, e2, rfl⟩ := o_x.k hO hR.2.2.2.1 eG m g
  subst e
  subst e3
  obtain rfl : j = j2 := nI_inj (by omega) (by omega) e2
  exact hk _ _ _ hM2 ho rfl (fun _ => congrArg Int32.toInt64 ((by rw [hB.1.2.2.1]; exact hB.dd hj hy))) (hR.s4 0)
def o_room (S : q_Ls) (t : Int32) : Int32 → Int64 → q_Ls → Prop := o_x S (gT S t) (fun k v S' => k = 0 ∧ S' = S ∧ ∃ j, j < 4 ∧ t = nI j ∧ v = (l_room S j).toInt64)
theorem sX9_room {a c : Nat} {S S' : q_Ls} {M : q_Mo} {t : Int32} {k : Int32} {v : Int64} {P : Int32 → q_H → Option Nat → Prop} (hR : Rel S M c) (hc : c < 600) (hM : isM h a M) (hO : o_room S t k v S') (hk : ∀ h2 M2 b, isM h2 a M2 → q_out a 13 h h2 → M2.1 4 = k → (k = 0 → b.toInt64 = v) → Rel S' M2 (c + 1) → P b h2 z) : QMi V iX9_room [.ref a, .int t] h z P Kx := by
  obtain ⟨nt, np, nb, w, hA, hP, hF⟩ := hR.get
  have eG : ¬ M.1 3 = 0 → (mgT M t) = (gT S t) := fun m => by
    obtain ⟨-, hE, -⟩ := hF m
    exact hE.eT
  have hw : ∀ b h2, (M.1 3 = 0 ∨ (mgT M t) = false) → isM h2 a (mS M 4 (mo_th M (mgT M t))) → q_out a 13 h h2 → P b h2 z := fun b h2 q hM2 ho => by
    obtain ⟨w1, w2, w3⟩ := o_x.w hO hR.2.2.2.1 eG q
    subst w3
    exact hk _ _ _ hM2 ho w1 (fun e => absurd e w2) (hR.s4 _)
  refine mX9_room hM hA (fun q h2 hM2 ho => hw _ _ q hM2 ho) (fun m g j hj e h2 hM2 ho => ?_)
  obtain ⟨hl, hE, hE0, hB, hX⟩ := hF m
  have hw15 := hB.1.1
  obtain ⟨rfl, rfl, j2, hj2, e2, rfl⟩ := o_x.k hO hR.2.2.2.1 eG m g
  subst e
  obtain rfl : j = j2 := nI_inj (by omega) (by omega) e2
  exact hk _ _ _ hM2 ho rfl (fun _ => congrArg Int32.toInt64 (RB.room (M := mS M 4 0) hB hE0 hj)) (hR.s4 0)
def o_tax (S : q_Ls) (t : Int32) : Int32 → Int64 → q_Ls → Prop := o_x S (gT S t) (fun k v S' => k = 0 ∧ S' = S ∧ ∃ j, j < 4 ∧ t = nI j ∧ v = l_tax S j (b_ch (ls_B S) j (b_w (ls_B S))))
theorem sX9_tax {a c : Nat} {S S' : q_Ls} {M : q_Mo} {t : Int32} {k : Int32} {v : Int64} {P : Int64 → q_H → Option Nat → Prop} (hR : Rel S M c) (hc : c < 600) (hM : isM h a M) (hO : o_tax S t k v S') (hk : ∀ h2 M2 b, isM h2 a M2 → q_out a 13 h h2 → M2.1 4 = k → (k = 0 → b = v) → Rel S' M2 (c + 1) → P b h2 z) : QMl V iX9_tax [.ref a, .int t] h z P Kx := by
  obtain ⟨nt, np, nb, w, hA, hP, hF⟩ := hR.get
  have eG : ¬ M.1 3 = 0 → (mgT M t) = (gT S t) := fun m => by
    obtain ⟨-, hE, -⟩ := hF m
    exact hE.eT
  have hw : ∀ b h2, (M.1 3 = 0 ∨ (mgT M t) = false) → isM h2 a (mS M 4 (mo_th M (mgT M t))) → q_out a 13 h h2 → P b h2 z := fun b h2 q hM2 ho => by
    obtain ⟨w1, w2, w3⟩ := o_x.w hO hR.2.2.2.1 eG q
    subst w3
    exact hk _ _ _ hM2 ho w1 (fun e => absurd e w2) (hR.s4 _)
  refine mX9_tax hM hA (fun q h2 hM2 ho => hw _ _ q hM2 ho) (fun m g j hj e h2 hM2 ho => ?_)
  obtain ⟨hl, hE, hE0, hB, hX⟩ := hF m
  have hw15 := hB.1.1
  obtain ⟨rfl, rfl, j2, hj2, e2, rfl⟩ := o_x.k hO hR.2.2.2.1 eG m g
  subst e
  obtain rfl : j = j2 := nI_inj (by omega) (by omega) e2
  exact hk _ _ _ hM2 ho rfl (fun _ => RB.tax (M := mS M 4 0) hB hE0 (by omega) hj) (hR.s4 0)
def o_paid (S : q_Ls) (t : Int32) : Int32 → Int64 → q_Ls → Prop := o_x S (gT S t) (fun k v S' => k = 0 ∧ S' = S ∧ ∃ j, j < 4 ∧ t = nI j ∧ v = t_p (b_t (ls_B S) j))
theorem sX9_paid {a c : Nat} {S S' : q_Ls} {M : q_Mo} {t : Int32} {k : Int32} {v : Int64} {P : Int64 → q_H → Option Nat → Prop} (hR : Rel S M c) (hc : c < 600) (hM : isM h a M) (hO : o_paid S t k v S') (hk : ∀ h2 M2 b, isM h2 a M2 → q_out a 13 h h2 → M2.1 4 = k → (k = 0 → b = v) → Rel S' M2 (c + 1) → P b h2 z) : QMl V iX9_paid [.ref a, .int t] h z P Kx := by
  obtain ⟨nt, np, nb, w, hA, hP, hF⟩ := hR.get
  have eG : ¬ M.1 3 = 0 → (mgT M t) = (gT S t) := fun m => by
    obtain ⟨-, hE, -⟩ := hF m
    exact hE.eT
  have hw : ∀ b h2, (M.1 3 = 0 ∨ (mgT M t) = false) → isM h2 a (mS M 4 (mo_th M (mgT M t))) → q_out a 13 h h2 → P b h2 z := fun b h2 q hM2 ho => by
    obtain ⟨w1, w2, w3⟩ := o_x.w hO hR.2.2.2.1 eG q
    subst w3
    exact hk _ _ _ hM2 ho w1 (fun e => absurd e w2) (hR.s4 _)
  refine mX9_paid hM hA (fun q h2 hM2 ho => hw _ _ q hM2 ho) (fun m g j hj e h2 hM2 ho => ?_)
  obtain ⟨hl, hE, hE0, hB, hX⟩ := hF m
  have hw15 := hB.1.1
  obtain ⟨rfl, rfl, j2, hj2, e2, rfl⟩ := o_x.k hO hR.2.2.2.1 eG m g
  subst e
  obtain rfl : j = j2 := nI_inj (by omega) (by omega) e2
  exact hk _ _ _ hM2 ho rfl (fun _ => (hB.2.2.1 j hj).2.2.2.2.2) (hR.s4 0)
def o_taxedYears (S : q_Ls) (t : Int32) : Int32 → Int64 → q_Ls → Prop := o_x S (gT S t) (fun k v S' => k = 0 ∧ S' = S ∧ ∃ j, j < 4 ∧ t = nI j ∧ v = (t_x (b_t (ls_B S) j)).toInt64)
theorem sX9_taxedYears {a c : Nat} {S S' : q_Ls} {M : q_Mo} {t : Int32} {k : Int32} {v : Int64} {P : Int32 → q_H → Option Nat → Prop} (hR : Rel S M c) (hc : c < 600) (hM : isM h a M) (hO : o_taxedYears S t k v S') (hk : ∀ h2 M2 b, isM h2 a M2 → q_out a 13 h h2 → M2.1 4 = k → (k = 0 → b.toInt64 = v) → Rel S' M2 (c + 1) → P b h2 z) : QMi V iX9_taxedYears [.ref a, .int t] h z P Kx := by
  obtain ⟨nt, np, nb, w, hA, hP, hF⟩ := hR.get
  have eG : ¬ M.1 3 = 0 → (mgT M t) = (gT S t) := fun m => by
    obtain ⟨-, hE, -⟩ := hF m
    exact hE.eT
  have hw : ∀ b h2, (M.1 3 = 0 ∨ (mgT M t) = false) → isM h2 a (mS M 4 (mo_th M (mgT M t))) → q_out a 13 h h2 → P b h2 z := fun b h2 q hM2 ho => by
    obtain ⟨w1, w2, w3⟩ := o_x.w hO hR.2.2.2.1 eG q
    subst w3
    exact hk _ _ _ hM2 ho w1 (fun e => absurd e w2) (hR.s4 _)
  refine mX9_taxedYears hM hA (fun q h2 hM2 ho => hw _ _ q hM2 ho) (fun m g j hj e h2 hM2 ho => ?_)
  obtain ⟨hl, hE, hE0, hB, hX⟩ := hF m
  have hw15 := hB.1.1
  obtain ⟨rfl, rfl, j2, hj2, e2, rfl⟩ := o_x.k hO hR.2.2.2.1 eG m g
  subst e
  obtain rfl : j = j2 := nI_inj (by omega) (by omega) e2
  exact hk _ _ _ hM2 ho rfl (fun _ => congrArg Int32.toInt64 ((hB.2.2.1 j hj).tx)) (hR.s4 0)
def o_midLevel (S : q_Ls) (t : Int32) : Int32 → Int64 → q_Ls → Prop := o_x S (gT S t) (fun k v S' => k = 0 ∧ S' = S ∧ ∃ j, j < 4 ∧ t = nI j ∧ v = (t_m (b_t (ls_B S) j)).toInt64)
theorem sX9_midLevel {a c : Nat} {S S' : q_Ls} {M : q_Mo} {t : Int32} {k : Int32} {v : Int64} {P : Int32 → q_H → Option Nat → Prop} (hR : Rel S M c) (hc : c < 600) (hM : isM h a M) (hO : o_midLevel S t k v S') (hk : ∀ h2 M2 b, isM h2 a M2 → q_out a 13 h h2 → M2.1 4 = k → (k = 0 → b.toInt64 = v) → Rel S' M2 (c + 1) → P b h2 z) : QMi V iX9_midLevel [.ref a, .int t] h z P Kx := by
  obtain ⟨nt, np, nb, w, hA, hP, hF⟩ := hR.get
  have eG : ¬ M.1 3 = 0 → (mgT M t) = (gT S t) := fun m => by
    obtain ⟨-, hE, -⟩ := hF m
    exact hE.eT
  have hw : ∀ b h2, (M.1 3 = 0 ∨ (mgT M t) = false) → isM h2 a (mS M 4 (mo_th M (mgT M t))) → q_out a 13 h h2 → P b h2 z := fun b h2 q hM2 ho => by
    obtain ⟨w1, w2, w3⟩ := o_x.w hO hR.2.2.2.1 eG q
    subst w3
    exact hk _ _ _ hM2 ho w1 (fun e => absurd e w2) (hR.s4 _)
  refine mX9_midLevel hM hA (fun q h2 hM2 ho => hw _ _ q hM2 ho) (fun m g j hj e h2 hM2 ho => ?_)
  obtain ⟨hl, hE, hE0, hB, hX⟩ := hF m
  have hw15 := hB.1.1
  obtain ⟨rfl, rfl, j2, hj2, e2, rfl⟩ := o_x.k hO hR.2.2.2.1 eG m g
  subst e
  obtain rfl : j = j2 := nI_inj (by omega) (by omega) e2
  exact hk _ _ _ hM2 ho rfl (fun _ => congrArg Int32.toInt64 ((congrArg Int64.toInt32 (hB.2.2.1 j hj).2.1).trans (Int32.toInt32_toInt64 _))) (hR.s4 0)
def o_roster (S : q_Ls) (t : Int32) : Int32 → Int64 → q_Ls → Prop := o_x S (gT S t) (fun k v S' => k = 0 ∧ S' = S ∧ ∃ j, j < 4 ∧ t = nI j ∧ v = (b_set (ls_B S) (nI j) 24).toInt64)
theorem sX9_roster {a c : Nat} {S S' : q_Ls} {M : q_Mo} {t : Int32} {k : Int32} {v : Int64} {P : Int32 → q_H → Option Nat → Prop} (hR : Rel S M c) (hc : c < 600) (hM : isM h a M) (hO : o_roster S t k v S') (hk : ∀ h2 M2 b, isM h2 a M2 → q_out a 13 h h2 → M2.1 4 = k → (k = 0 → b.toInt64 = v) → Rel S' M2 (c + 1) → P b h2 z) : QMi V iX9_roster [.ref a, .int t] h z P Kx := by
  obtain ⟨nt, np, nb, w, hA, hP, hF⟩ := hR.get
  have eG : ¬ M.1 3 = 0 → (mgT M t) = (gT S t) := fun m => by
    obtain ⟨-, hE, -⟩ := hF m
    exact hE.eT
  have hw : ∀ b h2, (M.1 3 = 0 ∨ (mgT M t) = false) → isM h2 a (mS M 4 (mo_th M (mgT M t))) → q_out a 13 h h2 → P b h2 z := fun b h2 q hM2 ho => by
    obtain ⟨w1, w2, w3⟩ := o_x.w hO hR.2.2.2.1 eG q
    subst w3
    exact hk _ _ _ hM2 ho w1 (fun e => absurd e w2) (hR.s4 _)
  refine mX9_roster hM hA (fun q h2 hM2 ho => hw _ _ q hM2 ho) (fun m g j hj e h2 hM2 ho => ?_)
  obtain ⟨hl, hE, hE0, hB, hX⟩ := hF m
  have hw15 := hB.1.1
  obtain ⟨rfl, rfl, j2, hj2, e2, rfl⟩ := o_x.k hO hR.2.2.2.1 eG m g
  subst e
  obtain rfl : j = j2 := nI_inj (by omega) (by omega) e2
  exact hk _ _ _ hM2 ho rfl (fun _ => congrArg Int32.toInt64 (hB.set hj)) (hR.s4 0)
def o_salary (S : q_Ls) (p x : Int32) : Int32 → Int64 → q_Ls → Prop := o_x S (gP S p && rg x 0 11) (fun k v S' => k = 0 ∧ S' = S ∧ ∃ i, i < 24 ∧ p = nI i ∧ v = (pl_sal (b_p (ls_B S) i) (b_w (ls_B S) + x)).toInt64)
theorem sX9_salary {a c : Nat} {S S' : q_Ls} {M : q_Mo} {p x : Int32} {k : Int32} {v : Int64} {P : Int32 → q_H → Option Nat → Prop} (hR : Rel S M c) (hc : c < 600) (hM : isM h a M) (hO : o_salary S p x k v S') (hk : ∀ h2 M2 b, isM h2 a M2 → q_out a 13 h h2 → M2.1 4 = k → (k = 0 → b.toInt64 = v) → Rel S' M2 (c + 1) → P b h2 z) : QMi V iX9_salary [.ref a, .int p, .int x] h z P Kx := by
  obtain ⟨nt, np, nb, w, hA, hP, hF⟩ := hR.get
  have eG : ¬ M.1 3 = 0 → (mgP M p && mgA x) = (gP S p && rg x 0 11) := fun m => by
    obtain ⟨-, hE, -⟩ := hF m
    rw [hE.eP, mgA_rg]
  have hw : ∀ b h2, (M.1 3 = 0 ∨ (mgP M p && mgA x) = false) → isM h2 a (mS M 4 (mo_th M (mgP M p && mgA x))) → q_out a 13 h h2 → P b h2 z := fun b h2 q hM2 ho => by
    obtain ⟨w1, w2, w3⟩ := o_x.w hO hR.2.2.2.1 eG q
    subst w3
    exact hk _ _ _ hM2 ho w1 (fun e => absurd e w2) (hR.s4 _)
  refine mX9_salary hM hA (fun q h2 hM2 ho => hw _ _ q hM2 ho) (fun m g i hi e y hy e3 h2 hM2 ho => ?_)
  obtain ⟨hl, hE, hE0, hB, hX⟩ := hF m
  have hw15 := hB.1.1
  obtain ⟨rfl, rfl, i2, hi2, e2, rfl⟩ := o_x.k hO hR.2.2.2.1 eG m g
  subst e
  subst e3
  obtain rfl : i = i2 := nI_inj (by omega) (by omega) e2
  exact hk _ _ _ hM2 ho rfl (fun _ => congrArg Int32.toInt64 ((by rw [hB.1.2.2.1]; exact (hB.p hi).sl hB.1.2.1 hB.1.1 (by omega)))) (hR.s4 0)
def o_share (S : q_Ls) (p x : Int32) : Int32 → Int64 → q_Ls → Prop := o_x S (gP S p && rg x 0 11) (fun k v S' => k = 0 ∧ S' = S ∧ ∃ i, i < 24 ∧ p = nI i ∧ v = (pl_shr (b_p (ls_B S) i) (b_w (ls_B S) + x)).toInt64)
theorem sX9_share {a c : Nat} {S S' : q_Ls} {M : q_Mo} {p x : Int32} {k : Int32} {v : Int64} {P : Int32 → q_H → Option Nat → Prop} (hR : Rel S M c) (hc : c < 600) (hM : isM h a M) (hO : o_share S p x k v S') (hk : ∀ h2 M2 b, isM h2 a M2 → q_out a 13 h h2 → M2.1 4 = k → (k = 0 → b.toInt64 = v) → Rel S' M2 (c + 1) → P b h2 z) : QMi V iX9_share [.ref a, .int p, .int x] h z P Kx := by
  obtain ⟨nt, np, nb, w, hA, hP, hF⟩ := hR.get
  have eG : ¬ M.1 3 = 0 → (mgP M p && mgA x) = (gP S p && rg x 0 11) := fun m => by
    obtain ⟨-, hE, -⟩ := hF m
    rw [hE.eP, mgA_rg]
  have hw : ∀ b h2, (M.1 3 = 0 ∨ (mgP M p && mgA x) = false) → isM h2 a (mS M 4 (mo_th M (mgP M p && mgA x))) → q_out a 13 h h2 → P b h2 z := fun b h2 q hM2 ho => by
    obtain ⟨w1, w2, w3⟩ := o_x.w hO hR.2.2.2.1 eG q
    subst w3
    exact hk _ _ _ hM2 ho w1 (fun e => absurd e w2) (hR.s4 _)
  refine mX9_share hM hA (fun q h2 hM2 ho => hw _ _ q hM2 ho) (fun m g i hi e y hy e3 h2 hM2 ho => ?_)
  obtain ⟨hl, hE, hE0, hB, hX⟩ := hF m
  have hw15 := hB.1.1
  obtain ⟨rfl, rfl, i2, hi2, e2, rfl⟩ := o_x.k hO hR.2.2.2.1 eG m g
  subst e
  subst e3
  obtain rfl : i = i2 := nI_inj (by omega) (by omega) e2
  exact hk _ _ _ hM2 ho rfl (fun _ => congrArg Int32.toInt64 ((by rw [hB.1.2.2.1]; exact (hB.p hi).sh hB.1.2.1 hB.1.1 (by omega)))) (hR.s4 0)
def o_playerValue (S : q_Ls) (p x : Int32) : Int32 → Int64 → q_Ls → Prop := o_x S (gP S p && rg x 0 6) (fun k v S' => k = 0 ∧ S' = S ∧ ∃ i, i < 24 ∧ p = nI i ∧ v = (l_pv S i x).toInt64)
theorem sX9_playerValue {a c : Nat} {S S' : q_Ls} {M : q_Mo} {p x : Int32} {k : Int32} {v : Int64} {P : Int32 → q_H → Option Nat → Prop} (hR : Rel S M c) (hc : c < 600) (hM : isM h a M) (hO : o_playerValue S p x k v S') (hk : ∀ h2 M2 b, isM h2 a M2 → q_out a 13 h h2 → M2.1 4 = k → (k = 0 → b.toInt64 = v) → Rel S' M2 (c + 1) → P b h2 z) : QMi V iX9_playerValue [.ref a, .int p, .int x] h z P Kx := by
  obtain ⟨nt, np, nb, w, hA, hP, hF⟩ := hR.get
  have eG : ¬ M.1 3 = 0 → (mgP M p && rgL x.toInt64 0 6) = (gP S p && rg x 0 6) := fun m => by
    obtain ⟨-, hE, -⟩ := hF m
    rw [hE.eP, rgL_6]
  have hw : ∀ b h2, (M.1 3 = 0 ∨ (mgP M p && rgL x.toInt64 0 6) = false) → isM h2 a (mS M 4 (mo_th M (mgP M p && rgL x.toInt64 0 6))) → q_out a 13 h h2 → P b h2 z := fun b h2 q hM2 ho => by
    obtain ⟨w1, w2, w3⟩ := o_x.w hO hR.2.2.2.1 eG q
    subst w3
    exact hk _ _ _ hM2 ho w1 (fun e => absurd e w2) (hR.s4 _)
  refine mX9_playerValue hM hA (fun q h2 hM2 ho => hw _ _ q hM2 ho) (fun m g i hi e y hy e3 h2 hM2 ho => ?_)
  obtain ⟨hl, hE, hE0, hB, hX⟩ := hF m
  have hw15 := hB.1.1
  obtain ⟨rfl, rfl, i2, hi2, e2, rfl⟩ := o_x.k hO hR.2.2.2.1 eG m g
  subst e
  subst e3
  obtain rfl : i = i2 := nI_inj (by omega) (by omega) e2
  exact hk _ _ _ hM2 ho rfl (fun _ => congrArg Int32.toInt64 (hB.pv hi hy)) (hR.s4 0)
def o_releaseCost (S : q_Ls) (p st x : Int32) : Int32 → Int64 → q_Ls → Prop := o_x S (gP S p && rg x 0 11) (fun k v S' => k = 0 ∧ S' = S ∧ ∃ i, i < 24 ∧ p = nI i ∧ v = (if pl_has (b_p (ls_B S) i) = true then pl_rc (b_p (ls_B S) i) (b_w (ls_B S)) st x else -2).toInt64)
theorem sX9_releaseCost {a c : Nat} {S S' : q_Ls} {M : q_Mo} {p st x : Int32} {k : Int32} {v : Int64} {P : Int32 → q_H → Option Nat → Prop} (hR : Rel S M c) (hc : c < 600) (hM : isM h a M) (hO : o_releaseCost S p st x k v S') (hk : ∀ h2 M2 b, isM h2 a M2 → q_out a 13 h h2 → M2.1 4 = k → (k = 0 → b.toInt64 = v) → Rel S' M2 (c + 1) → P b h2 z) : QMi V iX9_releaseCost [.ref a, .int p, .int st, .int x] h z P Kx := by
  obtain ⟨nt, np, nb, w, hA, hP, hF⟩ := hR.get
  have eG : ¬ M.1 3 = 0 → (mgP M p && mgA x) = (gP S p && rg x 0 11) := fun m => by
    obtain ⟨-, hE, -⟩ := hF m
    rw [hE.eP, mgA_rg]
  have hw : ∀ b h2, (M.1 3 = 0 ∨ (mgP M p && mgA x) = false) → isM h2 a (mS M 4 (mo_th M (mgP M p && mgA x))) → q_out a 13 h h2 → P b h2 z := fun b h2 q hM2 ho => by
    obtain ⟨w1, w2, w3⟩ := o_x.w hO hR.2.2.2.1 eG q
    subst w3
    exact hk _ _ _ hM2 ho w1 (fun e => absurd e w2) (hR.s4 _)
  refine mX9_releaseCost hM hA hP (fun q h2 hM2 ho => hw _ _ q hM2 ho) (fun m g i hi e y hy e3 h2 f hM2 ho => ?_)
  obtain ⟨hl, hE, hE0, hB, hX⟩ := hF m
  have hw15 := hB.1.1
  obtain ⟨rfl, rfl, i2, hi2, e2, rfl⟩ := o_x.k hO hR.2.2.2.1 eG m g
  subst e
  subst e3
  obtain rfl : i = i2 := nI_inj (by omega) (by omega) e2
  exact hk _ _ _ hM2 ho rfl (fun _ => congrArg Int32.toInt64 (hB.rc hi hy st)) ((hR.s4 0).i10 f)
def o_releaseGain (S : q_Ls) (p st : Int32) : Int32 → Int64 → q_Ls → Prop := o_x S (gP S p) (fun k v S' => k = 0 ∧ S' = S ∧ ∃ i, i < 24 ∧ p = nI i ∧ v = (if pl_has (b_p (ls_B S) i) = true then pl_gn (b_p (ls_B S) i) (b_w (ls_B S)) st else 0).toInt64)
theorem sX9_releaseGain {a c : Nat} {S S' : q_Ls} {M : q_Mo} {p st : Int32} {k : Int32} {v : Int64} {P : Int32 → q_H → Option Nat → Prop} (hR : Rel S M c) (hc : c < 600) (hM : isM h a M) (hO : o_releaseGain S p st k v S') (hk : ∀ h2 M2 b, isM h2 a M2 → q_out a 13 h h2 → M2.1 4 = k → (k = 0 → b.toInt64 = v) → Rel S' M2 (c + 1) → P b h2 z) : QMi V iX9_releaseGain [.ref a, .int p, .int st] h z P Kx := by
  obtain ⟨nt, np, nb, w, hA, hP, hF⟩ := hR.get
  have eG : ¬ M.1 3 = 0 → (mgP M p) = (gP S p) := fun m => by
    obtain ⟨-, hE, -⟩ := hF m
    exact hE.eP
  have hw : ∀ b h2, (M.1 3 = 0 ∨ (mgP M p) = false) → isM h2 a (mS M 4 (mo_th M (mgP M p))) → q_out a 13 h h2 → P b h2 z := fun b h2 q hM2 ho => by
    obtain ⟨w1, w2, w3⟩ := o_x.w hO hR.2.2.2.1 eG q
    subst w3
    exact hk _ _ _ hM2 ho w1 (fun e => absurd e w2) (hR.s4 _)
  refine mX9_releaseGain hM hA hP (fun q h2 hM2 ho => hw _ _ q hM2 ho) (fun m g i hi e h2 f hM2 ho => ?_)
  obtain ⟨hl, hE, hE0, hB, hX⟩ := hF m
  have hw15 := hB.1.1
  obtain ⟨rfl, rfl, i2, hi2, e2, rfl⟩ := o_x.k hO hR.2.2.2.1 eG m g
  subst e
  obtain rfl : i = i2 := nI_inj (by omega) (by omega) e2
  exact hk _ _ _ hM2 ho rfl (fun _ => congrArg Int32.toInt64 (hB.rg hi st)) ((hR.s4 0).i10 f)
def o_signCode (S : q_Ls) (t p x : Int32) : Int32 → Int64 → q_Ls → Prop := o_x S (gT S t && gP S p && rg x 0 3) (fun k v S' => k = 0 ∧ S' = S ∧ ∃ j, j < 4 ∧ t = nI j ∧ ∃ i, i < 24 ∧ p = nI i ∧ v = (l_se S j i x).toInt64)
theorem sX9_signCode {a c : Nat} {S S' : q_Ls} {M : q_Mo} {t p x : Int32} {k : Int32} {v : Int64} {P : Int32 → q_H → Option Nat → Prop} (hR : Rel S M c) (hc : c < 600) (hM : isM h a M) (hO : o_signCode S t p x k v S') (hk : ∀ h2 M2 b, isM h2 a M2 → q_out a 13 h h2 → M2.1 4 = k → (k = 0 → b.toInt64 = v) → Rel S' M2 (c + 1) → P b h2 z) : QMi V iX9_signCode [.ref a, .int t, .int p, .int x] h z P Kx := by
  obtain ⟨nt, np, nb, w, hA, hP, hF⟩ := hR.get
  have eG : ¬ M.1 3 = 0 → (mgS M t p x) = (gT S t && gP S p && rg x 0 3) := fun m => by
    obtain ⟨-, hE, -⟩ := hF m
    exact hE.eS
  have hw : ∀ b h2, (M.1 3 = 0 ∨ (mgS M t p x) = false) → isM h2 a (mS M 4 (mo_th M (mgS M t p x))) → q_out a 13 h h2 → P b h2 z := fun b h2 q hM2 ho => by
    obtain ⟨w1, w2, w3⟩ := o_x.w hO hR.2.2.2.1 eG q
    subst w3
    exact hk _ _ _ hM2 ho w1 (fun e => absurd e w2) (hR.s4 _)
  refine mX9_signCode hM hA (fun q h2 hM2 ho => hw _ _ q hM2 ho) (fun m g j i hj hi e e3 h2 hM2 ho => ?_)
  obtain ⟨hl, hE, hE0, hB, hX⟩ := hF m
  have hw15 := hB.1.1
  obtain ⟨rfl, rfl, j2, hj2, e2, i2, hi2, e4, rfl⟩ := o_x.k hO hR.2.2.2.1 eG m g
  subst e
  subst e3
  obtain rfl : j = j2 := nI_inj (by omega) (by omega) e2
  obtain rfl : i = i2 := nI_inj (by omega) (by omega) e4
  exact hk _ _ _ hM2 ho rfl (fun _ => congrArg Int32.toInt64 (RB.why (M := mS M 4 0) hB hE0 (by omega) hj hi x)) (hR.s4 0)
def o_greatestBase (S : q_Ls) (t p x : Int32) : Int32 → Int64 → q_Ls → Prop := o_x S (gT S t && gP S p && rg x 0 3) (fun k v S' => k = 0 ∧ S' = S ∧ ∃ j, j < 4 ∧ t = nI j ∧ ∃ i, i < 24 ∧ p = nI i ∧ v = (l_gb S j i x).toInt64)
theorem sX9_greatestBase {a c : Nat} {S S' : q_Ls} {M : q_Mo} {t p x : Int32} {k : Int32} {v : Int64} {P : Int32 → q_H → Option Nat → Prop} (hR : Rel S M c) (hc : c < 600) (hM : isM h a M) (hO : o_greatestBase S t p x k v S') (hk : ∀ h2 M2 b, isM h2 a M2 → q_out a 13 h h2 → M2.1 4 = k → (k = 0 → b.toInt64 = v) → Rel S' M2 (c + 1) → P b h2 z) : QMi V iX9_greatestBase [.ref a, .int t, .int p, .int x] h z P Kx := by
  obtain ⟨nt, np, nb, w, hA, hP, hF⟩ := hR.get
  have eG : ¬ M.1 3 = 0 → (mgS M t p x) = (gT S t && gP S p && rg x 0 3) := fun m => by
    obtain ⟨-, hE, -⟩ := hF m
    exact hE.eS
  have hw : ∀ b h2, (M.1 3 = 0 ∨ (mgS M t p x) = false) → isM h2 a (mS M 4 (mo_th M (mgS M t p x))) → q_out a 13 h h2 → P b h2 z := fun b h2 q hM2 ho => by
    obtain ⟨w1, w2, w3⟩ := o_x.w hO hR.2.2.2.1 eG q
    subst w3
    exact hk _ _ _ hM2 ho w1 (fun e => absurd e w2) (hR.s4 _)
  refine mX9_greatestBase hM hA (fun q h2 hM2 ho => hw _ _ q hM2 ho) (fun m g j i hj hi e e3 h2 hM2 ho => ?_)
  obtain ⟨hl, hE, hE0, hB, hX⟩ := hF m
  have hw15 := hB.1.1
  obtain ⟨rfl, rfl, j2, hj2, e2, i2, hi2, e4, rfl⟩ := o_x.k hO hR.2.2.2.1 eG m g
  subst e
  subst e3
  obtain rfl : j = j2 := nI_inj (by omega) (by omega) e2
  obtain rfl : i = i2 := nI_inj (by omega) (by omega) e4
  exact hk _ _ _ hM2 ho rfl (fun _ => congrArg Int32.toInt64 (hB.gb hE (by omega) hj hi x)) (hR.s4 0)
def o_fewestReleases (S : q_Ls) (t : Int32) : Int32 → Int64 → q_Ls → Prop := o_x S (gT S t) (fun k v S' => k = 0 ∧ S' = S ∧ ∃ j, j < 4 ∧ t = nI j ∧ ∃ X, v = (rl_fw (rl_con X (ls_B S) (nI j) 24) (-l_room S j)).toInt64)
theorem sX9_fewestReleases {a c : Nat} {S S' : q_Ls} {M : q_Mo} {t : Int32} {k : Int32} {v : Int64} {P : Int32 → q_H → Option Nat → Prop} (hR : Rel S M c) (hc : c < 600) (hM : isM h a M) (hO : o_fewestReleases S t k v S') (hk : ∀ h2 M2 b, isM h2 a M2 → q_out a 13 h h2 → M2.1 4 = k → (k = 0 → b.toInt64 = v) → Rel S' M2 (c + 1) → P b h2 z) : QMi V iX9_fewestReleases [.ref a, .int t] h z P Kx := by
  obtain ⟨nt, np, nb, w, hA, hP, hF⟩ := hR.get
  have eG : ¬ M.1 3 = 0 → (mgT M t) = (gT S t) := fun m => by
    obtain ⟨-, hE, -⟩ := hF m
    exact hE.eT
  have hw : ∀ b h2, (M.1 3 = 0 ∨ (mgT M t) = false) → isM h2 a (mS M 4 (mo_th M (mgT M t))) → q_out a 13 h h2 → P b h2 z := fun b h2 q hM2 ho => by
    obtain ⟨w1, w2, w3⟩ := o_x.w hO hR.2.2.2.1 eG q
    subst w3
    exact hk _ _ _ hM2 ho w1 (fun e => absurd e w2) (hR.s4 _)
  refine mX9_fewestReleases hM hA hP (N := fun j => 2 ^ s_c 32 (q_T (r_set (m_r M) j np))) (fun j _ => r_it_N) (fun q h2 hM2 ho => hw _ _ q hM2 ho) (fun m g j hj e h2 f g2 d hM2 ho => ?_)
  obtain ⟨hl, hE, hE0, hB, hX⟩ := hF m
  have hw15 := hB.1.1
  obtain ⟨rfl, rfl, j2, hj2, e2, X, rfl⟩ := o_x.k hO hR.2.2.2.1 eG m g
  subst e
  obtain rfl : j = j2 := nI_inj (by omega) (by omega) e2
  exact hk _ _ _ hM2 ho rfl (fun _ => congrArg Int32.toInt64 ((hB.bs hE (by omega) hj rfl).1)) ((hR.s4 0).i3 f g2 d)
def o_releaseSet (S : q_Ls) (t : Int32) : Int32 → Int64 → q_Ls → Prop := o_x S (gT S t) (fun k v S' => k = 0 ∧ S' = S ∧ ∃ j, j < 4 ∧ t = nI j ∧ ∃ X, v = (rl_cs (rl_con X (ls_B S) (nI j) 24) (-l_room S j)).toInt64)
theorem sX9_releaseSet {a c : Nat} {S S' : q_Ls} {M : q_Mo} {t : Int32} {k : Int32} {v : Int64} {P : Int32 → q_H → Option Nat → Prop} (hR : Rel S M c) (hc : c < 600) (hM : isM h a M) (hO : o_releaseSet S t k v S') (hk : ∀ h2 M2 b, isM h2 a M2 → q_out a 13 h h2 → M2.1 4 = k → (k = 0 → b.toInt64 = v) → Rel S' M2 (c + 1) → P b h2 z) : QMi V iX9_releaseSet [.ref a, .int t] h z P Kx := by
  obtain ⟨nt, np, nb, w, hA, hP, hF⟩ := hR.get
  have eG : ¬ M.1 3 = 0 → (mgT M t) = (gT S t) := fun m => by
    obtain ⟨-, hE, -⟩ := hF m
    exact hE.eT
  have hw : ∀ b h2, (M.1 3 = 0 ∨ (mgT M t) = false) → isM h2 a (mS M 4 (mo_th M (mgT M t))) → q_out a 13 h h2 → P b h2 z := fun b h2 q hM2 ho => by
    obtain ⟨w1, w2, w3⟩ := o_x.w hO hR.2.2.2.1 eG q
    subst w3
    exact hk _ _ _ hM2 ho w1 (fun e => absurd e w2) (hR.s4 _)
  refine mX9_releaseSet hM hA hP (N := fun j => 2 ^ s_c 32 (q_T (r_set (m_r M) j np))) (fun j _ => r_it_N) (fun q h2 hM2 ho => hw _ _ q hM2 ho) (fun m g j hj e h2 f g2 d hM2 ho => ?_)
  obtain ⟨hl, hE, hE0, hB, hX⟩ := hF m
  have hw15 := hB.1.1
  obtain ⟨rfl, rfl, j2, hj2, e2, X, rfl⟩ := o_x.k hO hR.2.2.2.1 eG m g
  subst e
  obtain rfl : j = j2 := nI_inj (by omega) (by omega) e2
  exact hk _ _ _ hM2 ho rfl (fun _ => congrArg Int32.toInt64 ((hB.bs hE (by omega) hj rfl).2)) ((hR.s4 0).i3 f g2 d)
def o_tradeCode (S : q_Ls) (t s u y : Int32) : Int32 → Int64 → q_Ls → Prop := o_x S (gTr S t s u y) (fun k v S' => k = 0 ∧ S' = S ∧ ∃ j m, j < 4 ∧ m < 4 ∧ t = nI j ∧ u = nI m ∧ v = (l_te S j s m y).toInt64)
theorem sX9_tradeCode {a c : Nat} {S S' : q_Ls} {M : q_Mo} {t s u y : Int32} {k : Int32} {v : Int64} {P : Int32 → q_H → Option Nat → Prop} (hR : Rel S M c) (hc : c < 600) (hM : isM h a M) (hO : o_tradeCode S t s u y k v S') (hk : ∀ h2 M2 b, isM h2 a M2 → q_out a 13 h h2 → M2.1 4 = k → (k = 0 → b.toInt64 = v) → Rel S' M2 (c + 1) → P b h2 z) : QMi V iX9_tradeCode [.ref a, .int t, .int s, .int u, .int y] h z P Kx := by
  obtain ⟨nt, np, nb, w, hA, hP, hF⟩ := hR.get
  have eG : ¬ M.1 3 = 0 → (mgTr M t s u y) = (gTr S t s u y) := fun m => by
    obtain ⟨-, hE, -⟩ := hF m
    exact hE.eTr
  have hw : ∀ b h2, (M.1 3 = 0 ∨ (mgTr M t s u y) = false) → isM h2 a (mS M 4 (mo_th M (mgTr M t s u y))) → q_out a 13 h h2 → P b h2 z := fun b h2 q hM2 ho => by
    obtain ⟨w1, w2, w3⟩ := o_x.w hO hR.2.2.2.1 eG q
    subst w3
    exact hk _ _ _ hM2 ho w1 (fun e => absurd e w2) (hR.s4 _)
  refine mX9_tradeCode hM hA (fun q h2 hM2 ho => hw _ _ q hM2 ho) (fun m g j m2 hj hm e e3 h2 A9 hM2 ho => ?_)
  obtain ⟨hl, hE, hE0, hB, hX⟩ := hF m
  have hw15 := hB.1.1
  obtain ⟨rfl, rfl, j2, m3, hj2, hm3, e2, e4, rfl⟩ := o_x.k hO hR.2.2.2.1 eG m g
  subst e
  subst e3
  obtain rfl : j = j2 := nI_inj (by omega) (by omega) e2
  obtain rfl : m2 = m3 := nI_inj (by omega) (by omega) e4
  obtain ⟨l1, l2, l3⟩ := gTr_lt ((eG m).symm.trans g) hE.2.2.2.1.1 hE.1.2 hj hm
  exact hk _ _ _ hM2 ho rfl (fun _ => congrArg Int32.toInt64 (hB.trc hE (by omega) l1 l2 l3)) ((hR.s4 0).l9 A9)
def o_swapCount (S : q_Ls) (t u : Int32) : Int32 → Int64 → q_Ls → Prop := o_x S (g2T S t u) (fun k v S' => k = 0 ∧ S' = S ∧ ∃ j m n, j < 4 ∧ m < 4 ∧ t = nI j ∧ u = nI m ∧ n ≤ 24 ∧ te_p (ls_T S) = nI n ∧ v = ((l_so S j m n n)).toInt64)
theorem sX9_swapCount {a c : Nat} {S S' : q_Ls} {M : q_Mo} {t u : Int32} {k : Int32} {v : Int64} {P : Int32 → q_H → Option Nat → Prop} (hR : Rel S M c) (hc : c < 600) (hM : isM h a M) (hO : o_swapCount S t u k v S') (hk : ∀ h2 M2 b, isM h2 a M2 → q_out a 13 h h2 → M2.1 4 = k → (k = 0 → b.toInt64 = v) → Rel S' M2 (c + 1) → P b h2 z) : QMi V iX9_swapCount [.ref a, .int t, .int u] h z P Kx := by
  obtain ⟨nt, np, nb, w, hA, hP, hF⟩ := hR.get
  have eG : ¬ M.1 3 = 0 → (mg2 M t u) = (g2T S t u) := fun m => by
    obtain ⟨-, hE, -⟩ := hF m
    exact hE.e2
  have hw : ∀ b h2, (M.1 3 = 0 ∨ (mg2 M t u) = false) → isM h2 a (mS M 4 (mo_th M (mg2 M t u))) → q_out a 13 h h2 → P b h2 z := fun b h2 q hM2 ho => by
    obtain ⟨w1, w2, w3⟩ := o_x.w hO hR.2.2.2.1 eG q
    subst w3
    exact hk _ _ _ hM2 ho w1 (fun e => absurd e w2) (hR.s4 _)
  refine mX9_swapCount hM hA (fun q h2 hM2 ho => hw _ _ q hM2 ho) (fun m g j m2 hj hm e e3 h2 A9 hM2 ho => ?_)
  obtain ⟨hl, hE, hE0, hB, hX⟩ := hF m
  have hw15 := hB.1.1
  obtain ⟨rfl, rfl, j2, m3, n9, hj2, hm3, e2, e4, hn9, en9, rfl⟩ := o_x.k hO hR.2.2.2.1 eG m g
  subst e
  subst e3
  obtain rfl : j = j2 := nI_inj (by omega) (by omega) e2
  obtain rfl : m2 = m3 := nI_inj (by omega) (by omega) e4
  obtain ⟨l1, l2, l3⟩ := g2T_lt ((eG m).symm.trans g) hE.2.2.2.1.1 hE.1.2 hj hm
  obtain rfl : np = n9 := nI_inj (by have := hE.2.1; omega) (by omega) (hE.2.2.2.1.2.2.1.symm.trans en9)
  obtain ⟨n, n1, n2, n3, n4, -⟩ := RB.sw (M := mS M 4 0) hB hE0 hc l1 l2 l3 np (Nat.le_refl _)
  exact hk _ _ _ hM2 ho rfl (fun _ => congrArg Int32.toInt64 (n2.trans n3.symm)) ((hR.s4 0).sw A9 _ _)
def o_bestSwap (S : q_Ls) (t u : Int32) : Int32 → Int64 → q_Ls → Prop := o_x S (g2T S t u) (fun k v S' => k = 0 ∧ S' = S ∧ ∃ j m n, j < 4 ∧ m < 4 ∧ t = nI j ∧ u = nI m ∧ n ≤ 24 ∧ te_p (ls_T S) = nI n ∧ v = ((l_bo S j m n n).1).toInt64)
theorem sX9_bestSwap {a c : Nat} {S S' : q_Ls} {M : q_Mo} {t u : Int32} {k : Int32} {v : Int64} {P : Int32 → q_H → Option Nat → Prop} (hR : Rel S M c) (hc : c < 600) (hM : isM h a M) (hO : o_bestSwap S t u k v S') (hk : ∀ h2 M2 b, isM h2 a M2 → q_out a 13 h h2 → M2.1 4 = k → (k = 0 → b.toInt64 = v) → Rel S' M2 (c + 1) → P b h2 z) : QMi V iX9_bestSwap [.ref a, .int t, .int u] h z P Kx := by
  obtain ⟨nt, np, nb, w, hA, hP, hF⟩ := hR.get
  have eG : ¬ M.1 3 = 0 → (mg2 M t u) = (g2T S t u) := fun m => by
    obtain ⟨-, hE, -⟩ := hF m
    exact hE.e2
  have hw : ∀ b h2, (M.1 3 = 0 ∨ (mg2 M t u) = false) → isM h2 a (mS M 4 (mo_th M (mg2 M t u))) → q_out a 13 h h2 → P b h2 z := fun b h2 q hM2 ho => by
    obtain ⟨w1, w2, w3⟩ := o_x.w hO hR.2.2.2.1 eG q
    subst w3
    exact hk _ _ _ hM2 ho w1 (fun e => absurd e w2) (hR.s4 _)
  refine mX9_bestSwap hM hA (fun q h2 hM2 ho => hw _ _ q hM2 ho) (fun m g j m2 hj hm e e3 h2 A9 hM2 ho => ?_)
  obtain ⟨hl, hE, hE0, hB, hX⟩ := hF m
  have hw15 := hB.1.1
  obtain ⟨rfl, rfl, j2, m3, n9, hj2, hm3, e2, e4, hn9, en9, rfl⟩ := o_x.k hO hR.2.2.2.1 eG m g
  subst e
  subst e3
  obtain rfl : j = j2 := nI_inj (by omega) (by omega) e2
  obtain rfl : m2 = m3 := nI_inj (by omega) (by omega) e4
  obtain ⟨l1, l2, l3⟩ := g2T_lt ((eG m).symm.trans g) hE.2.2.2.1.1 hE.1.2 hj hm
  obtain rfl : np = n9 := nI_inj (by have := hE.2.1; omega) (by omega) (hE.2.2.2.1.2.2.1.symm.trans en9)
  obtain ⟨n, n1, n2, n3, n4, -⟩ := RB.sw (M := mS M 4 0) hB hE0 hc l1 l2 l3 np (Nat.le_refl _)
  exact hk _ _ _ hM2 ho rfl (fun _ => congrArg Int32.toInt64 (congrArg Prod.fst n4)) ((hR.s4 0).sw A9 _ _)
def o_taxAhead (S : q_Ls) (t x : Int32) : Int32 → Int64 → q_Ls → Prop := o_x S (gT S t && rg x 1 8) (fun k v S' => k = 0 ∧ S' = S ∧ ∃ j n, j < 4 ∧ 1 ≤ n ∧ n ≤ 8 ∧ t = nI j ∧ x = nI n ∧ v = (l_ta S j n).2)
theorem sX9_taxAhead {a c : Nat} {S S' : q_Ls} {M : q_Mo} {t x : Int32} {k : Int32} {v : Int64} {P : Int64 → q_H → Option Nat → Prop} (hR : Rel S M c) (hc : c < 600) (hM : isM h a M) (hO : o_taxAhead S t x k v S') (hk : ∀ h2 M2 b, isM h2 a M2 → q_out a 13 h h2 → M2.1 4 = k → (k = 0 → b = v) → Rel S' M2 (c + 1) → P b h2 z) : QMl V iX9_taxAhead [.ref a, .int t, .int x] h z P Kx := by
  obtain ⟨nt, np, nb, w, hA, hP, hF⟩ := hR.get
  have eG : ¬ M.1 3 = 0 → (mgT M t && rgL x.toInt64 1 8) = (gT S t && rg x 1 8) := fun m => by
    obtain ⟨-, hE, -⟩ := hF m
    rw [hE.eT, show (1 : Int64) = (1 : Int32).toInt64 from rfl, show (8 : Int64) = (8 : Int32).toInt64 from rfl, rgL_rg]
  have hw : ∀ b h2, (M.1 3 = 0 ∨ (mgT M t && rgL x.toInt64 1 8) = false) → isM h2 a (mS M 4 (mo_th M (mgT M t && rgL x.toInt64 1 8))) → q_out a 13 h h2 → P b h2 z := fun b h2 q hM2 ho => by
    obtain ⟨w1, w2, w3⟩ := o_x.w hO hR.2.2.2.1 eG q
    subst w3
    exact hk _ _ _ hM2 ho w1 (fun e => absurd e w2) (hR.s4 _)
  refine mX9_taxAhead hM hA (fun q h2 hM2 ho => hw _ _ q hM2 ho) (fun m g j hj e y hy e3 h2 hM2 ho => ?_)
  obtain ⟨hl, hE, hE0, hB, hX⟩ := hF m
  have hw15 := hB.1.1
  obtain ⟨rfl, rfl, j2, n, hj2, hn1, hn8, e2, e4, rfl⟩ := o_x.k hO hR.2.2.2.1 eG m g
  subst e
  subst e3
  obtain rfl : j = j2 := nI_inj (by omega) (by omega) e2
  obtain rfl : y = n := nI_inj (by omega) (by omega) e4
  exact hk _ _ _ hM2 ho rfl (fun _ => congrArg Prod.snd (RB.tx_step (M := mS M 4 0) hB hE0 (by omega) hj y (by omega)).1) (hR.s4 0)
def o_bestRule (S : q_Ls) (t p : Int32) : Int32 → Int64 → q_Ls → Prop := o_x S (gT S t && gP S p) (fun k v S' => k = 0 ∧ S' = S ∧ ∃ j, j < 4 ∧ t = nI j ∧ ∃ i, i < 24 ∧ p = nI i ∧ v = (l_br S j i 4 0).toInt64)
theorem sX9_bestRule {a c : Nat} {S S' : q_Ls} {M : q_Mo} {t p : Int32} {k : Int32} {v : Int64} {P : Int32 → q_H → Option Nat → Prop} (hR : Rel S M c) (hc : c < 600) (hM : isM h a M) (hO : o_bestRule S t p k v S') (hk : ∀ h2 M2 b, isM h2 a M2 → q_out a 13 h h2 → M2.1 4 = k → (k = 0 → b.toInt64 = v) → Rel S' M2 (c + 1) → P b h2 z) : QMi V iX9_bestRule [.ref a, .int t, .int p] h z P Kx := by
  obtain ⟨nt, np, nb, w, hA, hP, hF⟩ := hR.get
  have eG : ¬ M.1 3 = 0 → (mgS M t p 0) = (gT S t && gP S p) := fun m => by
    obtain ⟨-, hE, -⟩ := hF m
    rw [hE.eS, show rg 0 0 3 = true from by decide, Bool.and_true]
  have hw : ∀ b h2, (M.1 3 = 0 ∨ (mgS M t p 0) = false) → isM h2 a (mS M 4 (mo_th M (mgS M t p 0))) → q_out a 13 h h2 → P b h2 z := fun b h2 q hM2 ho => by
    obtain ⟨w1, w2, w3⟩ := o_x.w hO hR.2.2.2.1 eG q
    subst w3
    exact hk _ _ _ hM2 ho w1 (fun e => absurd e w2) (hR.s4 _)
  refine mX9_bestRule hM hA (fun q h2 hM2 ho => hw _ _ q hM2 ho) (fun m g j i hj hi e e3 q hq q1 q2 h2 hM2 ho => ?_) (fun m g j i hj hi e e3 q1 h2 hM2 ho => ?_)
  · obtain ⟨hl, hE, hE0, hB, hX⟩ := hF m
    obtain ⟨rfl, rfl, j2, hj2, e2, i2, hi2, e4, rfl⟩ := o_x.k hO hR.2.2.2.1 eG m g
    subst e
    subst e3
    obtain rfl : j = j2 := nI_inj (by omega) (by omega) e2
    obtain rfl : i = i2 := nI_inj (by omega) (by omega) e4
    have ew : ∀ x, r_why (mS M 4 0).1 (m_r (mS M 4 0)) np w j i x = l_se S' j i x := fun x => RB.why (M := mS M 4 0) hB hE0 (by omega) hj hi x
    exact hk _ _ _ hM2 ho rfl (fun _ => congrArg Int32.toInt64 (l_br_at 4 0 q (Nat.zero_le _) (by omega) (fun s _ h2 => by rw [← ew]; exact q1 s h2) (by rw [← ew]; exact q2)).symm) (hR.s4 0)
  · obtain ⟨hl, hE, hE0, hB, hX⟩ := hF m
    obtain ⟨rfl, rfl, j2, hj2, e2, i2, hi2, e4, rfl⟩ := o_x.k hO hR.2.2.2.1 eG m g
    subst e
    subst e3
    obtain rfl : j = j2 := nI_inj (by omega) (by omega) e2
    obtain rfl : i = i2 := nI_inj (by omega) (by omega) e4
    have ew : ∀ x, r_why (mS M 4 0).1 (m_r (mS M 4 0)) np w j i x = l_se S' j i x := fun x => RB.why (M := mS M 4 0) hB hE0 (by omega) hj hi x
    exact hk _ _ _ hM2 ho rfl (fun _ => congrArg Int32.toInt64 (l_br_no 4 0 (fun s _ h2 => by rw [← ew]; exact q1 s (by omega))).symm) (hR.s4 0)
def o_teamRank (S : q_Ls) (x y : Int32) : Int32 → Int64 → q_Ls → Prop := o_x S (rg x 0 4 && decide (0 ≤ y)) (fun k v S' => S' = S ∧ ∃ n, n ≤ 4 ∧ te_t (ls_T S) = nI n ∧ ((∃ t, t < n ∧ (∀ s, s < t → ¬ l_tb S s x n = y) ∧ l_tb S t x n = y ∧ k = 0 ∧ v = (nI t).toInt64) ∨ ((∀ s, s < n → ¬ l_tb S s x n = y) ∧ k = 3)))
theorem sX9_teamRank {a c : Nat} {S S' : q_Ls} {M : q_Mo} {x y : Int32} {k : Int32} {v : Int64} {P : Int32 → q_H → Option Nat → Prop} (hR : Rel S M c) (hc : c < 600) (hM : isM h a M) (hO : o_teamRank S x y k v S') (hk : ∀ h2 M2 b, isM h2 a M2 → q_out a 13 h h2 → M2.1 4 = k → (k = 0 → b.toInt64 = v) → Rel S' M2 (c + 1) → P b h2 z) : QMi V iX9_teamRank [.ref a, .int x, .int y] h z P Kx := by
  obtain ⟨nt, np, nb, w, hA, hP, hF⟩ := hR.get
  have eG : ¬ M.1 3 = 0 → (rgL x.toInt64 0 4 && decide (0 ≤ y)) = (rg x 0 4 && decide (0 ≤ y)) := fun m => by
    obtain ⟨-, hE, -⟩ := hF m
    rw [rgL_4]
  have hw : ∀ b h2, (M.1 3 = 0 ∨ (rgL x.toInt64 0 4 && decide (0 ≤ y)) = false) → isM h2 a (mS M 4 (mo_th M (rgL x.toInt64 0 4 && decide (0 ≤ y)))) → q_out a 13 h h2 → P b h2 z := fun b h2 q hM2 ho => by
    obtain ⟨w1, w2, w3⟩ := o_x.w hO hR.2.2.2.1 eG q
    subst w3
    exact hk _ _ _ hM2 ho w1 (fun e => absurd e w2) (hR.s4 _)
  refine mX9_teamRank hM hA (fun q h2 hM2 ho => hw _ _ q hM2 ho) (fun m g t ht q1 q2 h2 hM2 ho => ?_) (fun m g q1 h2 hM2 ho => ?_)
  · obtain ⟨hl, hE, hE0, hB, hX⟩ := hF m
    obtain ⟨rfl, n, hn, en, hv⟩ := o_x.k hO hR.2.2.2.1 eG m g
    obtain rfl : nt = n := nI_inj (by have := hE.1; omega) (by omega) (hE.2.2.2.1.1.symm.trans en)
    have ew : ∀ s, s < nt → r_tb (mS M 4 0) nb np w s x nt = l_tb S' s x nt := fun s hs => RB.tb (M := mS M 4 0) hB hE0 (by omega) (by omega) x nt hn
    rcases hv with ⟨t2, ht2, p1, p2, rfl, rfl⟩ | ⟨p1, -⟩
    · have : t = t2 := by
        rcases Nat.lt_trichotomy t t2 with u | u | u
        · exact absurd ((ew t ht).symm.trans q2) (p1 t u)
        · exact u
        · exact absurd ((ew t2 ht2).trans p2) (q1 t2 u)
      subst this
      exact hk _ _ _ hM2 ho rfl (fun _ => rfl) (hR.s4 0)
    · exact absurd ((ew t ht).symm.trans q2) (p1 t ht)
  · obtain ⟨hl, hE, hE0, hB, hX⟩ := hF m
    obtain ⟨rfl, n, hn, en, hv⟩ := o_x.k hO hR.2.2.2.1 eG m g
    obtain rfl : nt = n := nI_inj (by have := hE.1; omega) (by omega) (hE.2.2.2.1.1.symm.trans en)
    have ew : ∀ s, s < nt → r_tb (mS M 4 0) nb np w s x nt = l_tb S' s x nt := fun s hs => RB.tb (M := mS M 4 0) hB hE0 (by omega) (by omega) x nt hn
    rcases hv with ⟨t2, ht2, p1, p2, rfl, rfl⟩ | ⟨p1, rfl⟩
    · exact absurd ((ew t2 ht2).trans p2) (q1 t2 ht2)
    · exact hk _ _ _ hM2 ho rfl (fun e => absurd e (by decide)) (hR.s4 3)
def o_playerRank (S : q_Ls) (y : Int32) : Int32 → Int64 → q_Ls → Prop := o_x S (decide (0 ≤ y)) (fun k v S' => S' = S ∧ ∃ n, n ≤ 24 ∧ te_p (ls_T S) = nI n ∧ ((∃ t, t < n ∧ (∀ s, s < t → ¬ (pl_has (b_p (ls_B S) s) = true ∧ l_pb S s n = y)) ∧ pl_has (b_p (ls_B S) t) = true ∧ l_pb S t n = y ∧ k = 0 ∧ v = (nI t).toInt64) ∨ ((∀ s, s < n → ¬ (pl_has (b_p (ls_B S) s) = true ∧ l_pb S s n = y)) ∧ k = 3)))
theorem sX9_playerRank {a c : Nat} {S S' : q_Ls} {M : q_Mo} {y : Int32} {k : Int32} {v : Int64} {P : Int32 → q_H → Option Nat → Prop} (hR : Rel S M c) (hc : c < 600) (hM : isM h a M) (hO : o_playerRank S y k v S') (hk : ∀ h2 M2 b, isM h2 a M2 → q_out a 13 h h2 → M2.1 4 = k → (k = 0 → b.toInt64 = v) → Rel S' M2 (c + 1) → P b h2 z) : QMi V iX9_playerRank [.ref a, .int y] h z P Kx := by
  obtain ⟨nt, np, nb, w, hA, hP, hF⟩ := hR.get
  have eG : ¬ M.1 3 = 0 → (decide (0 ≤ y)) = (decide (0 ≤ y)) := fun m => by
    obtain ⟨-, hE, -⟩ := hF m
    rfl
  have hw : ∀ b h2, (M.1 3 = 0 ∨ (decide (0 ≤ y)) = false) → isM h2 a (mS M 4 (mo_th M (decide (0 ≤ y)))) → q_out a 13 h h2 → P b h2 z := fun b h2 q hM2 ho => by
    obtain ⟨w1, w2, w3⟩ := o_x.w hO hR.2.2.2.1 eG q
    subst w3
    exact hk _ _ _ hM2 ho w1 (fun e => absurd e w2) (hR.s4 _)
  refine mX9_playerRank hM hA (fun q h2 hM2 ho => hw _ _ q hM2 ho) (fun m g t ht q1 q3 q2 h2 hM2 ho => ?_) (fun m g q1 h2 hM2 ho => ?_)
  · obtain ⟨hl, hE, hE0, hB, hX⟩ := hF m
    obtain ⟨rfl, n, hn, en, hv⟩ := o_x.k hO hR.2.2.2.1 eG m g
    obtain rfl : np = n := nI_inj (by have := hE.2.1; omega) (by omega) (hE.2.2.2.1.2.2.1.symm.trans en)
    have ew : ∀ s, s < np → r_pb (m_r (mS M 4 0)) s np = l_pb S' s np := fun s hs => RB.pb (M := mS M 4 0) hB (by omega) np hn
    have eh : ∀ s, s < np → r_has (m_r (mS M 4 0)) s = pl_has (b_p (ls_B S') s) := fun s hs => (hB.p (by omega)).has
    rcases hv with ⟨t2, ht2, p1, p3, p2, rfl, rfl⟩ | ⟨p1, -⟩
    · have : t = t2 := by
        rcases Nat.lt_trichotomy t t2 with u | u | u
        · exact absurd ⟨(eh t ht).symm.trans q3, (ew t ht).symm.trans q2⟩ (p1 t u)
        · exact u
        · exact absurd ⟨(eh t2 ht2).trans p3, (ew t2 ht2).trans p2⟩ (q1 t2 u)
      subst this
      exact hk _ _ _ hM2 ho rfl (fun _ => rfl) (hR.s4 0)
    · exact absurd ⟨(eh t ht).symm.trans q3, (ew t ht).symm.trans q2⟩ (p1 t ht)
  · obtain ⟨hl, hE, hE0, hB, hX⟩ := hF m
    obtain ⟨rfl, n, hn, en, hv⟩ := o_x.k hO hR.2.2.2.1 eG m g
    obtain rfl : np = n := nI_inj (by have := hE.2.1; omega) (by omega) (hE.2.2.2.1.2.2.1.symm.trans en)
    have ew : ∀ s, s < np → r_pb (m_r (mS M 4 0)) s np = l_pb S' s np := fun s hs => RB.pb (M := mS M 4 0) hB (by omega) np hn
    have eh : ∀ s, s < np → r_has (m_r (mS M 4 0)) s = pl_has (b_p (ls_B S') s) := fun s hs => (hB.p (by omega)).has
    rcases hv with ⟨t2, ht2, p1, p3, p2, rfl, rfl⟩ | ⟨p1, rfl⟩
    · exact absurd ⟨(eh t2 ht2).trans p3, (ew t2 ht2).trans p2⟩ (q1 t2 ht2)
    · exact hk _ _ _ hM2 ho rfl (fun e => absurd e (by decide)) (hR.s4 3)
def o_meanSalary (S : q_Ls) (t : Int32) (k : Int32) (d : UInt64) (S' : q_Ls) : Prop := o_x S (gT S t) (fun k _ S' => S' = S ∧ ∃ j, j < 4 ∧ t = nI j ∧ ((¬ q_bc (b_set (ls_B S) (nI j) 24) = 0 ∧ k = 0 ∧ d = l_mn S j) ∨ (q_bc (b_set (ls_B S) (nI j) 24) = 0 ∧ k = 3))) k 0 S'
theorem sX9_meanSalary {a c : Nat} {S S' : q_Ls} {M : q_Mo} {t : Int32} {k : Int32} {d : UInt64} {P : UInt64 → q_H → Option Nat → Prop} (hR : Rel S M c) (hc : c < 600) (hM : isM h a M) (hO : o_meanSalary S t k d S') (hk : ∀ h2 M2 b, isM h2 a M2 → q_out a 13 h h2 → M2.1 4 = k → (k = 0 → b = d) → Rel S' M2 (c + 1) → P b h2 z) : QMd V iX9_meanSalary [.ref a, .int t] h z P Kx := by
  obtain ⟨nt, np, nb, w, hA, hP, hF⟩ := hR.get
  have eG : ¬ M.1 3 = 0 → (mgT M t) = (gT S t) := fun m => by
    obtain ⟨-, hE, -⟩ := hF m
    exact hE.eT
  have hw : ∀ b h2, (M.1 3 = 0 ∨ (mgT M t) = false) → isM h2 a (mS M 4 (mo_th M (mgT M t))) → q_out a 13 h h2 → P b h2 z := fun b h2 q hM2 ho => by
    obtain ⟨w1, w2, w3⟩ := o_x.w hO hR.2.2.2.1 eG q
    subst w3
    exact hk _ _ _ hM2 ho w1 (fun e => absurd e w2) (hR.s4 _)
  by_cases m0 : M.1 3 = 0
  · exact mX9_meanSalary (w := 0) (nt := 0) (np := 0) (nb := 0) hM (fun q => absurd m0 q) (fun j hj q => absurd rfl q) (fun q h2 hM2 ho => hw _ _ q hM2 ho) (fun q => absurd m0 q) (fun q => absurd m0 q)
  refine mX9_meanSalary hM hA (fun j hj q => ?_) (fun q h2 hM2 ho => hw _ _ q hM2 ho) (fun m g j hj e q h2 hM2 ho => ?_) (fun m g j hj e q h2 hM2 ho => ?_)
  · obtain ⟨hl, hE, hE0, hB, hX⟩ := hF m0
    exact (hB.cnt0 hj).2 q
  · obtain ⟨hl, hE, hE0, hB, hX⟩ := hF m
    obtain ⟨rfl, j2, hj2, e2, hv⟩ := o_x.k hO hR.2.2.2.1 eG m g
    subst e
    obtain rfl : j = j2 := nI_inj (by omega) (by omega) e2
    rcases hv with ⟨p1, rfl, rfl⟩ | ⟨p1, -⟩
    · exact hk _ _ _ hM2 ho rfl (fun _ => hB.mn hj) (hR.s4 0)
    · exact absurd ((hB.cnt0 hj).1.mpr p1) q
  · obtain ⟨hl, hE, hE0, hB, hX⟩ := hF m
    obtain ⟨rfl, j2, hj2, e2, hv⟩ := o_x.k hO hR.2.2.2.1 eG m g
    subst e
    obtain rfl : j = j2 := nI_inj (by omega) (by omega) e2
    rcases hv with ⟨p1, -⟩ | ⟨p1, rfl⟩
    · exact absurd ((hB.cnt0 hj).1.mp q) p1
    · exact hk _ _ _ hM2 ho rfl (fun e => absurd e (by decide)) (hR.s4 3)
end RELN
