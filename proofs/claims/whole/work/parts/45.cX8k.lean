/-! SalaryCapLedger: a mean -/
section CX8k
variable {V : q_En} {h : q_H} {z : Option Nat} {Kx : q_KX}
/-- a quotient of two ints is a number -/
theorem q_dn {a b : Int32} (hb : ¬ b = 0) : vf_n64 (FP.ddiv (FP.i2d a) (FP.i2d b)) := by
  have h := Jvm.FP.Core.ddiv_out (a := Jvm.FP.Core.i2d a) (b := Jvm.FP.Core.i2d b) (Jvm.FP.Core.i2d_fin a).notNaN (Jvm.FP.Core.i2d_fin b) (fun hz => Jvm.FP.Core.i2d_ne_zero hb ((Jvm.FP.Core.zero_bits2 _).mp hz))
  have h2 : ¬ 9218868437227405312 < (FP.ddiv (FP.i2d a) (FP.i2d b)).toNat % 2 ^ 63 := fun q => by
    have := (Jvm.FP.Core.isNaN_bits _).mpr q
    exact absurd (this.symm.trans h) (by decide)
  unfold vf_n64
  rw [UInt64.le_iff_toNat_le, UInt64.toNat_and, show (0x7fffffffffffffff : UInt64).toNat = 2 ^ 63 - 1 from rfl, Nat.and_two_pow_sub_one_eq_mod]
  exact Nat.le_of_not_lt h2
def l_mn (S : q_Ls) (j : Nat) : UInt64 := FP.ddiv (FP.i2d (b_sn (ls_B S) (b_set (ls_B S) (nI j) 24))) (FP.i2d (q_bc (b_set (ls_B S) (nI j) 24)))
theorem mX8_meanSalary {L : Nat} {S : q_Ls} {X : q_Lx} {t : Int32} {P : UInt64 → q_H → Option Nat → Prop} (hL : isLx h L S X) (hS : okL S) (hk : ls_l S = true → gT S t = true → ∀ j, j < 4 → t = nI j → ¬ q_bc (b_set (ls_B S) (nI j) 24) = 0 → P (l_mn S j) h z) (h1 : ls_l S = false → Kx E_st h) (h2 : ls_l S = true → gT S t = false → Kx E_ar h) (h3 : ls_l S = true → gT S t = true → ∀ j, j < 4 → t = nI j → q_bc (b_set (ls_B S) (nI j) 24) = 0 → Kx "java/lang/ArithmeticException" h) : QMd V iX8_meanSalary [.ref L, .int t] h z P Kx := by
  refine eX8_meanSalary ?_
  refine wX8_meanSalary_0 ?_
  refine wX8_meanSalary_1 hL.c (mX8_requireLeague hL (fun hl => ?_) h1)
  refine wX8_meanSalary_4 ?_
  refine wX8_meanSalary_5 ?_
  refine wX8_meanSalary_6 hL.c (mX8_requireTeam hL (fun g1 => ?_) (h2 hl))
  obtain ⟨j, hj, rfl⟩ := gT_of hS g1
  refine wX8_meanSalary_9 ?_
  refine wX8_meanSalary_10 hL.c ?_
  refine wX8_meanSalary_13 ?_
  refine wX8_meanSalary_14 hL.B.1 (mX0_playersOf hL.B ?_)
  refine wX8_meanSalary_17 ?_
  refine wX8_meanSalary_18 ?_
  refine wX8_meanSalary_19 (mJ6_bitCount_0f7a4 ?_)
  refine wX8_meanSalary_22 ?_
  refine wX8_meanSalary_23 ?_
  refine wX8_meanSalary_24 (fun c24 => ?_) (fun c24 => ?_)
  · refine wX8_meanSalary_38 ?_
    refine wX8_meanSalary_39 hL.c ?_
    refine wX8_meanSalary_42 ?_
    refine wX8_meanSalary_43 hL.B.1 (mX0_salariesNow hL.B ?_)
    refine wX8_meanSalary_46 ?_
    refine wX8_meanSalary_47 ?_
    refine wX8_meanSalary_48 ?_
    refine wX8_meanSalary_49 (q_dn c24) ?_
    refine wX8_meanSalary_50  ?_
    exact hk hl g1 j hj rfl c24
  · refine wX8_meanSalary_27 ?_
    exact h3 hl g1 j hj rfl c24
end CX8k
