/-! SalaryCapLedger$Books() and $History -/
section CX2
variable {V : q_En} {h : q_H} {z : Option Nat} {Kx : q_KX}
theorem q_bud {y : q_I} {pc : Nat} {ls : List (Option Value)} {st : List Value} {bc bs bc' bs' : Nat} {Kr : q_KR} (e1 : bc = bc') (e2 : bs = bs') (kk : QW V y pc ls st h z bc' bs' Kr Kx) : QW V y pc ls st h z bc bs Kr Kx := by subst e1; subst e2; exact kk
def pl_0 : q_Pl := (-1, -1, 0, 0, 1, 0, 1, 0, 0)
def tm_0 : q_Tm := (fun _ => 0, 0, 0, 0)
def bk_0 : q_Bk := (fun _ => pl_0, fun _ => tm_0, (1, 0, 1, 0, 0), 0)
theorem q_zz {P : q_H → Option Nat → Prop} {n m : Nat} (e : n = m) (hk : P h (some m)) : P h (some n) := e ▸ hk
theorem q_zw {y : q_I} {pc : Nat} {ls : List (Option Value)} {st : List Value} {bc bs n m : Nat} {Kr : q_KR} (e : n = m) (kk : QW V y pc ls st h (some m) bc bs Kr Kx) : QW V y pc ls st h (some n) bc bs Kr Kx := e ▸ kk
theorem mX0_init {a : Nat} {P : q_H → Option Nat → Prop} (ha : h a = some (.inr (1, [.null, .null, .null, .int 0]))) (hk : ∀ h', isB h' a bk_0 → q_out a 60 h h' → P h' (some (a + 60))) : QMv V iX0_init [.ref a] h (some (a + 1)) P Kx := by
  refine eX0_init ?_
  refine wX0_init_0 ?_
  refine wX0_init_1 ?_
  refine wX0_init_4 ?_
  refine wX0_init_5 ?_
  refine wX0_init_7 rfl (by decide) ?_
  refine wX0_init_10 (by rw [q_up_n (by omega)]; exact ha) ?_
  refine wX0_init_13 ?_
  refine wX0_init_14 ?_
  refine wX0_init_15 rfl (by decide) ?_
  refine wX0_init_18 (by rw [q_up_n (by omega)]; exact q_up_s) ?_
  refine wX0_init_21 ?_
  refine wX0_init_22 ?_
  refine wX0_init_25 ?_
  refine wX0_init_26 (mX1_init q_up_s ?_)
  refine wX0_init_29 (by rw [q_up_n (by omega), q_up_n (by omega)]; exact q_up_s) ?_
  refine wX0_init_32 ?_
  refine wX0_init_33 ?_
  refine wX0_init_34u ?_
  refine wX0_init_37 ?_
  refine wX0_init_38 ?_
  refine q_for (P := fun i => ∀ hh, (hh a = some (bookE a 0) ∧ (∃ f, hh (a + 1) = some (.inl (4, 24, .inr (.inr (.inr (.inr f))))) ∧ ∀ k, f k = if k < i then some (a + 4 + 2 * k) else none) ∧ (hh (a + 2) = some (.inl (5, 4, .inr (.inr (.inr (.inr fun _ => none)))))) ∧ hh (a + 3) = some (dealE (1, 0, 1, 0, 0)) ∧ (∀ k, k < i → isP hh (a + 4 + 2 * k) pl_0) ∧ q_out a 60 h hh) → QW V iX0_init 39 [some (.ref a), some (.int (nI i))] [] hh (some (a + 4 + 2 * i)) ((24 - i) * 2 + 8) ((24 - i) * 10 + 124) (q_Kv P) Kx) 24 ?_ ?_ _ ⟨q_up_s, ⟨fun _ => none, by simp [q_up], fun k => by simp⟩, by simp [q_up], by simp [q_up], fun k hk => absurd hk (by omega), fun q hq => ?_⟩
  rotate_left
  rotate_left
  · simp only [q_up_n (show q ≠ a by omega), q_up_n (show q ≠ a + 1 by omega), q_up_n (show q ≠ a + 1 + 1 by omega), q_up_n (show q ≠ a + 1 + 1 + 1 by omega)]
  · rintro hh ⟨h1, ⟨f, h2, hf⟩, h3, h4, hps, ho⟩
    refine wX0_init_39 ?_
    refine wX0_init_40 ?_
    refine wX0_init_42 (fun c42 => ?_) (fun c42 => absurd (by decide) c42)
    refine wX0_init_64 ?_
    refine wX0_init_65 ?_
    refine q_for (P := fun i => ∀ hh, (hh a = some (bookE a 0) ∧ (hh (a + 1) = some (.inl (4, 24, .inr (.inr (.inr (.inr f)))))) ∧ (∃ g, hh (a + 2) = some (.inl (5, 4, .inr (.inr (.inr (.inr g))))) ∧ ∀ k, g k = if k < i then some (a + 52 + 2 * k) else none) ∧ hh (a + 3) = some (dealE (1, 0, 1, 0, 0)) ∧ (∀ k, k < 24 → isP hh (a + 4 + 2 * k) pl_0) ∧ (∀ k, k < i → isT hh (a + 52 + 2 * k) tm_0) ∧ q_out a 60 h hh) → QW V iX0_init 66 [some (.ref a), some (.int (nI i))] [] hh (some (a + 52 + 2 * i)) ((4 - i) * 2) ((4 - i) * 31) (q_Kv P) Kx) 4 ?_ ?_ hh ⟨h1, h2, ⟨fun _ => none, h3, fun k => by simp⟩, h4, hps, fun k hk => absurd hk (by omega), ho⟩
    · rintro hh ⟨h1, h2, ⟨g, h3, hg⟩, h4, hps, hts, ho⟩
      refine wX0_init_66 ?_
      refine wX0_init_67 ?_
      refine wX0_init_68 (fun c68 => ?_) (fun c68 => absurd (by decide) c68)
      refine wX0_init_90  ?_
      refine hk _ ⟨h1, ?_, ?_, h4, hps, hts⟩ ho
      · rw [h2, show f = rowf (a + 4) 24 from funext fun k => by rw [hf k]; rfl]
      · rw [h3, show g = rowf (a + 52) 4 from funext fun k => by rw [hg k]; rfl]
    · rintro i hi ih hh ⟨h1, h2, ⟨g, h3, hg⟩, h4, hps, hts, ho⟩
      refine q_bud (bc' := (4 - (i + 1)) * 2 + 1 + 1) (bs' := (4 - (i + 1)) * 31 + 27 + 4) (by omega) (by omega) ?_
      refine wX0_init_66 ?_
      refine wX0_init_67 ?_
      refine wX0_init_68 (fun c68 => absurd c68 (nI_ge (b := 4) hi (by decide))) (fun c68 => ?_)
      refine wX0_init_71 ?_
      refine wX0_init_72 h1 ?_
      refine wX0_init_75 ?_
      refine wX0_init_76 ?_
      refine wX0_init_79 ?_
      refine wX0_init_80 (mX6_init rfl q_up_s fun h2v hT2 ho2 => ?_)
      refine wX0_init_83 (t := 5) (ci := 7) rfl rfl (by rw [ho2 (a + 2) (by omega), q_up_n (by omega)]; exact h3) hT2.1 rfl hi (by decide) ?_
      refine wX0_init_84 ?_
      refine wX0_init_87 ?_
      have ho3 := q_out.trans (q_out.trans (q_out.up (a := a) (n := 60) (b := a + 52 + 2 * i) (h := hh) (e := .inr (7, [.null, .long 0, .int 0, .int 0])) (by omega) (by omega)) (ho2.in (a := a) (n := 60) (by omega) (by omega))) (q_out.up (a := a) (n := 60) (b := a + 2) (e := .inl (5, 4, .inr (.inr (.inr (.inr (va_up g i (some (a + 52 + 2 * i)))))))) (by omega) (by omega))
      refine q_ls (by rw [nI_1]) (q_zw (by omega) (ih _ ⟨?_, ?_, ⟨_, q_up_s, fun k => ?_⟩, ?_, fun k hk => ?_, fun k hk => ?_, ho.trans ho3⟩))
      · rw [q_up_n (by omega), ho2 _ (by omega), q_up_n (by omega)]; exact h1
      · rw [q_up_n (by omega), ho2 _ (by omega), q_up_n (by omega)]; exact h2
      · unfold va_up
        by_cases q1 : k = i
        · subst q1; simp
        · rw [if_neg q1, hg k]
          by_cases q2 : k < i
          · rw [if_pos q2, if_pos (by omega)]
          · rw [if_neg q2, if_neg (by omega)]
      · rw [q_up_n (by omega), ho2 _ (by omega), q_up_n (by omega)]; exact h4
      · have := (hps k hk).o (q_out.up (a := a + 52 + 2 * i) (n := 1) (b := a + 52 + 2 * i) (e := .inr (7, [.null, .long 0, .int 0, .int 0])) (by omega) (by omega)) (by omega)
        exact ((this.o ho2 (by omega)).o (q_out.up (a := a + 2) (n := 1) (by omega) (by omega)) (by omega))
      · by_cases q1 : k = i
        · subst q1
          exact hT2.o (q_out.up (a := a + 2) (n := 1) (by omega) (by omega)) (by omega)
        · have := (hts k (by omega)).o (q_out.up (a := a + 52 + 2 * i) (n := 1) (b := a + 52 + 2 * i) (e := .inr (7, [.null, .long 0, .int 0, .int 0])) (by omega) (by omega)) (by omega)
          exact ((this.o ho2 (by omega)).o (q_out.up (a := a + 2) (n := 1) (by omega) (by omega)) (by omega))
  · rintro i hi ih hh ⟨h1, ⟨f, h2, hf⟩, h3, h4, hps, ho⟩
    refine q_bud (bc' := (24 - (i + 1)) * 2 + 8 + 1 + 1) (bs' := (24 - (i + 1)) * 10 + 124 + 5 + 5) (by omega) (by omega) ?_
    refine wX0_init_39 ?_
    refine wX0_init_40 ?_
    refine wX0_init_42 (fun c42 => absurd c42 (nI_ge (b := 24) hi (by decide))) (fun c42 => ?_)
    refine wX0_init_45 ?_
    refine wX0_init_46 h1 ?_
    refine wX0_init_49 ?_
    refine wX0_init_50 ?_
    refine wX0_init_53 ?_
    refine wX0_init_54 (mX3_init q_up_s fun h2v hP2 ho2 => ?_)
    refine wX0_init_57 (t := 4) (ci := 4) rfl rfl (by rw [ho2 (a + 1) (by omega), q_up_n (by omega)]; exact h2) hP2.1 rfl hi (by decide) ?_
    refine wX0_init_58 ?_
    refine wX0_init_61 ?_
    have ho3 := q_out.trans (q_out.trans (q_out.up (a := a) (n := 60) (b := a + 4 + 2 * i) (h := hh) (e := .inr (4, [.int 0, .int 0, .int 0, .int 0, .null])) (by omega) (by omega)) (ho2.in (a := a) (n := 60) (by omega) (by omega))) (q_out.up (a := a) (n := 60) (b := a + 1) (e := .inl (4, 24, .inr (.inr (.inr (.inr (va_up f i (some (a + 4 + 2 * i)))))))) (by omega) (by omega))
    refine q_ls (by rw [nI_1]) (q_zw (by omega) (ih _ ⟨?_, ⟨_, q_up_s, fun k => ?_⟩, ?_, ?_, fun k hk => ?_, ho.trans ho3⟩))
    · rw [q_up_n (by omega), ho2 _ (by omega), q_up_n (by omega)]; exact h1
    · unfold va_up
      by_cases q1 : k = i
      · subst q1; simp
      · rw [if_neg q1, hf k]
        by_cases q2 : k < i
        · rw [if_pos q2, if_pos (by omega)]
        · rw [if_neg q2, if_neg (by omega)]
    · rw [q_up_n (by omega), ho2 _ (by omega), q_up_n (by omega)]; exact h3
    · rw [q_up_n (by omega), ho2 _ (by omega), q_up_n (by omega)]; exact h4
    · by_cases q1 : k = i
      · subst q1
        exact hP2.o (q_out.up (a := a + 1) (n := 1) (by omega) (by omega)) (by omega)
      · have := (hps k (by omega)).o (q_out.up (a := a + 4 + 2 * i) (n := 1) (b := a + 4 + 2 * i) (e := .inr (4, [.int 0, .int 0, .int 0, .int 0, .null])) (by omega) (by omega)) (by omega)
        exact ((this.o ho2 (by omega)).o (q_out.up (a := a + 1) (n := 1) (by omega) (by omega)) (by omega))
end CX2
