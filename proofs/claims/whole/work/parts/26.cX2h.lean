/-! SalaryCapLedger$History -/
section CX2h
variable {V : q_En} {h : q_H} {z : Option Nat} {Kx : q_KX}
def rows (a s n : Nat) : Nat → Option Nat := fun k => if k < n then some (a + s * k) else none
abbrev histE (a nx ct : Nat) : q_E := .inr (3, [.ref (a + 1), .int (nI nx), .int (nI ct)])
/-- the books, the next place, how many -/
def q_Hs : Type := (Nat → q_Bk) × Nat × Nat
def isHs (h : q_H) (a : Nat) (H : q_Hs) : Prop := h a = some (histE a H.2.1 H.2.2) ∧ h (a + 1) = some (.inl (6, 10, .inr (.inr (.inr (.inr (rows (a + 2) 60 10)))))) ∧ ∀ k, k < 10 → isB h (a + 2 + 60 * k) (H.1 k)
theorem isHs.o {a c m : Nat} {H : q_Hs} {h' : q_H} (hB : isHs h a H) (ho : q_out c m h h') (ne : a + 602 ≤ c ∨ c + m ≤ a) : isHs h' a H :=
  ⟨by rw [ho a (by omega)]; exact hB.1, by rw [ho (a + 1) (by omega)]; exact hB.2.1, fun k hk => (hB.2.2 k hk).o ho (by omega)⟩
theorem isHs.sB {a k : Nat} {H : q_Hs} {b : q_Bk} {h' : q_H} (hB : isHs h a H) (hk : k < 10) (hb : isB h' (a + 2 + 60 * k) b) (ho : q_out (a + 2 + 60 * k) 60 h h') : isHs h' a (fun j => if j = k then b else H.1 j, H.2) := by
  refine ⟨by rw [ho a (by omega)]; exact hB.1, by rw [ho (a + 1) (by omega)]; exact hB.2.1, fun j hj => ?_⟩
  by_cases q : j = k
  · subst q; show isB h' _ (if j = j then b else _); rw [if_pos rfl]; exact hb
  · show isB h' _ (if j = k then b else _); rw [if_neg q]; exact (hB.2.2 j hj).o ho (by omega)
theorem isHs.sE {a n c : Nat} {H : q_Hs} (hB : isHs h a H) : isHs (q_up h a (histE a n c)) a (H.1, n, c) := by
  have ho : q_out a 1 h (q_up h a (histE a n c)) := q_out.up (by omega) (by omega)
  exact ⟨q_up_s, by rw [ho (a + 1) (by omega)]; exact hB.2.1, fun j hj => (hB.2.2 j hj).o ho (by omega)⟩
def hs_0 : q_Hs := (fun _ => bk_0, 0, 0)
def hs_for (H : q_Hs) : q_Hs := (H.1, 0, 0)
def hs_rem (H : q_Hs) (b : q_Bk) : q_Hs := (fun j => if j = H.2.1 then b else H.1 j, (H.2.1 + 1) % 10, min (H.2.2 + 1) 10)
def hs_pre (H : q_Hs) : Nat := (H.2.1 + 9) % 10
def hs_res (H : q_Hs) : q_Hs := (H.1, hs_pre H, H.2.2 - 1)
theorem nI_nxt : ∀ n, n < 10 → nI n + 1 - (nI n + 1) / 10 * 10 = nI ((n + 1) % 10) := by decide
theorem nI_prev : ∀ n, n < 10 → nI n + 10 - 1 - (nI n + 10 - 1) / 10 * 10 = nI ((n + 9) % 10) := by decide
theorem nI_mc : ∀ n, n < 11 → (if (10 : Int32) < nI n + 1 then (10 : Int32) else nI n + 1) = nI (min (n + 1) 10) := by decide
theorem nI_prd : ∀ n, n < 11 → n ≠ 0 → nI n - 1 = nI (n - 1) := by decide
theorem nI_nz : ∀ n, n < 11 → ¬ nI n = 0 → n ≠ 0 := by decide
theorem nI_z0 : ∀ n, n < 11 → nI n = 0 → n = 0 := by decide
theorem mX2_init {a : Nat} {P : q_H → Option Nat → Prop} (ha : h a = some (.inr (3, [.null, .int 0, .int 0]))) (hk : ∀ h', isHs h' a hs_0 → q_out a 602 h h' → P h' (some (a + 602))) : QMv V iX2_init [.ref a] h (some (a + 1)) P Kx := by
  refine eX2_init ?_
  refine wX2_init_0 ?_
  refine wX2_init_1 ?_
  refine wX2_init_4 ?_
  refine wX2_init_5 ?_
  refine wX2_init_7 rfl (by decide) ?_
  refine wX2_init_10 (by rw [q_up_n (by omega)]; exact ha) ?_
  refine wX2_init_13 ?_
  refine wX2_init_14 ?_
  refine wX2_init_15u ?_
  refine wX2_init_18 ?_
  refine wX2_init_19 ?_
  refine wX2_init_20u ?_
  refine wX2_init_23 ?_
  refine wX2_init_24 ?_
  refine q_for (P := fun i => ∀ hh, (hh a = some (histE a 0 0) ∧ (∃ f, hh (a + 1) = some (.inl (6, 10, .inr (.inr (.inr (.inr f))))) ∧ ∀ k, f k = if k < i then some (a + 2 + 60 * k) else none) ∧ (∀ k, k < i → isB hh (a + 2 + 60 * k) bk_0) ∧ q_out a 602 h hh) → QW V iX2_init 25 [some (.ref a), some (.int (nI i))] [] hh (some (a + 2 + 60 * i)) ((10 - i) * 60) ((10 - i) * 401) (q_Kv P) Kx) 10 ?_ ?_ _ ⟨q_up_s, ⟨fun _ => none, by simp [q_up], fun k => by simp⟩, fun k hk => absurd hk (by omega), fun q hq => ?_⟩
  rotate_left
  rotate_left
  · simp only [q_up_n (show q ≠ a by omega), q_up_n (show q ≠ a + 1 by omega)]
  · rintro hh ⟨h1, ⟨f, h2, hf⟩, hbs, ho⟩
    refine wX2_init_25 ?_
    refine wX2_init_26 ?_
    refine wX2_init_28 (fun c28 => ?_) (fun c28 => absurd (by decide) c28)
    refine wX2_init_50  ?_
    refine hk _ ⟨h1, ?_, hbs⟩ ho
    rw [h2, show f = rows (a + 2) 60 10 from funext fun k => by rw [hf k]; rfl]
  · rintro i hi ih hh ⟨h1, ⟨f, h2, hf⟩, hbs, ho⟩
    refine q_bud (bc' := (10 - (i + 1)) * 60 + 59 + 1) (bs' := (10 - (i + 1)) * 401 + 397 + 4) (by omega) (by omega) ?_
    refine wX2_init_25 ?_
    refine wX2_init_26 ?_
    refine wX2_init_28 (fun c28 => absurd c28 (nI_ge (b := 10) hi (by decide))) (fun c28 => ?_)
    refine wX2_init_31 ?_
    refine wX2_init_32 h1 ?_
    refine wX2_init_35 ?_
    refine wX2_init_36 ?_
    refine wX2_init_39 ?_
    refine wX2_init_40 (mX0_init q_up_s fun h2v hB2 ho2 => ?_)
    refine wX2_init_43 (t := 6) (ci := 1) rfl rfl (by rw [ho2 (a + 1) (by omega), q_up_n (by omega)]; exact h2) hB2.1 rfl hi (by decide) ?_
    refine wX2_init_44 ?_
    refine wX2_init_47 ?_
    have ho3 := q_out.trans (q_out.trans (q_out.up (a := a) (n := 602) (b := a + 2 + 60 * i) (h := hh) (e := .inr (1, [.null, .null, .null, .int 0])) (by omega) (by omega)) (ho2.in (a := a) (n := 602) (by omega) (by omega))) (q_out.up (a := a) (n := 602) (b := a + 1) (e := .inl (6, 10, .inr (.inr (.inr (.inr (va_up f i (some (a + 2 + 60 * i)))))))) (by omega) (by omega))
    refine q_ls (by rw [nI_1]) (q_zw (by omega) (ih _ ⟨?_, ⟨_, q_up_s, fun k => ?_⟩, fun k hk => ?_, ho.trans ho3⟩))
    · rw [q_up_n (by omega), ho2 _ (by omega), q_up_n (by omega)]; exact h1
    · unfold va_up
      by_cases q1 : k = i
      · subst q1; simp
      · rw [if_neg q1, hf k]
        by_cases q2 : k < i
        · rw [if_pos q2, if_pos (by omega)]
        · rw [if_neg q2, if_neg (by omega)]
    · by_cases q1 : k = i
      · subst q1
        exact hB2.o (q_out.up (a := a + 1) (n := 1) (by omega) (by omega)) (by omega)
      · have := (hbs k (by omega)).o (q_out.up (a := a + 2 + 60 * i) (n := 1) (b := a + 2 + 60 * i) (e := .inr (1, [.null, .null, .null, .int 0])) (by omega) (by omega)) (by omega)
        exact ((this.o ho2 (by omega)).o (q_out.up (a := a + 1) (n := 1) (by omega) (by omega)) (by omega))
theorem mX2_forget {a : Nat} {H : q_Hs} {P : q_H → Option Nat → Prop} (hH : isHs h a H) (hk : ∀ h', isHs h' a (hs_for H) → q_out a 602 h h' → P h' z) : QMv V iX2_forget [.ref a] h z P Kx := by
  refine eX2_forget ?_
  refine wX2_forget_0 ?_
  refine wX2_forget_1 ?_
  refine wX2_forget_2 hH.1 ?_
  refine wX2_forget_5 ?_
  refine wX2_forget_6 ?_
  refine wX2_forget_7u ?_
  refine wX2_forget_10  ?_
  exact hk _ hH.sE (q_out.up (by omega) (by omega))
theorem mX2_remember {a d : Nat} {H : q_Hs} {b : q_Bk} {P : q_H → Option Nat → Prop} (hH : isHs h a H) (hn : H.2.1 < 10) (hc : H.2.2 ≤ 10) (had : a + 602 ≤ d ∨ d + 60 ≤ a) (hB : isB h d b) (hk : ∀ h', isHs h' a (hs_rem H b) → q_out a 602 h h' → P h' z) : QMv V iX2_remember [.ref a, .ref d] h z P Kx := by
  refine eX2_remember ?_
  refine wX2_remember_0 ?_
  refine wX2_remember_1 hH.1 ?_
  refine wX2_remember_4 ?_
  refine wX2_remember_5 hH.1 ?_
  refine wX2_remember_8 (t := 6) rfl hH.2.1 rfl hn (by decide) (if_pos hn) ?_
  refine wX2_remember_9 ?_
  refine wX2_remember_10 (hH.2.2 _ hn).1 (mX0_copyFrom (by omega) (hH.2.2 _ hn) hB fun h2 hB2 ho2 => ?_)
  have hH2 := hH.sB hn hB2 ho2
  refine wX2_remember_13 ?_
  refine wX2_remember_14 ?_
  refine wX2_remember_15 hH2.1 ?_
  refine wX2_remember_18 ?_
  refine wX2_remember_19 ?_
  refine wX2_remember_20 ?_
  refine wX2_remember_22 (by decide) ?_
  refine wX2_remember_23 hH2.1 ?_
  refine wX2_remember_26 ?_
  refine wX2_remember_27 ?_
  refine wX2_remember_28 (by rw [nI_nxt _ hn]; exact q_up_s) ?_
  refine wX2_remember_31 ?_
  refine wX2_remember_32 ?_
  refine wX2_remember_33 ?_
  refine wX2_remember_35 ?_
  refine wX2_remember_38 (by rw [nI_nxt _ hn]; exact q_up_s) ?_
  refine wX2_remember_41  ?_
  rw [nI_mc _ (show H.2.2 < 11 by omega), nI_nxt _ hn, q_up_u]
  exact hk _ (hH2.sE (n := (H.2.1 + 1) % 10) (c := min (H.2.2 + 1) 10)) ((ho2.in (by omega) (by omega)).trans (q_out.up (by omega) (by omega)))
theorem mX2_restoreTo {a d : Nat} {H : q_Hs} {b : q_Bk} {P : q_H → Option Nat → Prop} (hH : isHs h a H) (hn : H.2.1 < 10) (hc : H.2.2 ≤ 10) (had : a + 602 ≤ d ∨ d + 60 ≤ a) (hB : isB h d b) (hk0 : H.2.2 = 0 → P h z) (hk : ∀ h', H.2.2 ≠ 0 → isHs h' a (hs_res H) → isB h' d (H.1 (hs_pre H)) → (∀ q, (q < a ∨ a + 602 ≤ q) → (q < d ∨ d + 60 ≤ q) → h' q = h q) → P h' z) : QMv V iX2_restoreTo [.ref a, .ref d] h z P Kx := by
  refine eX2_restoreTo ?_
  refine wX2_restoreTo_0 ?_
  refine wX2_restoreTo_1 hH.1 ?_
  refine wX2_restoreTo_4 (fun c4 => ?_) (fun c4 => ?_)
  · refine wX2_restoreTo_8 ?_
    refine wX2_restoreTo_9 ?_
    refine wX2_restoreTo_10 hH.1 ?_
    refine wX2_restoreTo_13 ?_
    refine wX2_restoreTo_15 ?_
    refine wX2_restoreTo_16 ?_
    refine wX2_restoreTo_17 ?_
    refine wX2_restoreTo_18 ?_
    refine wX2_restoreTo_20 (by decide) ?_
    refine wX2_restoreTo_21 hH.1 ?_
    refine wX2_restoreTo_24 ?_
    refine wX2_restoreTo_25 ?_
    refine wX2_restoreTo_26 (by rw [nI_prev _ hn]; exact q_up_s) ?_
    refine wX2_restoreTo_29 ?_
    refine wX2_restoreTo_30 ?_
    refine wX2_restoreTo_31 (by rw [nI_prev _ hn]; exact q_up_s) ?_
    rw [nI_prd _ (show H.2.2 < 11 by omega) (nI_nz _ (show H.2.2 < 11 by omega) c4), nI_prev _ hn, q_up_u]
    have hH2 : isHs (q_up h a (histE a ((H.2.1 + 9) % 10) (H.2.2 - 1))) a (hs_res H) := hH.sE
    have ho2 : q_out a 1 h (q_up h a (histE a ((H.2.1 + 9) % 10) (H.2.2 - 1))) := q_out.up (by omega) (by omega)
    refine wX2_restoreTo_34 ?_
    refine wX2_restoreTo_35 ?_
    refine wX2_restoreTo_36 hH2.1 ?_
    refine wX2_restoreTo_39 ?_
    refine wX2_restoreTo_40 hH2.1 ?_
    refine wX2_restoreTo_43 (t := 6) rfl hH2.2.1 rfl (Nat.mod_lt _ (by decide)) (by decide) (if_pos (Nat.mod_lt _ (by decide))) ?_
    refine wX2_restoreTo_44 (hB.o ho2 (by omega)).1 (mX0_copyFrom (by have : (hs_res H).2.1 < 10 := Nat.mod_lt _ (by decide); omega) (hB.o ho2 (by omega)) (hH2.2.2 _ (Nat.mod_lt _ (by decide))) fun h3 hB3 ho3 => ?_)
    refine wX2_restoreTo_47  ?_
    exact hk _ (nI_nz _ (show H.2.2 < 11 by omega) c4) (hH2.o ho3 (by omega)) hB3 (fun q h1 h2 => by rw [ho3 q (by omega), ho2 q (by omega)])
  · refine wX2_restoreTo_7  ?_
    exact hk0 (nI_z0 _ (show H.2.2 < 11 by omega) c4)
end CX2h
