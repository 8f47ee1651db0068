/-! SalaryCapLedger$Team, $Terms, $Player, Integer.bitCount -/
section CX6
variable {V : q_En} {h : q_H} {z : Option Nat} {Kx : q_KX}
theorem q_copyi {y : q_I} {pc ix a0 a n : Nat} {ls : List (Option Value)} {st : List Value} {bc bs : Nat} {Kr : q_KR} {f g : Nat → Int32} {i : Int32} (d : decode (i_b y) pc = .ok (.invokestatic ix, 3)) (k1 : Cond.methodLink (i_o y) ix arraycopyName ∈ q_big) (k2 : Cond.native arraycopyName ∈ q_big) (k3 : Cond.static arraycopyName ∈ q_big) (k4 : Cond.initialized "java/lang/System" ∈ q_big)
    (hf : 1 ≤ i_f y) (hl : (st.map fun v => v.category).sum + 18 ≤ i_l y) (ha0 : h a0 = some (.inl (1, n, .inl f))) (ha : h a = some (.inl (1, n, .inl g))) (hi : i = nI n) (hn : n < 2147483648)
    (kk : QW V y (pc + 3) ls st (q_up h a (.inl (1, n, .inl (va_cpy f g 0 0 n)))) z bc bs Kr Kx) : QW V y pc ls (.int i :: .int 0 :: .ref a :: .int 0 :: .ref a0 :: st) h z bc bs Kr Kx := by
  subst hi
  intro p e R s m args below meth c H locs cells slots l0 Q C hR hL hS hc hs hF T hT X
  have hcl : (nI n).toNatClampNeg = n := nI_clamp (by omega)
  have hti : (nI n).toInt = (n : Int) := nI_toInt (by omega)
  obtain ⟨hBa, hat⟩ := hR.1 a _ ha
  have hc0 : H[a0]? = some (vp_cell (e_A V 1) (n, .inl f)) := (hR.1 a0 _ ha0).2
  have hc1 : H[a]? = some (vp_cell (e_A V 1) (n, .inl g)) := hat
  obtain ⟨-, q0, hk0, cm0, hkk0⟩ := (C.K.2 1 _ rfl).1 n (fun j => .int (f j))
  obtain ⟨-, q1, hk1, cm1, hkk1⟩ := (C.K.2 1 _ rfl).1 n (fun j => .int (g j))
  obtain ⟨vm', X', step⟩ := X.arraycopy C.x C.own (C.w _ k1) (C.w _ k2) (C.w _ k3) (C.w _ k4) (src := a0) (dst := a) (cs := vp_cell (e_A V 1) (n, .inl f)) (cd := vp_cell (e_A V 1) (n, .inl g)) (srcPos := 0) (destPos := 0) (n := nI n) (by rw [hT]; exact hc0) (by rw [hT]; exact hc1)
    (fun _ h => by cases h) (fun _ h => by cases h) (fun h => by cases h) (fun h => by cases h) hk0 hk1 hkk0 hkk1 (by simp [refKind]) (by decide) (by decide) (nI_pos (by omega))
    (by rw [hti]; show ¬ ((0 : Int32).toInt + (n : Int)) > ((arrV (e_A V 1) n (fun j => .int (f j))).slots.size : Int); rw [arrV_size]; simp)
    (by rw [hti]; show ¬ ((0 : Int32).toInt + (n : Int)) > ((arrV (e_A V 1) n (fun j => .int (g j))).slots.size : Int); rw [arrV_size]; simp)
    (fun vm₁ _ i hi => by
      have e : (vp_cell (e_A V 1) (n, .inl f)).slots.getD ((0 : Int32).toNatClampNeg + i) .null = .int (f i) := by
        show (arrV (e_A V 1) n (fun j => .int (f j))).slots.getD _ _ = _
        rw [hcl] at hi
        rw [show (0 : Int32).toNatClampNeg + i = i from Nat.zero_add i, Array.getD_eq_getD_getElem?, arrV_read _ _ hi]
        rfl
      rw [e]
      exact ⟨rfl, trivial⟩)
    (g := F0 m pc l0 (.int (nI n) :: .int 0 :: .ref a :: .int 0 :: .ref a0 :: st)) rfl (hL.1.1.trans C.n.symm) (rest := st) rfl (by rw [C.b]; exact d) (Nat.le_trans hf C.f) (by have h9 : nativeFrameWords "java/lang/System" "arraycopy" 5 = 7 := (by decide +kernel); show 2 * 0 + _ + _ ≤ _; rw [h9]; have := C.l; omega)
  have e1 : copied (vp_cell (e_A V 1) (n, .inl f)) (vp_cell (e_A V 1) (n, .inl g)) 0 0 (nI n) = vp_cell (e_A V 1) (n, .inl (va_cpy f g 0 0 n)) := by
    have := va_copied (sp := 0) (dp := 0) (n := n) (fun z => Value.int z) (e_A V 1) (e_A V 1) (n0 := n) (n1 := n) f g (Nat.le_of_eq (Nat.zero_add n))
    show (arrV (e_A V 1) n (fun j => Value.int (g j))).storeRun (0 : Int32).toNatClampNeg ((arrV (e_A V 1) n (fun j => Value.int (f j))).stretch (0 : Int32).toNatClampNeg (nI n).toNatClampNeg) = _
    rw [hcl]
    exact this
  rw [e1] at X' step
  have hla : a < H.size := (Array.getElem?_eq_some_iff.mp hc1).1
  have hheap : ((T.setVm vm').setCell a (vp_cell (e_A V 1) (n, .inl (va_cpy f g 0 0 n)))).heap = H.setIfInBounds a (vp_cell (e_A V 1) (n, .inl (va_cpy f g 0 0 n))) := by rw [← hT]; rfl
  have oq : ∀ q : Nat, q ≠ a → (H.setIfInBounds a (vp_cell (e_A V 1) (n, .inl (va_cpy f g 0 0 n))))[q]? = H[q]? := fun q hq => by simp [Array.getElem?_setIfInBounds, Ne.symm hq]
  obtain ⟨t, a1, b1⟩ := kk p e R s m args below meth c _ _ cells slots l0 Q C (hR.up ha (show (H.setIfInBounds a (vp_cell (e_A V 1) (n, .inl (va_cpy f g 0 0 n))))[a]? = some _ by simp [Array.getElem?_setIfInBounds, hla]) (by simp) oq) hL (⟨by simp; exact hS.1, fun q g1 g2 => by
      rw [oq q (fun e => g2 (by rw [e]; exact hBa))]
      exact hS.2.1 q g1 g2, fun q hq => by
      rcases List.mem_append.mp hq with h | h
      · exact hS.2.2 q h
      · obtain ⟨z, -, hz⟩ := List.mem_map.mp h
        rw [← hz]
        exact hBa⟩) hc hs hF _ hheap X'
  exact ⟨t, step t a1, b1⟩
abbrev q_Tm : Type := (Nat → Int32) × Int64 × Int32 × Int32
def t_d (t : q_Tm) : Nat → Int32 := t.1
def t_p (t : q_Tm) : Int64 := t.2.1
def t_x (t : q_Tm) : Int32 := t.2.2.1
def t_m (t : q_Tm) : Int32 := t.2.2.2
abbrev teamE (a : Nat) (t : q_Tm) : q_E := .inr (7, [.ref (a + 1), .long (t_p t), .int (t_x t), .int (t_m t)])
def isT (h : q_H) (a : Nat) (t : q_Tm) : Prop := h a = some (teamE a t) ∧ ∃ f, h (a + 1) = some (.inl (1, 27, .inl f)) ∧ ∀ k, k < 27 → f k = t_d t k
def t_in (t : q_Tm) (x : Int32) : Int32 := if x < 0 ∨ 27 ≤ x then 0 else t_d t x.toNatClampNeg
def t_add (t : q_Tm) (x v : Int32) : q_Tm := if x < 0 ∨ 27 ≤ x then t else (upd (t_d t) x.toNatClampNeg (t_d t x.toNatClampNeg + v), t.2)
theorem isT.up {a : Nat} {t t' : q_Tm} (hT : isT h a t) (e : t_d t' = t_d t) : isT (q_up h a (teamE a t')) a t' := by
  obtain ⟨h1, f, h2, h3⟩ := hT
  exact ⟨q_up_s, f, by rw [q_up_n (by omega)]; exact h2, fun k hk => by rw [e]; exact h3 k hk⟩
theorem mX6_init {a n : Nat} {P : q_H → Option Nat → Prop} (hn : n = a + 1) (ha : h a = some (.inr (7, [.null, .long 0, .int 0, .int 0]))) (hk : ∀ h', isT h' a (fun _ => 0, 0, 0, 0) → q_out a 2 h h' → P h' (some (a + 2))) : QMv V iX6_init [.ref a] h (some n) P Kx := by
  subst hn
  refine eX6_init ?_
  refine wX6_init_0 ?_
  refine wX6_init_1 ?_
  refine wX6_init_4 ?_
  refine wX6_init_5 ?_
  refine wX6_init_7 rfl (by decide) ?_
  refine wX6_init_9 (by rw [q_up_n (by omega)]; exact ha) ?_
  refine wX6_init_12 ?_
  refine wX6_init_13 ?_
  refine wX6_init_14u ?_
  refine wX6_init_17 ?_
  refine wX6_init_18 ?_
  refine wX6_init_19u ?_
  refine wX6_init_22 ?_
  refine wX6_init_23 ?_
  refine wX6_init_24u ?_
  refine wX6_init_27  ?_
  exact hk _ ⟨q_up_s, _, by rw [q_up_n (by omega)]; exact q_up_s, fun _ _ => rfl⟩ (fun q hq => by rw [q_up_n (by omega), q_up_n (by omega)])
theorem mX6_deadIn {a : Nat} {t : q_Tm} {x : Int32} {P : Int32 → q_H → Option Nat → Prop} (hT : isT h a t) (hk : P (t_in t x) h z) : QMi V iX6_deadIn [.ref a, .int x] h z P Kx := by
  refine eX6_deadIn ?_
  refine wX6_deadIn_0 ?_
  refine wX6_deadIn_1 (fun c1 => ?_) (fun c1 => ?_)
  · refine wX6_deadIn_19 ?_
    refine wX6_deadIn_20  ?_
    first
      | exact q_cv (by rw [t_in, if_pos (Or.inl c1)]) hk
      | exact q_cv (by rw [t_in, if_pos (Or.inr c7)]) hk
      | exact q_cv (by rw [t_in, if_neg (not_or.mpr ⟨c1, c7⟩), nI_clamp (by omega), hfe j hj]) hk
  · refine wX6_deadIn_4 ?_
    refine wX6_deadIn_5 ?_
    refine wX6_deadIn_7 (fun c7 => ?_) (fun c7 => ?_)
    · refine wX6_deadIn_19 ?_
      refine wX6_deadIn_20  ?_
      first
        | exact q_cv (by rw [t_in, if_pos (Or.inl c1)]) hk
        | exact q_cv (by rw [t_in, if_pos (Or.inr c7)]) hk
        | exact q_cv (by rw [t_in, if_neg (not_or.mpr ⟨c1, c7⟩), nI_clamp (by omega), hfe j hj]) hk
    · obtain ⟨j, hj, rfl⟩ := q_of (N := 27) (n := 27) rfl (by decide) c1 c7
      obtain ⟨f, hf, hfe⟩ := hT.2
      refine wX6_deadIn_10 ?_
      refine wX6_deadIn_11 hT.1 ?_
      refine wX6_deadIn_14 ?_
      refine wX6_deadIn_15 hf rfl hj (by decide) ?_
      refine wX6_deadIn_16 ?_
      refine wX6_deadIn_20  ?_
      first
        | exact q_cv (by rw [t_in, if_pos (Or.inl c1)]) hk
        | exact q_cv (by rw [t_in, if_pos (Or.inr c7)]) hk
        | exact q_cv (by rw [t_in, if_neg (not_or.mpr ⟨c1, c7⟩), nI_clamp (by omega), hfe j hj]) hk
theorem mX6_addDead {a : Nat} {t : q_Tm} {x v : Int32} {P : q_H → Option Nat → Prop} (hT : isT h a t) (hk : ∀ h', isT h' a (t_add t x v) → q_out a 2 h h' → P h' z) : QMv V iX6_addDead [.ref a, .int x, .int v] h z P Kx := by
  refine eX6_addDead ?_
  refine wX6_addDead_0 ?_
  refine wX6_addDead_1 (fun c1 => ?_) (fun c1 => ?_)
  · refine wX6_addDead_20  ?_
    first
      | exact hk _ (by rw [t_add, if_pos (Or.inl c1)]; exact hT) q_out.refl
      | exact hk _ (by rw [t_add, if_pos (Or.inr c7)]; exact hT) q_out.refl
      | exact hk _ (by
          rw [t_add, if_neg (not_or.mpr ⟨c1, c7⟩), nI_clamp (by omega)]
          refine ⟨by rw [q_up_n (by omega)]; exact hT.1, _, q_up_s, fun k hk => ?_⟩
          show upd f j (f j + v) k = upd (t_d t) j (t_d t j + v) k
          unfold upd
          split
          · rw [hfe j hj]
          · exact hfe k hk) (q_out.up (by omega) (by omega))
  · refine wX6_addDead_4 ?_
    refine wX6_addDead_5 ?_
    refine wX6_addDead_7 (fun c7 => ?_) (fun c7 => ?_)
    · refine wX6_addDead_20  ?_
      first
        | exact hk _ (by rw [t_add, if_pos (Or.inl c1)]; exact hT) q_out.refl
        | exact hk _ (by rw [t_add, if_pos (Or.inr c7)]; exact hT) q_out.refl
        | exact hk _ (by
            rw [t_add, if_neg (not_or.mpr ⟨c1, c7⟩), nI_clamp (by omega)]
            refine ⟨by rw [q_up_n (by omega)]; exact hT.1, _, q_up_s, fun k hk => ?_⟩
            show upd f j (f j + v) k = upd (t_d t) j (t_d t j + v) k
            unfold upd
            split
            · rw [hfe j hj]
            · exact hfe k hk) (q_out.up (by omega) (by omega))
    · obtain ⟨j, hj, rfl⟩ := q_of (N := 27) (n := 27) rfl (by decide) c1 c7
      obtain ⟨f, hf, hfe⟩ := hT.2
      refine wX6_addDead_10 ?_
      refine wX6_addDead_11 hT.1 ?_
      refine wX6_addDead_14 ?_
      refine wX6_addDead_15 ?_
      refine wX6_addDead_16 hf rfl hj (by decide) ?_
      refine wX6_addDead_17 ?_
      refine wX6_addDead_18 ?_
      refine wX6_addDead_19 hf rfl hj (by decide) ?_
      refine wX6_addDead_20  ?_
      first
        | exact hk _ (by rw [t_add, if_pos (Or.inl c1)]; exact hT) q_out.refl
        | exact hk _ (by rw [t_add, if_pos (Or.inr c7)]; exact hT) q_out.refl
        | exact hk _ (by
            rw [t_add, if_neg (not_or.mpr ⟨c1, c7⟩), nI_clamp (by omega)]
            refine ⟨by rw [q_up_n (by omega)]; exact hT.1, _, q_up_s, fun k hk => ?_⟩
            show upd f j (f j + v) k = upd (t_d t) j (t_d t j + v) k
            unfold upd
            split
            · rw [hfe j hj]
            · exact hfe k hk) (q_out.up (by omega) (by omega))
theorem mX6_clear {a : Nat} {t : q_Tm} {P : q_H → Option Nat → Prop} (hT : isT h a t) (hk : ∀ h', isT h' a (fun _ => 0, 0, 0, 0) → q_out a 2 h h' → P h' z) : QMv V iX6_clear [.ref a] h z P Kx := by
  obtain ⟨h1, f, h2, -⟩ := hT
  refine eX6_clear ?_
  refine wX6_clear_0 ?_
  refine wX6_clear_1 ?_
  refine q_for (P := fun i => ∀ hh, (hh a = some (teamE a t) ∧ (∃ f, hh (a + 1) = some (.inl (1, 27, .inl f)) ∧ ∀ k, k < i → f k = 0) ∧ q_out a 2 h hh) → QW V iX6_clear 2 [some (.ref a), some (.int (nI i))] [] hh z 0 0 (q_Kv P) Kx) 27 ?_ ?_ h ⟨h1, ⟨f, h2, fun k hk => absurd hk (by omega)⟩, q_out.refl⟩
  · rintro hh ⟨h1, ⟨f, h2, h3⟩, ho⟩
    refine wX6_clear_2 ?_
    refine wX6_clear_3 ?_
    refine wX6_clear_5 (fun c5 => ?_) (fun c5 => absurd (by decide) c5)
    refine wX6_clear_21 ?_
    refine wX6_clear_22 ?_
    refine wX6_clear_23 h1 ?_
    refine wX6_clear_26 ?_
    refine wX6_clear_27 ?_
    refine wX6_clear_28u ?_
    refine wX6_clear_31 ?_
    refine wX6_clear_32 ?_
    refine wX6_clear_33u ?_
    refine wX6_clear_36  ?_
    exact hk _ ⟨q_up_s, f, by rw [q_up_n (by omega)]; exact h2, h3⟩ (ho.trans (q_out.up (by omega) (by omega)))
  · rintro i hi ih hh ⟨h1, ⟨f, h2, h3⟩, ho⟩
    refine wX6_clear_2 ?_
    refine wX6_clear_3 ?_
    refine wX6_clear_5 (fun c5 => absurd c5 (nI_ge (b := 27) hi (by decide))) (fun c5 => ?_)
    refine wX6_clear_8 ?_
    refine wX6_clear_9 h1 ?_
    refine wX6_clear_12 ?_
    refine wX6_clear_13 ?_
    refine wX6_clear_14 h2 rfl hi (by decide) ?_
    refine wX6_clear_15 ?_
    refine wX6_clear_18 ?_
    refine q_ls (by rw [nI_1]) (ih _ ⟨by rw [q_up_n (by omega)]; exact h1, ⟨_, q_up_s, fun k hk => ?_⟩, ho.trans (q_out.up (by omega) (by omega))⟩)
    unfold upd
    by_cases q1 : k = i
    · rw [if_pos q1]
    · rw [if_neg q1]; exact h3 k (by omega)
theorem mX6_copyFrom {a b : Nat} {t u : q_Tm} {P : q_H → Option Nat → Prop} (hab : a + 2 ≤ b ∨ b + 2 ≤ a) (hT : isT h a t) (hU : isT h b u) (hk : ∀ h', isT h' a u → q_out a 2 h h' → P h' z) : QMv V iX6_copyFrom [.ref a, .ref b] h z P Kx := by
  obtain ⟨f, hf, hfe⟩ := hU.2
  obtain ⟨g, hg, hge⟩ := hT.2
  refine eX6_copyFrom ?_
  refine wX6_copyFrom_0 ?_
  refine wX6_copyFrom_1 hU.1 ?_
  refine wX6_copyFrom_4 ?_
  refine wX6_copyFrom_5 ?_
  refine wX6_copyFrom_6 hT.1 ?_
  refine wX6_copyFrom_9 ?_
  refine wX6_copyFrom_10 ?_
  refine q_copyi (a0 := b + 1) (a := a + 1) (by decide +kernel : decode (i_b iX6_copyFrom) 12 = .ok (.invokestatic 26, 3)) k3_152 k3_154 k3_153 k1_22 (Nat.le_of_ble_eq_true rfl) (Nat.le_of_ble_eq_true rfl) hf hg rfl (by decide) ?_
  refine wX6_copyFrom_15 ?_
  refine wX6_copyFrom_16 ?_
  refine wX6_copyFrom_17 (by rw [q_up_n (by omega)]; exact hU.1) ?_
  refine wX6_copyFrom_20 (by rw [q_up_n (by omega)]; exact hT.1) ?_
  refine wX6_copyFrom_23 ?_
  refine wX6_copyFrom_24 ?_
  refine wX6_copyFrom_25 (by rw [q_up_n (by omega), q_up_n (by omega)]; exact hU.1) ?_
  refine wX6_copyFrom_28u ?_
  refine wX6_copyFrom_31 ?_
  refine wX6_copyFrom_32 ?_
  refine wX6_copyFrom_33 (by rw [q_up_n (by omega), q_up_n (by omega)]; exact hU.1) ?_
  refine wX6_copyFrom_36u ?_
  refine wX6_copyFrom_39  ?_
  exact hk _ ⟨q_up_s, _, by rw [q_up_n (by omega)]; exact q_up_s, fun k hk => by
    show va_cpy f g 0 0 27 k = _
    unfold va_cpy
    rw [if_pos ⟨by omega, by omega⟩]
    simpa using hfe k hk⟩ (fun q hq => by rw [q_up_n (by omega), q_up_n (by omega)])
end CX6
