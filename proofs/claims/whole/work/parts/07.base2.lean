/-! Typed answers, the reference's object, the throws' words, the methods. -/
section Q7
variable {V : q_En} {y y' : q_I} {pc : Nat} {ls : List (Option Value)} {st : List Value} {h : q_H} {z : Option Nat} {bc bs : Nat} {Kr : q_KR} {Kx : q_KX}
def q_Ki (P : Int32 → q_H → Option Nat → Prop) : q_KR := fun v h z => ∃ r : Int32, v = some (.int r) ∧ P r h z
def q_Kl (P : Int64 → q_H → Option Nat → Prop) : q_KR := fun v h z => ∃ r : Int64, v = some (.long r) ∧ P r h z
def q_Kd (P : UInt64 → q_H → Option Nat → Prop) : q_KR := fun v h z => ∃ r : UInt64, v = some (.double r) ∧ P r h z
def q_Kv (P : q_H → Option Nat → Prop) : q_KR := fun v h z => v = none ∧ P h z
def QMi (V : q_En) (y : q_I) (as : List Value) (h : q_H) (z : Option Nat) (P : Int32 → q_H → Option Nat → Prop) (Kx : q_KX) : Prop := QM V y as h z (q_Ki P) Kx
def QMl (V : q_En) (y : q_I) (as : List Value) (h : q_H) (z : Option Nat) (P : Int64 → q_H → Option Nat → Prop) (Kx : q_KX) : Prop := QM V y as h z (q_Kl P) Kx
def QMd (V : q_En) (y : q_I) (as : List Value) (h : q_H) (z : Option Nat) (P : UInt64 → q_H → Option Nat → Prop) (Kx : q_KX) : Prop := QM V y as h z (q_Kd P) Kx
def QMv (V : q_En) (y : q_I) (as : List Value) (h : q_H) (z : Option Nat) (P : q_H → Option Nat → Prop) (Kx : q_KX) : Prop := QM V y as h z (q_Kv P) Kx
theorem QM.mono {as : List Value} {Kr Kr' : q_KR} {Kx Kx' : q_KX} (hm : QM V y as h z Kr Kx) (hr : ∀ v h z, Kr v h z → Kr' v h z) (hx : ∀ E h, Kx E h → Kx' E h) : QM V y as h z Kr' Kx' := by
  refine MetFree.mono hm (fun _ _ q => q) (fun _ _ _ _ _ q => q) (fun a s o t _ q => ?_)
  rcases q with ⟨⟨v, h', z', e1, e2, e3⟩, e4⟩ | ⟨q, e1, E, ce, L, ⟨h', hk, e2⟩, e3⟩
  · exact Or.inl ⟨⟨v, h', z', e1, hr _ _ _ e2, e3⟩, e4⟩
  · exact Or.inr ⟨q, e1, E, ce, L, ⟨h', hx _ _ hk, e2⟩, e3⟩
theorem QMi.run {as rest : List Value} {pc' : Nat} {Kx' : q_KX} (hm : QMi V y' as h z (fun r h' z' => QW V y pc' ls (.int r :: rest) h' z' bc bs Kr Kx) Kx') : QM V y' as h z (fun v h' z' => QW V y pc' ls (v.toList ++ rest) h' z' bc bs Kr Kx) Kx' :=
  QM.mono hm (fun v h z q => by obtain ⟨r, rfl, k⟩ := q; exact k) (fun _ _ q => q)
theorem QMl.run {as rest : List Value} {pc' : Nat} {Kx' : q_KX} (hm : QMl V y' as h z (fun r h' z' => QW V y pc' ls (.long r :: rest) h' z' bc bs Kr Kx) Kx') : QM V y' as h z (fun v h' z' => QW V y pc' ls (v.toList ++ rest) h' z' bc bs Kr Kx) Kx' :=
  QM.mono hm (fun v h z q => by obtain ⟨r, rfl, k⟩ := q; exact k) (fun _ _ q => q)
theorem QMd.run {as rest : List Value} {pc' : Nat} {Kx' : q_KX} (hm : QMd V y' as h z (fun r h' z' => QW V y pc' ls (.double r :: rest) h' z' bc bs Kr Kx) Kx') : QM V y' as h z (fun v h' z' => QW V y pc' ls (v.toList ++ rest) h' z' bc bs Kr Kx) Kx' :=
  QM.mono hm (fun v h z q => by obtain ⟨r, rfl, k⟩ := q; exact k) (fun _ _ q => q)
theorem QMv.run {as rest : List Value} {pc' : Nat} {Kx' : q_KX} (hm : QMv V y' as h z (fun h' z' => QW V y pc' ls rest h' z' bc bs Kr Kx) Kx') : QM V y' as h z (fun v h' z' => QW V y pc' ls (v.toList ++ rest) h' z' bc bs Kr Kx) Kx' :=
  QM.mono hm (fun v h z q => by obtain ⟨rfl, k⟩ := q; exact k) (fun _ _ q => q)
theorem q_wkn {bc' bs' : Nat} (h1 : bc' ≤ bc) (h2 : bs' ≤ bs) (kk : QW V y pc ls st h z bc' bs' Kr Kx) : QW V y pc ls st h z bc bs Kr Kx :=
  fun p e R s m args below meth c H locs cells slots l0 Q C hR hL hS hc hs hF => kk p e R s m args below meth c H locs cells slots l0 Q C hR hL hS (by omega) (by omega) hF
theorem q_eq {h' : q_H} (e : h' = h) (kk : QW V y pc ls st h' z bc bs Kr Kx) : QW V y pc ls st h z bc bs Kr Kx := e ▸ kk
theorem q_pop {x : Int32} (d : decode (i_b y) pc = .ok (.pop, 1)) (kk : QW V y (pc + 1) ls st h z bc bs Kr Kx) : QW V y pc ls (.int x :: st) h z bc bs Kr Kx :=
  fun p e R s m args below meth c H locs cells slots l0 Q C hR hL hS hc hs hF => lv_pop C.x C.b d rfl (kk p e R s m args below meth c H locs cells slots l0 Q C hR hL hS hc hs hF)
theorem q_i2c {x : Int32} (d : decode (i_b y) pc = .ok (.i2c, 1)) (kk : QW V y (pc + 1) ls (.int ((x.toUInt32 % 65536).toInt32) :: st) h z bc bs Kr Kx) : QW V y pc ls (.int x :: st) h z bc bs Kr Kx :=
  fun p e R s m args below meth c H locs cells slots l0 Q C hR hL hS hc hs hF => lv_i2c C.x C.b d rfl (kk p e R s m args below meth c H locs cells slots l0 Q C hR hL hS hc hs hF)
theorem q_head_code (ht : i_h y = []) : q_head y = Cond.code (i_y y) (i_b y) (i_n y) (i_r y) := if_pos ht
theorem q_head_with (ht : ¬ i_h y = []) : q_head y = Cond.codeWith (i_y y) (i_b y) (i_n y) (i_r y) (i_h y) := if_neg ht
theorem q_mmin {ix : Nat} {x a : Int32} (d : decode (i_b y) pc = .ok (.invokestatic ix, 3)) (k1 : Cond.methodLink (i_o y) ix Lib.Math.min.name ∈ q_big) (k2 : Cond.static Lib.Math.min.name ∈ q_big) (k3 : Cond.initialized "java/lang/Math" ∈ q_big) (k4 : Cond.code Lib.Math.min.name Lib.Math.min.code 2 (some .int) ∈ q_big) (hf : 1 ≤ i_f y) (hl : (st.map fun v => v.category).sum + 13 ≤ i_l y) (kk : QW V y (pc + 3) ls (.int (if a < x then a else x) :: st) h z bc bs Kr Kx) : QW V y pc ls (.int a :: .int x :: st) h z bc bs Kr Kx :=
  fun p e R s m args below meth c H locs cells slots l0 Q C hR hL hS hc hs hF => va_mmin C.x C.b (C.n.trans hL.1.1.symm) C.own (C.w _ k1) (C.w _ k2) (C.w _ k3) (C.w _ k4) (Nat.le_trans hf C.f) (Nat.le_trans hl C.l) (by omega) (by omega) d (kk p e R s m args below meth c H locs cells slots l0 Q C hR hL hS hc hs hF)
theorem q_mmax {ix : Nat} {x a : Int32} (d : decode (i_b y) pc = .ok (.invokestatic ix, 3)) (k1 : Cond.methodLink (i_o y) ix Lib.Math.max.name ∈ q_big) (k2 : Cond.static Lib.Math.max.name ∈ q_big) (k3 : Cond.initialized "java/lang/Math" ∈ q_big) (k4 : Cond.code Lib.Math.max.name Lib.Math.max.code 2 (some .int) ∈ q_big) (hf : 1 ≤ i_f y) (hl : (st.map fun v => v.category).sum + 13 ≤ i_l y) (kk : QW V y (pc + 3) ls (.int (if x < a then a else x) :: st) h z bc bs Kr Kx) : QW V y pc ls (.int a :: .int x :: st) h z bc bs Kr Kx :=
  fun p e R s m args below meth c H locs cells slots l0 Q C hR hL hS hc hs hF => va_mmax C.x C.b (C.n.trans hL.1.1.symm) C.own (C.w _ k1) (C.w _ k2) (C.w _ k3) (C.w _ k4) (Nat.le_trans hf C.f) (Nat.le_trans hl C.l) (by omega) (by omega) d (kk p e R s m args below meth c H locs cells slots l0 Q C hR hL hS hc hs hF)
theorem q_mminL {ix : Nat} {x a : Int64} (d : decode (i_b y) pc = .ok (.invokestatic ix, 3)) (k1 : Cond.methodLink (i_o y) ix Lib.MathLoose.min_long.x ∈ q_big) (k2 : Cond.static Lib.MathLoose.min_long.x ∈ q_big) (k3 : Cond.initialized "java/lang/Math" ∈ q_big) (k4 : Cond.code Lib.MathLoose.min_long.x Lib.MathLoose.min_long.code 4 (some .long) ∈ q_big) (hf : 1 ≤ i_f y) (hl : (st.map fun v => v.category).sum + 15 ≤ i_l y) (kk : QW V y (pc + 3) ls (.long (if a < x then a else x) :: st) h z bc bs Kr Kx) : QW V y pc ls (.long a :: .long x :: st) h z bc bs Kr Kx :=
  fun p e R s m args below meth c H locs cells slots l0 Q C hR hL hS hc hs hF => va_mmin_long C.x C.b (C.n.trans hL.1.1.symm) C.own (C.w _ k1) (C.w _ k2) (C.w _ k3) (C.w _ k4) (Nat.le_trans hf C.f) (Nat.le_trans hl C.l) (by omega) (by omega) d (kk p e R s m args below meth c H locs cells slots l0 Q C hR hL hS hc hs hF)
def q_b (b : Bool) : Int32 := if b then 1 else 0
theorem q_b_n (b : Bool) : narrow .boolean (.int (q_b b)) = .int (q_b b) := by cases b <;> rfl
theorem q_lc_eq (x y : Int64) : lg_cmp x y = 0 ↔ x = y := by
  unfold lg_cmp
  simp only [gt_iff_lt, Int64.lt_iff_toInt_lt, ← Int64.toInt_inj]
  repeat' split
  all_goals (constructor <;> intro hh <;> first | omega | decide | exact absurd hh (by decide))
theorem q_lc_lt (x y : Int64) : lg_cmp x y < 0 ↔ x < y := by
  unfold lg_cmp
  simp only [gt_iff_lt, Int64.lt_iff_toInt_lt, ← Int64.toInt_inj]
  repeat' split
  all_goals (constructor <;> intro hh <;> first | omega | decide | exact absurd hh (by decide))
theorem q_lc_gt (x y : Int64) : 0 < lg_cmp x y ↔ y < x := by
  unfold lg_cmp
  simp only [gt_iff_lt, Int64.lt_iff_toInt_lt, ← Int64.toInt_inj]
  repeat' split
  all_goals (constructor <;> intro hh <;> first | omega | decide | exact absurd hh (by decide))
theorem q_lc_ge (x y : Int64) : 0 ≤ lg_cmp x y ↔ y ≤ x := lg_cmp_ge x y
theorem q_lc_le (x y : Int64) : lg_cmp x y ≤ 0 ↔ x ≤ y := lg_cmp_le x y
theorem q_lc_ne (x y : Int64) : (¬ lg_cmp x y = 0) ↔ ¬ x = y := not_congr (q_lc_eq x y)
theorem q_lcn_eq {x y : Int64} (q : ¬ lg_cmp x y = 0) : ¬ x = y := (q_lc_ne x y).mp q
theorem q_lcn_ne {x y : Int64} (q : lg_cmp x y = 0) : x = y := (q_lc_eq x y).mp q
theorem q_lcn_lt {x y : Int64} (q : ¬ lg_cmp x y < 0) : ¬ x < y := fun r => q ((q_lc_lt x y).mpr r)
theorem q_lcn_gt {x y : Int64} (q : ¬ 0 < lg_cmp x y) : ¬ y < x := fun r => q ((q_lc_gt x y).mpr r)
theorem q_lcn_ge {x y : Int64} (q : ¬ 0 ≤ lg_cmp x y) : ¬ y ≤ x := fun r => q ((q_lc_ge x y).mpr r)
theorem q_lcn_le {x y : Int64} (q : ¬ lg_cmp x y ≤ 0) : ¬ x ≤ y := fun r => q ((q_lc_le x y).mpr r)
end Q7
/-- the reference's one object: its rows lie behind it, in the order of their making -/
def q_MF (o : Nat) (m : Nat → Int32) : List Value := [.ref (o + 1), .ref (o + 2), .int (m 2), .int (m 3), .int (m 4), .int (m 5), .int (m 6), .int (m 7), .int (m 8), .int (m 9), .int (m 10), .int (m 11), .int (m 12), .ref (o + 3), .ref (o + 4), .ref (o + 5), .int (m 16), .int (m 17), .int (m 18), .int (m 19), .int (m 20), .int (m 21), .int (m 22), .int (m 23), .ref (o + 6), .ref (o + 7), .int (m 26), .ref (o + 8), .int (m 28), .ref (o + 9), .ref (o + 10), .ref (o + 11), .ref (o + 12), .int (m 33), .int (m 34)]
theorem q_MF_2 {o : Nat} {m : Nat → Int32} {x : Int32} : (q_MF o m).set 2 (.int x) = q_MF o (upd m 2 x) := by simp [q_MF, upd]
theorem q_MF_3 {o : Nat} {m : Nat → Int32} {x : Int32} : (q_MF o m).set 3 (.int x) = q_MF o (upd m 3 x) := by simp [q_MF, upd]
theorem q_MF_4 {o : Nat} {m : Nat → Int32} {x : Int32} : (q_MF o m).set 4 (.int x) = q_MF o (upd m 4 x) := by simp [q_MF, upd]
theorem q_MF_5 {o : Nat} {m : Nat → Int32} {x : Int32} : (q_MF o m).set 5 (.int x) = q_MF o (upd m 5 x) := by simp [q_MF, upd]
theorem q_MF_6 {o : Nat} {m : Nat → Int32} {x : Int32} : (q_MF o m).set 6 (.int x) = q_MF o (upd m 6 x) := by simp [q_MF, upd]
theorem q_MF_7 {o : Nat} {m : Nat → Int32} {x : Int32} : (q_MF o m).set 7 (.int x) = q_MF o (upd m 7 x) := by simp [q_MF, upd]
theorem q_MF_8 {o : Nat} {m : Nat → Int32} {x : Int32} : (q_MF o m).set 8 (.int x) = q_MF o (upd m 8 x) := by simp [q_MF, upd]
theorem q_MF_9 {o : Nat} {m : Nat → Int32} {x : Int32} : (q_MF o m).set 9 (.int x) = q_MF o (upd m 9 x) := by simp [q_MF, upd]
theorem q_MF_10 {o : Nat} {m : Nat → Int32} {x : Int32} : (q_MF o m).set 10 (.int x) = q_MF o (upd m 10 x) := by simp [q_MF, upd]
theorem q_MF_11 {o : Nat} {m : Nat → Int32} {x : Int32} : (q_MF o m).set 11 (.int x) = q_MF o (upd m 11 x) := by simp [q_MF, upd]
theorem q_MF_12 {o : Nat} {m : Nat → Int32} {x : Int32} : (q_MF o m).set 12 (.int x) = q_MF o (upd m 12 x) := by simp [q_MF, upd]
theorem q_MF_16 {o : Nat} {m : Nat → Int32} {x : Int32} : (q_MF o m).set 16 (.int x) = q_MF o (upd m 16 x) := by simp [q_MF, upd]
theorem q_MF_17 {o : Nat} {m : Nat → Int32} {x : Int32} : (q_MF o m).set 17 (.int x) = q_MF o (upd m 17 x) := by simp [q_MF, upd]
theorem q_MF_18 {o : Nat} {m : Nat → Int32} {x : Int32} : (q_MF o m).set 18 (.int x) = q_MF o (upd m 18 x) := by simp [q_MF, upd]
theorem q_MF_19 {o : Nat} {m : Nat → Int32} {x : Int32} : (q_MF o m).set 19 (.int x) = q_MF o (upd m 19 x) := by simp [q_MF, upd]
theorem q_MF_20 {o : Nat} {m : Nat → Int32} {x : Int32} : (q_MF o m).set 20 (.int x) = q_MF o (upd m 20 x) := by simp [q_MF, upd]
theorem q_MF_21 {o : Nat} {m : Nat → Int32} {x : Int32} : (q_MF o m).set 21 (.int x) = q_MF o (upd m 21 x) := by simp [q_MF, upd]
theorem q_MF_22 {o : Nat} {m : Nat → Int32} {x : Int32} : (q_MF o m).set 22 (.int x) = q_MF o (upd m 22 x) := by simp [q_MF, upd]
theorem q_MF_23 {o : Nat} {m : Nat → Int32} {x : Int32} : (q_MF o m).set 23 (.int x) = q_MF o (upd m 23 x) := by simp [q_MF, upd]
theorem q_MF_26 {o : Nat} {m : Nat → Int32} {x : Int32} : (q_MF o m).set 26 (.int x) = q_MF o (upd m 26 x) := by simp [q_MF, upd]
theorem q_MF_28 {o : Nat} {m : Nat → Int32} {x : Int32} : (q_MF o m).set 28 (.int x) = q_MF o (upd m 28 x) := by simp [q_MF, upd]
theorem q_MF_33 {o : Nat} {m : Nat → Int32} {x : Int32} : (q_MF o m).set 33 (.int x) = q_MF o (upd m 33 x) := by simp [q_MF, upd]
theorem q_MF_34 {o : Nat} {m : Nat → Int32} {x : Int32} : (q_MF o m).set 34 (.int x) = q_MF o (upd m 34 x) := by simp [q_MF, upd]
theorem kObj : Cond.code Lib.objectInit ⟨#[0xb1]⟩ 1 none ∈ q_big := k1_32
def q_dc : List Cond := q_decl.map Cond.declares ++ q_cast.map (fun q => Cond.castable q.1 q.2)
theorem q_dc_in {w : Cond} (h : w ∈ q_dc) : (∃ q ∈ q_decl, w = .declares q) ∨ ∃ q ∈ q_cast, w = .castable q.1 q.2 := by
  rcases List.mem_append.mp h with h | h
  · obtain ⟨q, h1, h2⟩ := List.mem_map.mp h; exact Or.inl ⟨q, h1, h2.symm⟩
  · obtain ⟨q, h1, h2⟩ := List.mem_map.mp h; exact Or.inr ⟨q, h1, h2.symm⟩
theorem hatg_69 : ∀ w ∈ (vx_atS RX8 69 "java/lang/IllegalStateException" ["java/lang/RuntimeException", "java/lang/Exception"]).filter goodWord, w ∈ lw_tbl := by decide +kernel
theorem hatb_69 : ∀ w ∈ (vx_atS RX8 69 "java/lang/IllegalStateException" ["java/lang/RuntimeException", "java/lang/Exception"]).filter (fun w => !goodWord w), w ∈ q_dc := by decide +kernel
theorem hatX8_69 : ∀ w ∈ (vx_atS RX8 69 "java/lang/IllegalStateException" ["java/lang/RuntimeException", "java/lang/Exception"]), w ∈ q_big ∨ (∃ q ∈ q_decl, w = .declares q) ∨ ∃ q ∈ q_cast, w = .castable q.1 q.2 := fun w hw => by
  by_cases g : goodWord w = true
  · exact Or.inl (List.mem_filter.mpr ⟨hatg_69 w (List.mem_filter.mpr ⟨hw, g⟩), g⟩)
  · exact Or.inr (q_dc_in (hatb_69 w (List.mem_filter.mpr ⟨hw, by simpa using g⟩)))
theorem hatg_380 : ∀ w ∈ (vx_atS RX8 380 "java/lang/IllegalArgumentException" ["java/lang/RuntimeException", "java/lang/Exception"]).filter goodWord, w ∈ lw_tbl := by decide +kernel
theorem hatb_380 : ∀ w ∈ (vx_atS RX8 380 "java/lang/IllegalArgumentException" ["java/lang/RuntimeException", "java/lang/Exception"]).filter (fun w => !goodWord w), w ∈ q_dc := by decide +kernel
theorem hatX8_380 : ∀ w ∈ (vx_atS RX8 380 "java/lang/IllegalArgumentException" ["java/lang/RuntimeException", "java/lang/Exception"]), w ∈ q_big ∨ (∃ q ∈ q_decl, w = .declares q) ∨ ∃ q ∈ q_cast, w = .castable q.1 q.2 := fun w hw => by
  by_cases g : goodWord w = true
  · exact Or.inl (List.mem_filter.mpr ⟨hatg_380 w (List.mem_filter.mpr ⟨hw, g⟩), g⟩)
  · exact Or.inr (q_dc_in (hatb_380 w (List.mem_filter.mpr ⟨hw, by simpa using g⟩)))
theorem hatg_305 : ∀ w ∈ (vx_atS RX8 305 "java/lang/ArithmeticException" ["java/lang/RuntimeException", "java/lang/Exception"]).filter goodWord, w ∈ lw_tbl := by decide +kernel
theorem hatb_305 : ∀ w ∈ (vx_atS RX8 305 "java/lang/ArithmeticException" ["java/lang/RuntimeException", "java/lang/Exception"]).filter (fun w => !goodWord w), w ∈ q_dc := by decide +kernel
theorem hatX8_305 : ∀ w ∈ (vx_atS RX8 305 "java/lang/ArithmeticException" ["java/lang/RuntimeException", "java/lang/Exception"]), w ∈ q_big ∨ (∃ q ∈ q_decl, w = .declares q) ∨ ∃ q ∈ q_cast, w = .castable q.1 q.2 := fun w hw => by
  by_cases g : goodWord w = true
  · exact Or.inl (List.mem_filter.mpr ⟨hatg_305 w (List.mem_filter.mpr ⟨hw, g⟩), g⟩)
  · exact Or.inr (q_dc_in (hatb_305 w (List.mem_filter.mpr ⟨hw, by simpa using g⟩)))
def iX0_init : q_I := (yX0_init, cX0_init, 2, none, RX0, [], 3, 60, 59, 397)
theorem hdX0_init : (i_y iX0_init).cls ≠ "java/lang/invoke/MethodHandle" ∧ (i_y iX0_init).cls ≠ "java/lang/invoke/VarHandle" ∧ (parseMethodDescriptor (i_y iX0_init).desc).map (fun d => d.parameters.length) = some 0 := by decide +kernel
theorem hhX0_init : q_head iX0_init ∈ q_big := by
  rw [q_head_code (y := iX0_init) rfl]
  exact k1_117
def iX0_clear : q_I := (yX0_clear, cX0_clear, 2, none, RX0, [], 1, 25, 0, 0)
theorem hdX0_clear : (i_y iX0_clear).cls ≠ "java/lang/invoke/MethodHandle" ∧ (i_y iX0_clear).cls ≠ "java/lang/invoke/VarHandle" ∧ (parseMethodDescriptor (i_y iX0_clear).desc).map (fun d => d.parameters.length) = some 0 := by decide +kernel
theorem hhX0_clear : q_head iX0_clear ∈ q_big := by
  rw [q_head_code (y := iX0_clear) rfl]
  exact k2_82
def iX0_copyFrom : q_I := (yX0_copyFrom, cX0_copyFrom, 3, none, RX0, [], 3, 67, 0, 0)
theorem hdX0_copyFrom : (i_y iX0_copyFrom).cls ≠ "java/lang/invoke/MethodHandle" ∧ (i_y iX0_copyFrom).cls ≠ "java/lang/invoke/VarHandle" ∧ (parseMethodDescriptor (i_y iX0_copyFrom).desc).map (fun d => d.parameters.length) = some 1 := by decide +kernel
theorem hhX0_copyFrom : q_head iX0_copyFrom ∈ q_big := by
  rw [q_head_code (y := iX0_copyFrom) rfl]
  exact k3_143
def iX0_refillMidLevel : q_I := (yX0_refillMidLevel, cX0_refillMidLevel, 3, none, RX0, [], 0, 0, 0, 0)
theorem hdX0_refillMidLevel : (i_y iX0_refillMidLevel).cls ≠ "java/lang/invoke/MethodHandle" ∧ (i_y iX0_refillMidLevel).cls ≠ "java/lang/invoke/VarHandle" ∧ (parseMethodDescriptor (i_y iX0_refillMidLevel).desc).map (fun d => d.parameters.length) = some 1 := by decide +kernel
theorem hhX0_refillMidLevel : q_head iX0_refillMidLevel ∈ q_big := by
  rw [q_head_code (y := iX0_refillMidLevel) rfl]
  exact k3_2
def iX0_playsFor : q_I := (yX0_playsFor, cX0_playsFor, 3, (some .boolean), RX0, [], 0, 0, 0, 0)
theorem hdX0_playsFor : (i_y iX0_playsFor).cls ≠ "java/lang/invoke/MethodHandle" ∧ (i_y iX0_playsFor).cls ≠ "java/lang/invoke/VarHandle" ∧ (parseMethodDescriptor (i_y iX0_playsFor).desc).map (fun d => d.parameters.length) = some 2 := by decide +kernel
theorem hhX0_playsFor : q_head iX0_playsFor ∈ q_big := by
  rw [q_head_code (y := iX0_playsFor) rfl]
  exact k2_222
def iX0_playersOf : q_I := (yX0_playersOf, cX0_playersOf, 4, (some .int), RX0, [], 1, 22, 0, 0)
theorem hdX0_playersOf : (i_y iX0_playersOf).cls ≠ "java/lang/invoke/MethodHandle" ∧ (i_y iX0_playersOf).cls ≠ "java/lang/invoke/VarHandle" ∧ (parseMethodDescriptor (i_y iX0_playersOf).desc).map (fun d => d.parameters.length) = some 1 := by decide +kernel
theorem hhX0_playersOf : q_head iX0_playersOf ∈ q_big := by
  rw [q_head_code (y := iX0_playersOf) rfl]
  exact k2_218
def iX0_chargeIn : q_I := (yX0_chargeIn, cX0_chargeIn, 5, (some .int), RX0, [], 2, 42, 0, 0)
theorem hdX0_chargeIn : (i_y iX0_chargeIn).cls ≠ "java/lang/invoke/MethodHandle" ∧ (i_y iX0_chargeIn).cls ≠ "java/lang/invoke/VarHandle" ∧ (parseMethodDescriptor (i_y iX0_chargeIn).desc).map (fun d => d.parameters.length) = some 2 := by decide +kernel
theorem hhX0_chargeIn : q_head iX0_chargeIn ∈ q_big := by
  rw [q_head_code (y := iX0_chargeIn) rfl]
  exact k3_207
def iX0_chargeNow : q_I := (yX0_chargeNow, cX0_chargeNow, 2, (some .int), RX0, [], 3, 66, 0, 0)
theorem hdX0_chargeNow : (i_y iX0_chargeNow).cls ≠ "java/lang/invoke/MethodHandle" ∧ (i_y iX0_chargeNow).cls ≠ "java/lang/invoke/VarHandle" ∧ (parseMethodDescriptor (i_y iX0_chargeNow).desc).map (fun d => d.parameters.length) = some 1 := by decide +kernel
theorem hhX0_chargeNow : q_head iX0_chargeNow ∈ q_big := by
  rw [q_head_code (y := iX0_chargeNow) rfl]
  exact k3_223
def iX0_salariesNow : q_I := (yX0_salariesNow, cX0_salariesNow, 4, (some .int), RX0, [], 2, 42, 0, 0)
theorem hdX0_salariesNow : (i_y iX0_salariesNow).cls ≠ "java/lang/invoke/MethodHandle" ∧ (i_y iX0_salariesNow).cls ≠ "java/lang/invoke/VarHandle" ∧ (parseMethodDescriptor (i_y iX0_salariesNow).desc).map (fun d => d.parameters.length) = some 1 := by decide +kernel
theorem hhX0_salariesNow : q_head iX0_salariesNow ∈ q_big := by
  rw [q_head_code (y := iX0_salariesNow) rfl]
  exact k4_54
def iX0_chargeChange : q_I := (yX0_chargeChange, cX0_chargeChange, 5, (some .int), RX0, [], 3, 65, 0, 0)
theorem hdX0_chargeChange : (i_y iX0_chargeChange).cls ≠ "java/lang/invoke/MethodHandle" ∧ (i_y iX0_chargeChange).cls ≠ "java/lang/invoke/VarHandle" ∧ (parseMethodDescriptor (i_y iX0_chargeChange).desc).map (fun d => d.parameters.length) = some 2 := by decide +kernel
theorem hhX0_chargeChange : q_head iX0_chargeChange ∈ q_big := by
  rw [q_head_code (y := iX0_chargeChange) rfl]
  exact k4_50
def iX0_dismiss : q_I := (yX0_dismiss, cX0_dismiss, 7, (some .int), RX0, [], 4, 93, 0, 0)
theorem hdX0_dismiss : (i_y iX0_dismiss).cls ≠ "java/lang/invoke/MethodHandle" ∧ (i_y iX0_dismiss).cls ≠ "java/lang/invoke/VarHandle" ∧ (parseMethodDescriptor (i_y iX0_dismiss).desc).map (fun d => d.parameters.length) = some 2 := by decide +kernel
theorem hhX0_dismiss : q_head iX0_dismiss ∈ q_big := by
  rw [q_head_code (y := iX0_dismiss) rfl]
  exact k3_235
def iX0_move : q_I := (yX0_move, cX0_move, 5, none, RX0, [], 3, 65, 0, 0)
theorem hdX0_move : (i_y iX0_move).cls ≠ "java/lang/invoke/MethodHandle" ∧ (i_y iX0_move).cls ≠ "java/lang/invoke/VarHandle" ∧ (parseMethodDescriptor (i_y iX0_move).desc).map (fun d => d.parameters.length) = some 3 := by decide +kernel
theorem hhX0_move : q_head iX0_move ∈ q_big := by
  rw [q_head_code (y := iX0_move) rfl]
  exact k4_74
def iX0_endYear : q_I := (yX0_endYear, cX0_endYear, 3, none, RX0, [], 2, 41, 0, 0)
theorem hdX0_endYear : (i_y iX0_endYear).cls ≠ "java/lang/invoke/MethodHandle" ∧ (i_y iX0_endYear).cls ≠ "java/lang/invoke/VarHandle" ∧ (parseMethodDescriptor (i_y iX0_endYear).desc).map (fun d => d.parameters.length) = some 1 := by decide +kernel
theorem hhX0_endYear : q_head iX0_endYear ∈ q_big := by
  rw [q_head_code (y := iX0_endYear) rfl]
  exact k4_113
def iX1_init : q_I := (yX1_init, cX1_init, 1, none, RX1, [], 1, 20, 0, 0)
theorem hdX1_init : (i_y iX1_init).cls ≠ "java/lang/invoke/MethodHandle" ∧ (i_y iX1_init).cls ≠ "java/lang/invoke/VarHandle" ∧ (parseMethodDescriptor (i_y iX1_init).desc).map (fun d => d.parameters.length) = some 0 := by decide +kernel
theorem hhX1_init : q_head iX1_init ∈ q_big := by
  rw [q_head_code (y := iX1_init) rfl]
  exact k1_43
def iX1_agree : q_I := (yX1_agree, cX1_agree, 6, none, RX1, [], 0, 0, 0, 0)
theorem hdX1_agree : (i_y iX1_agree).cls ≠ "java/lang/invoke/MethodHandle" ∧ (i_y iX1_agree).cls ≠ "java/lang/invoke/VarHandle" ∧ (parseMethodDescriptor (i_y iX1_agree).desc).map (fun d => d.parameters.length) = some 5 := by decide +kernel
theorem hhX1_agree : q_head iX1_agree ∈ q_big := by
  rw [q_head_code (y := iX1_agree) rfl]
  exact k2_94
def iX1_copyFrom : q_I := (yX1_copyFrom, cX1_copyFrom, 2, none, RX1, [], 1, 25, 0, 0)
theorem hdX1_copyFrom : (i_y iX1_copyFrom).cls ≠ "java/lang/invoke/MethodHandle" ∧ (i_y iX1_copyFrom).cls ≠ "java/lang/invoke/VarHandle" ∧ (parseMethodDescriptor (i_y iX1_copyFrom).desc).map (fun d => d.parameters.length) = some 1 := by decide +kernel
theorem hhX1_copyFrom : q_head iX1_copyFrom ∈ q_big := by
  rw [q_head_code (y := iX1_copyFrom) rfl]
  exact k2_237
def iX1_salaryOf : q_I := (yX1_salaryOf, cX1_salaryOf, 2, (some .int), RX1, [], 0, 0, 0, 0)
theorem hdX1_salaryOf : (i_y iX1_salaryOf).cls ≠ "java/lang/invoke/MethodHandle" ∧ (i_y iX1_salaryOf).cls ≠ "java/lang/invoke/VarHandle" ∧ (parseMethodDescriptor (i_y iX1_salaryOf).desc).map (fun d => d.parameters.length) = some 1 := by decide +kernel
theorem hhX1_salaryOf : q_head iX1_salaryOf ∈ q_big := by
  rw [q_head_code (y := iX1_salaryOf) rfl]
  exact k3_161
def iX1_shareOf : q_I := (yX1_shareOf, cX1_shareOf, 2, (some .int), RX1, [], 0, 0, 0, 0)
theorem hdX1_shareOf : (i_y iX1_shareOf).cls ≠ "java/lang/invoke/MethodHandle" ∧ (i_y iX1_shareOf).cls ≠ "java/lang/invoke/VarHandle" ∧ (parseMethodDescriptor (i_y iX1_shareOf).desc).map (fun d => d.parameters.length) = some 1 := by decide +kernel
theorem hhX1_shareOf : q_head iX1_shareOf ∈ q_big := by
  rw [q_head_code (y := iX1_shareOf) rfl]
  exact k3_165
def iX1_sharesFrom : q_I := (yX1_sharesFrom, cX1_sharesFrom, 4, (some .int), RX1, [], 1, 21, 0, 0)
theorem hdX1_sharesFrom : (i_y iX1_sharesFrom).cls ≠ "java/lang/invoke/MethodHandle" ∧ (i_y iX1_sharesFrom).cls ≠ "java/lang/invoke/VarHandle" ∧ (parseMethodDescriptor (i_y iX1_sharesFrom).desc).map (fun d => d.parameters.length) = some 1 := by decide +kernel
theorem hhX1_sharesFrom : q_head iX1_sharesFrom ∈ q_big := by
  rw [q_head_code (y := iX1_sharesFrom) rfl]
  exact k4_4
def iX1_guaranteedFrom : q_I := (yX1_guaranteedFrom, cX1_guaranteedFrom, 4, (some .int), RX1, [], 1, 21, 0, 0)
theorem hdX1_guaranteedFrom : (i_y iX1_guaranteedFrom).cls ≠ "java/lang/invoke/MethodHandle" ∧ (i_y iX1_guaranteedFrom).cls ≠ "java/lang/invoke/VarHandle" ∧ (parseMethodDescriptor (i_y iX1_guaranteedFrom).desc).map (fun d => d.parameters.length) = some 1 := by decide +kernel
theorem hhX1_guaranteedFrom : q_head iX1_guaranteedFrom ∈ q_big := by
  rw [q_head_code (y := iX1_guaranteedFrom) rfl]
  exact k4_13
def iX1_stretchedPart : q_I := (yX1_stretchedPart, cX1_stretchedPart, 5, (some .int), RX1, [], 2, 44, 0, 0)
theorem hdX1_stretchedPart : (i_y iX1_stretchedPart).cls ≠ "java/lang/invoke/MethodHandle" ∧ (i_y iX1_stretchedPart).cls ≠ "java/lang/invoke/VarHandle" ∧ (parseMethodDescriptor (i_y iX1_stretchedPart).desc).map (fun d => d.parameters.length) = some 2 := by decide +kernel
theorem hhX1_stretchedPart : q_head iX1_stretchedPart ∈ q_big := by
  rw [q_head_code (y := iX1_stretchedPart) rfl]
  exact k4_9
def iX1_guaranteedPart : q_I := (yX1_guaranteedPart, cX1_guaranteedPart, 3, (some .int), RX1, [], 1, 21, 0, 0)
theorem hdX1_guaranteedPart : (i_y iX1_guaranteedPart).cls ≠ "java/lang/invoke/MethodHandle" ∧ (i_y iX1_guaranteedPart).cls ≠ "java/lang/invoke/VarHandle" ∧ (parseMethodDescriptor (i_y iX1_guaranteedPart).desc).map (fun d => d.parameters.length) = some 2 := by decide +kernel
theorem hhX1_guaranteedPart : q_head iX1_guaranteedPart ∈ q_big := by
  rw [q_head_code (y := iX1_guaranteedPart) rfl]
  exact k4_18
def iX2_init : q_I := (yX2_init, cX2_init, 2, none, RX2, [], 4, 81, 601, 4020)
theorem hdX2_init : (i_y iX2_init).cls ≠ "java/lang/invoke/MethodHandle" ∧ (i_y iX2_init).cls ≠ "java/lang/invoke/VarHandle" ∧ (parseMethodDescriptor (i_y iX2_init).desc).map (fun d => d.parameters.length) = some 0 := by decide +kernel
theorem hhX2_init : q_head iX2_init ∈ q_big := by
  rw [q_head_code (y := iX2_init) rfl]
  exact k1_110
def iX2_forget : q_I := (yX2_forget, cX2_forget, 1, none, RX2, [], 0, 0, 0, 0)
theorem hdX2_forget : (i_y iX2_forget).cls ≠ "java/lang/invoke/MethodHandle" ∧ (i_y iX2_forget).cls ≠ "java/lang/invoke/VarHandle" ∧ (parseMethodDescriptor (i_y iX2_forget).desc).map (fun d => d.parameters.length) = some 0 := by decide +kernel
theorem hhX2_forget : q_head iX2_forget ∈ q_big := by
  rw [q_head_code (y := iX2_forget) rfl]
  exact k3_11
def iX2_remember : q_I := (yX2_remember, cX2_remember, 2, none, RX2, [], 4, 89, 0, 0)
theorem hdX2_remember : (i_y iX2_remember).cls ≠ "java/lang/invoke/MethodHandle" ∧ (i_y iX2_remember).cls ≠ "java/lang/invoke/VarHandle" ∧ (parseMethodDescriptor (i_y iX2_remember).desc).map (fun d => d.parameters.length) = some 1 := by decide +kernel
theorem hhX2_remember : q_head iX2_remember ∈ q_big := by
  rw [q_head_code (y := iX2_remember) rfl]
  exact k3_139
def iX2_restoreTo : q_I := (yX2_restoreTo, cX2_restoreTo, 2, none, RX2, [], 4, 89, 0, 0)
theorem hdX2_restoreTo : (i_y iX2_restoreTo).cls ≠ "java/lang/invoke/MethodHandle" ∧ (i_y iX2_restoreTo).cls ≠ "java/lang/invoke/VarHandle" ∧ (parseMethodDescriptor (i_y iX2_restoreTo).desc).map (fun d => d.parameters.length) = some 1 := by decide +kernel
theorem hhX2_restoreTo : q_head iX2_restoreTo ∈ q_big := by
  rw [q_head_code (y := iX2_restoreTo) rfl]
  exact k5_206
def iX3_init : q_I := (yX3_init, cX3_init, 1, none, RX3, [], 2, 40, 1, 5)
theorem hdX3_init : (i_y iX3_init).cls ≠ "java/lang/invoke/MethodHandle" ∧ (i_y iX3_init).cls ≠ "java/lang/invoke/VarHandle" ∧ (parseMethodDescriptor (i_y iX3_init).desc).map (fun d => d.parameters.length) = some 0 := by decide +kernel
theorem hhX3_init : q_head iX3_init ∈ q_big := by
  rw [q_head_code (y := iX3_init) rfl]
  exact k1_128
def iX3_hasContract : q_I := (yX3_hasContract, cX3_hasContract, 1, (some .boolean), RX3, [], 0, 0, 0, 0)
theorem hdX3_hasContract : (i_y iX3_hasContract).cls ≠ "java/lang/invoke/MethodHandle" ∧ (i_y iX3_hasContract).cls ≠ "java/lang/invoke/VarHandle" ∧ (parseMethodDescriptor (i_y iX3_hasContract).desc).map (fun d => d.parameters.length) = some 0 := by decide +kernel
theorem hhX3_hasContract : q_head iX3_hasContract ∈ q_big := by
  rw [q_head_code (y := iX3_hasContract) rfl]
  exact k2_214
def iX3_becomeUnknown : q_I := (yX3_becomeUnknown, cX3_becomeUnknown, 1, none, RX3, [], 0, 0, 0, 0)
theorem hdX3_becomeUnknown : (i_y iX3_becomeUnknown).cls ≠ "java/lang/invoke/MethodHandle" ∧ (i_y iX3_becomeUnknown).cls ≠ "java/lang/invoke/VarHandle" ∧ (parseMethodDescriptor (i_y iX3_becomeUnknown).desc).map (fun d => d.parameters.length) = some 0 := by decide +kernel
theorem hhX3_becomeUnknown : q_head iX3_becomeUnknown ∈ q_big := by
  rw [q_head_code (y := iX3_becomeUnknown) rfl]
  exact k2_86
def iX3_copyFrom : q_I := (yX3_copyFrom, cX3_copyFrom, 2, none, RX3, [], 2, 46, 0, 0)
theorem hdX3_copyFrom : (i_y iX3_copyFrom).cls ≠ "java/lang/invoke/MethodHandle" ∧ (i_y iX3_copyFrom).cls ≠ "java/lang/invoke/VarHandle" ∧ (parseMethodDescriptor (i_y iX3_copyFrom).desc).map (fun d => d.parameters.length) = some 1 := by decide +kernel
theorem hhX3_copyFrom : q_head iX3_copyFrom ∈ q_big := by
  rw [q_head_code (y := iX3_copyFrom) rfl]
  exact k3_147
def iX3_begin : q_I := (yX3_begin, cX3_begin, 4, none, RX3, [], 2, 46, 0, 0)
theorem hdX3_begin : (i_y iX3_begin).cls ≠ "java/lang/invoke/MethodHandle" ∧ (i_y iX3_begin).cls ≠ "java/lang/invoke/VarHandle" ∧ (parseMethodDescriptor (i_y iX3_begin).desc).map (fun d => d.parameters.length) = some 3 := by decide +kernel
theorem hhX3_begin : q_head iX3_begin ∈ q_big := by
  rw [q_head_code (y := iX3_begin) rfl]
  exact k2_233
def iX3_endYear : q_I := (yX3_endYear, cX3_endYear, 2, none, RX3, [], 1, 20, 0, 0)
theorem hdX3_endYear : (i_y iX3_endYear).cls ≠ "java/lang/invoke/MethodHandle" ∧ (i_y iX3_endYear).cls ≠ "java/lang/invoke/VarHandle" ∧ (parseMethodDescriptor (i_y iX3_endYear).desc).map (fun d => d.parameters.length) = some 1 := by decide +kernel
theorem hhX3_endYear : q_head iX3_endYear ∈ q_big := by
  rw [q_head_code (y := iX3_endYear) rfl]
  exact k4_117
def iX3_salaryIn : q_I := (yX3_salaryIn, cX3_salaryIn, 2, (some .int), RX3, [], 1, 21, 0, 0)
theorem hdX3_salaryIn : (i_y iX3_salaryIn).cls ≠ "java/lang/invoke/MethodHandle" ∧ (i_y iX3_salaryIn).cls ≠ "java/lang/invoke/VarHandle" ∧ (parseMethodDescriptor (i_y iX3_salaryIn).desc).map (fun d => d.parameters.length) = some 1 := by decide +kernel
theorem hhX3_salaryIn : q_head iX3_salaryIn ∈ q_big := by
  rw [q_head_code (y := iX3_salaryIn) rfl]
  exact k4_58
def iX3_shareIn : q_I := (yX3_shareIn, cX3_shareIn, 2, (some .int), RX3, [], 1, 21, 0, 0)
theorem hdX3_shareIn : (i_y iX3_shareIn).cls ≠ "java/lang/invoke/MethodHandle" ∧ (i_y iX3_shareIn).cls ≠ "java/lang/invoke/VarHandle" ∧ (parseMethodDescriptor (i_y iX3_shareIn).desc).map (fun d => d.parameters.length) = some 1 := by decide +kernel
theorem hhX3_shareIn : q_head iX3_shareIn ∈ q_big := by
  rw [q_head_code (y := iX3_shareIn) rfl]
  exact k5_30
def iX3_costIn : q_I := (yX3_costIn, cX3_costIn, 2, (some .int), RX3, [], 1, 21, 0, 0)
theorem hdX3_costIn : (i_y iX3_costIn).cls ≠ "java/lang/invoke/MethodHandle" ∧ (i_y iX3_costIn).cls ≠ "java/lang/invoke/VarHandle" ∧ (parseMethodDescriptor (i_y iX3_costIn).desc).map (fun d => d.parameters.length) = some 1 := by decide +kernel
theorem hhX3_costIn : q_head iX3_costIn ∈ q_big := by
  rw [q_head_code (y := iX3_costIn) rfl]
  exact k3_215
def iX3_sharesLeft : q_I := (yX3_sharesLeft, cX3_sharesLeft, 2, (some .int), RX3, [], 2, 44, 0, 0)
theorem hdX3_sharesLeft : (i_y iX3_sharesLeft).cls ≠ "java/lang/invoke/MethodHandle" ∧ (i_y iX3_sharesLeft).cls ≠ "java/lang/invoke/VarHandle" ∧ (parseMethodDescriptor (i_y iX3_sharesLeft).desc).map (fun d => d.parameters.length) = some 1 := by decide +kernel
theorem hhX3_sharesLeft : q_head iX3_sharesLeft ∈ q_big := by
  rw [q_head_code (y := iX3_sharesLeft) rfl]
  exact k4_62
def iX3_releaseCostAhead : q_I := (yX3_releaseCostAhead, cX3_releaseCostAhead, 6, (some .int), RX3, [], 3, 68, 0, 0)
theorem hdX3_releaseCostAhead : (i_y iX3_releaseCostAhead).cls ≠ "java/lang/invoke/MethodHandle" ∧ (i_y iX3_releaseCostAhead).cls ≠ "java/lang/invoke/VarHandle" ∧ (parseMethodDescriptor (i_y iX3_releaseCostAhead).desc).map (fun d => d.parameters.length) = some 3 := by decide +kernel
theorem hhX3_releaseCostAhead : q_head iX3_releaseCostAhead ∈ q_big := by
  rw [q_head_code (y := iX3_releaseCostAhead) rfl]
  exact k4_0
def iX3_wholeReleaseCost : q_I := (yX3_wholeReleaseCost, cX3_wholeReleaseCost, 2, (some .int), RX3, [], 2, 44, 0, 0)
theorem hdX3_wholeReleaseCost : (i_y iX3_wholeReleaseCost).cls ≠ "java/lang/invoke/MethodHandle" ∧ (i_y iX3_wholeReleaseCost).cls ≠ "java/lang/invoke/VarHandle" ∧ (parseMethodDescriptor (i_y iX3_wholeReleaseCost).desc).map (fun d => d.parameters.length) = some 1 := by decide +kernel
theorem hhX3_wholeReleaseCost : q_head iX3_wholeReleaseCost ∈ q_big := by
  rw [q_head_code (y := iX3_wholeReleaseCost) rfl]
  exact k5_132
def iX3_gainIfReleased : q_I := (yX3_gainIfReleased, cX3_gainIfReleased, 3, (some .int), RX3, [], 4, 93, 0, 0)
theorem hdX3_gainIfReleased : (i_y iX3_gainIfReleased).cls ≠ "java/lang/invoke/MethodHandle" ∧ (i_y iX3_gainIfReleased).cls ≠ "java/lang/invoke/VarHandle" ∧ (parseMethodDescriptor (i_y iX3_gainIfReleased).desc).map (fun d => d.parameters.length) = some 2 := by decide +kernel
theorem hhX3_gainIfReleased : q_head iX3_gainIfReleased ∈ q_big := by
  rw [q_head_code (y := iX3_gainIfReleased) rfl]
  exact k5_113
def iX4_init : q_I := (yX4_init, cX4_init, 1, none, RX4, [], 2, 40, 2, 5)
theorem hdX4_init : (i_y iX4_init).cls ≠ "java/lang/invoke/MethodHandle" ∧ (i_y iX4_init).cls ≠ "java/lang/invoke/VarHandle" ∧ (parseMethodDescriptor (i_y iX4_init).desc).map (fun d => d.parameters.length) = some 0 := by decide +kernel
theorem hhX4_init : q_head iX4_init ∈ q_big := by
  rw [q_head_code (y := iX4_init) rfl]
  exact k1_37
def iX4_failed : q_I := (yX4_failed, cX4_failed, 1, (some .boolean), RX4, [], 0, 0, 0, 0)
theorem hdX4_failed : (i_y iX4_failed).cls ≠ "java/lang/invoke/MethodHandle" ∧ (i_y iX4_failed).cls ≠ "java/lang/invoke/VarHandle" ∧ (parseMethodDescriptor (i_y iX4_failed).desc).map (fun d => d.parameters.length) = some 0 := by decide +kernel
theorem hhX4_failed : q_head iX4_failed ∈ q_big := by
  rw [q_head_code (y := iX4_failed) rfl]
  exact k2_127
def iX4_readText : q_I := (yX4_readText, cX4_readText, 6, none, RX4, [], 7, 157, 0, 0)
theorem hdX4_readText : (i_y iX4_readText).cls ≠ "java/lang/invoke/MethodHandle" ∧ (i_y iX4_readText).cls ≠ "java/lang/invoke/VarHandle" ∧ (parseMethodDescriptor (i_y iX4_readText).desc).map (fun d => d.parameters.length) = some 4 := by decide +kernel
theorem hhX4_readText : q_head iX4_readText ∈ q_big := by
  rw [q_head_code (y := iX4_readText) rfl]
  exact k2_75
def iX4_readLeague : q_I := (yX4_readLeague, cX4_readLeague, 5, none, RX4, [], 6, 128, 0, 0)
theorem hdX4_readLeague : (i_y iX4_readLeague).cls ≠ "java/lang/invoke/MethodHandle" ∧ (i_y iX4_readLeague).cls ≠ "java/lang/invoke/VarHandle" ∧ (parseMethodDescriptor (i_y iX4_readLeague).desc).map (fun d => d.parameters.length) = some 1 := by decide +kernel
theorem hhX4_readLeague : q_head iX4_readLeague ∈ q_big := by
  rw [q_head_code (y := iX4_readLeague) rfl]
  exact k2_114
def iX4_readBrackets : q_I := (yX4_readBrackets, cX4_readBrackets, 5, none, RX4, [], 6, 128, 0, 0)
theorem hdX4_readBrackets : (i_y iX4_readBrackets).cls ≠ "java/lang/invoke/MethodHandle" ∧ (i_y iX4_readBrackets).cls ≠ "java/lang/invoke/VarHandle" ∧ (parseMethodDescriptor (i_y iX4_readBrackets).desc).map (fun d => d.parameters.length) = some 1 := by decide +kernel
theorem hhX4_readBrackets : q_head iX4_readBrackets ∈ q_big := by
  rw [q_head_code (y := iX4_readBrackets) rfl]
  exact k2_198
def iX4_readContract : q_I := (yX4_readContract, cX4_readContract, 10, none, RX4, [], 6, 128, 0, 0)
theorem hdX4_readContract : (i_y iX4_readContract).cls ≠ "java/lang/invoke/MethodHandle" ∧ (i_y iX4_readContract).cls ≠ "java/lang/invoke/VarHandle" ∧ (parseMethodDescriptor (i_y iX4_readContract).desc).map (fun d => d.parameters.length) = some 2 := by decide +kernel
theorem hhX4_readContract : q_head iX4_readContract ∈ q_big := by
  rw [q_head_code (y := iX4_readContract) rfl]
  exact k2_209
def iX4_fail : q_I := (yX4_fail, cX4_fail, 3, none, RX4, [], 1, 20, 0, 0)
theorem hdX4_fail : (i_y iX4_fail).cls ≠ "java/lang/invoke/MethodHandle" ∧ (i_y iX4_fail).cls ≠ "java/lang/invoke/VarHandle" ∧ (parseMethodDescriptor (i_y iX4_fail).desc).map (fun d => d.parameters.length) = some 2 := by decide +kernel
theorem hhX4_fail : q_head iX4_fail ∈ q_big := by
  rw [q_head_code (y := iX4_fail) rfl]
  exact k2_179
def iX4_isWord : q_I := (yX4_isWord, cX4_isWord, 3, (some .boolean), RX4, [], 4, 85, 0, 0)
theorem hdX4_isWord : (i_y iX4_isWord).cls ≠ "java/lang/invoke/MethodHandle" ∧ (i_y iX4_isWord).cls ≠ "java/lang/invoke/VarHandle" ∧ (parseMethodDescriptor (i_y iX4_isWord).desc).map (fun d => d.parameters.length) = some 1 := by decide +kernel
theorem hhX4_isWord : q_head iX4_isWord ∈ q_big := by
  rw [q_head_code (y := iX4_isWord) rfl]
  exact k2_123
def iX4_takeWord : q_I := (yX4_takeWord, cX4_takeWord, 2, none, RX4, [], 5, 107, 0, 0)
theorem hdX4_takeWord : (i_y iX4_takeWord).cls ≠ "java/lang/invoke/MethodHandle" ∧ (i_y iX4_takeWord).cls ≠ "java/lang/invoke/VarHandle" ∧ (parseMethodDescriptor (i_y iX4_takeWord).desc).map (fun d => d.parameters.length) = some 1 := by decide +kernel
theorem hhX4_takeWord : q_head iX4_takeWord ∈ q_big := by
  rw [q_head_code (y := iX4_takeWord) rfl]
  exact k2_119
def iX4_takeSemicolon : q_I := (yX4_takeSemicolon, cX4_takeSemicolon, 1, none, RX4, [], 3, 61, 0, 0)
theorem hdX4_takeSemicolon : (i_y iX4_takeSemicolon).cls ≠ "java/lang/invoke/MethodHandle" ∧ (i_y iX4_takeSemicolon).cls ≠ "java/lang/invoke/VarHandle" ∧ (parseMethodDescriptor (i_y iX4_takeSemicolon).desc).map (fun d => d.parameters.length) = some 0 := by decide +kernel
theorem hhX4_takeSemicolon : q_head iX4_takeSemicolon ∈ q_big := by
  rw [q_head_code (y := iX4_takeSemicolon) rfl]
  exact k2_194
def iX4_takeNumber : q_I := (yX4_takeNumber, cX4_takeNumber, 4, (some .int), RX4, [], 3, 61, 0, 0)
theorem hdX4_takeNumber : (i_y iX4_takeNumber).cls ≠ "java/lang/invoke/MethodHandle" ∧ (i_y iX4_takeNumber).cls ≠ "java/lang/invoke/VarHandle" ∧ (parseMethodDescriptor (i_y iX4_takeNumber).desc).map (fun d => d.parameters.length) = some 2 := by decide +kernel
theorem hhX4_takeNumber : q_head iX4_takeNumber ∈ q_big := by
  rw [q_head_code (y := iX4_takeNumber) rfl]
  exact k2_184
def iX4_findToken : q_I := (yX4_findToken, cX4_findToken, 1, none, RX4, [], 2, 41, 0, 0)
theorem hdX4_findToken : (i_y iX4_findToken).cls ≠ "java/lang/invoke/MethodHandle" ∧ (i_y iX4_findToken).cls ≠ "java/lang/invoke/VarHandle" ∧ (parseMethodDescriptor (i_y iX4_findToken).desc).map (fun d => d.parameters.length) = some 0 := by decide +kernel
theorem hhX4_findToken : q_head iX4_findToken ∈ q_big := by
  rw [q_head_code (y := iX4_findToken) rfl]
  exact k2_98
def iX4_findNumber : q_I := (yX4_findNumber, cX4_findNumber, 1, none, RX4, [], 1, 21, 0, 0)
theorem hdX4_findNumber : (i_y iX4_findNumber).cls ≠ "java/lang/invoke/MethodHandle" ∧ (i_y iX4_findNumber).cls ≠ "java/lang/invoke/VarHandle" ∧ (parseMethodDescriptor (i_y iX4_findNumber).desc).map (fun d => d.parameters.length) = some 0 := by decide +kernel
theorem hhX4_findNumber : q_head iX4_findNumber ∈ q_big := by
  rw [q_head_code (y := iX4_findNumber) rfl]
  exact k2_110
def iX4_isLetter : q_I := (yX4_isLetter, cX4_isLetter, 2, (some .boolean), RX4, [], 0, 0, 0, 0)
theorem hdX4_isLetter : (i_y iX4_isLetter).cls ≠ "java/lang/invoke/MethodHandle" ∧ (i_y iX4_isLetter).cls ≠ "java/lang/invoke/VarHandle" ∧ (parseMethodDescriptor (i_y iX4_isLetter).desc).map (fun d => d.parameters.length) = some 1 := by decide +kernel
theorem hhX4_isLetter : q_head iX4_isLetter ∈ q_big := by
  rw [q_head_code (y := iX4_isLetter) rfl]
  exact k2_102
def iX4_isDigit : q_I := (yX4_isDigit, cX4_isDigit, 2, (some .boolean), RX4, [], 0, 0, 0, 0)
theorem hdX4_isDigit : (i_y iX4_isDigit).cls ≠ "java/lang/invoke/MethodHandle" ∧ (i_y iX4_isDigit).cls ≠ "java/lang/invoke/VarHandle" ∧ (parseMethodDescriptor (i_y iX4_isDigit).desc).map (fun d => d.parameters.length) = some 1 := by decide +kernel
theorem hhX4_isDigit : q_head iX4_isDigit ∈ q_big := by
  rw [q_head_code (y := iX4_isDigit) rfl]
  exact k2_106
def iX5_init : q_I := (yX5_init, cX5_init, 1, none, RX5, [], 1, 20, 3, 36)
theorem hdX5_init : (i_y iX5_init).cls ≠ "java/lang/invoke/MethodHandle" ∧ (i_y iX5_init).cls ≠ "java/lang/invoke/VarHandle" ∧ (parseMethodDescriptor (i_y iX5_init).desc).map (fun d => d.parameters.length) = some 0 := by decide +kernel
theorem hhX5_init : q_head iX5_init ∈ q_big := by
  rw [q_head_code (y := iX5_init) rfl]
  exact k1_214
def iX5_consider : q_I := (yX5_consider, cX5_consider, 4, none, RX5, [], 5, 115, 0, 0)
theorem hdX5_consider : (i_y iX5_consider).cls ≠ "java/lang/invoke/MethodHandle" ∧ (i_y iX5_consider).cls ≠ "java/lang/invoke/VarHandle" ∧ (parseMethodDescriptor (i_y iX5_consider).desc).map (fun d => d.parameters.length) = some 2 := by decide +kernel
theorem hhX5_consider : q_head iX5_consider ∈ q_big := by
  rw [q_head_code (y := iX5_consider) rfl]
  exact k5_126
def iX5_fewest : q_I := (yX5_fewest, cX5_fewest, 6, (some .int), RX5, [], 1, 23, 0, 0)
theorem hdX5_fewest : (i_y iX5_fewest).cls ≠ "java/lang/invoke/MethodHandle" ∧ (i_y iX5_fewest).cls ≠ "java/lang/invoke/VarHandle" ∧ (parseMethodDescriptor (i_y iX5_fewest).desc).map (fun d => d.parameters.length) = some 1 := by decide +kernel
theorem hhX5_fewest : q_head iX5_fewest ∈ q_big := by
  rw [q_head_code (y := iX5_fewest) rfl]
  exact k5_137
def iX5_greatestGain : q_I := (yX5_greatestGain, cX5_greatestGain, 4, (some .int), RX5, [], 0, 0, 0, 0)
theorem hdX5_greatestGain : (i_y iX5_greatestGain).cls ≠ "java/lang/invoke/MethodHandle" ∧ (i_y iX5_greatestGain).cls ≠ "java/lang/invoke/VarHandle" ∧ (parseMethodDescriptor (i_y iX5_greatestGain).desc).map (fun d => d.parameters.length) = some 1 := by decide +kernel
theorem hhX5_greatestGain : q_head iX5_greatestGain ∈ q_big := by
  rw [q_head_code (y := iX5_greatestGain) rfl]
  exact k5_141
def iX5_cheapestSet : q_I := (yX5_cheapestSet, cX5_cheapestSet, 6, (some .int), RX5, [], 2, 48, 0, 0)
theorem hdX5_cheapestSet : (i_y iX5_cheapestSet).cls ≠ "java/lang/invoke/MethodHandle" ∧ (i_y iX5_cheapestSet).cls ≠ "java/lang/invoke/VarHandle" ∧ (parseMethodDescriptor (i_y iX5_cheapestSet).desc).map (fun d => d.parameters.length) = some 1 := by decide +kernel
theorem hhX5_cheapestSet : q_head iX5_cheapestSet ∈ q_big := by
  rw [q_head_code (y := iX5_cheapestSet) rfl]
  exact k5_152
def iX5_sumAt : q_I := (yX5_sumAt, cX5_sumAt, 5, (some .int), RX5, [], 0, 0, 0, 0)
theorem hdX5_sumAt : (i_y iX5_sumAt).cls ≠ "java/lang/invoke/MethodHandle" ∧ (i_y iX5_sumAt).cls ≠ "java/lang/invoke/VarHandle" ∧ (parseMethodDescriptor (i_y iX5_sumAt).desc).map (fun d => d.parameters.length) = some 2 := by decide +kernel
theorem hhX5_sumAt : q_head iX5_sumAt ∈ q_big := by
  rw [q_head_code (y := iX5_sumAt) rfl]
  exact k5_158
def iX5_numbersAt : q_I := (yX5_numbersAt, cX5_numbersAt, 4, (some .int), RX5, [], 0, 0, 0, 0)
theorem hdX5_numbersAt : (i_y iX5_numbersAt).cls ≠ "java/lang/invoke/MethodHandle" ∧ (i_y iX5_numbersAt).cls ≠ "java/lang/invoke/VarHandle" ∧ (parseMethodDescriptor (i_y iX5_numbersAt).desc).map (fun d => d.parameters.length) = some 1 := by decide +kernel
theorem hhX5_numbersAt : q_head iX5_numbersAt ∈ q_big := by
  rw [q_head_code (y := iX5_numbersAt) rfl]
  exact k5_162
def iX6_init : q_I := (yX6_init, cX6_init, 1, none, RX6, [], 1, 20, 1, 27)
theorem hdX6_init : (i_y iX6_init).cls ≠ "java/lang/invoke/MethodHandle" ∧ (i_y iX6_init).cls ≠ "java/lang/invoke/VarHandle" ∧ (parseMethodDescriptor (i_y iX6_init).desc).map (fun d => d.parameters.length) = some 0 := by decide +kernel
theorem hhX6_init : q_head iX6_init ∈ q_big := by
  rw [q_head_code (y := iX6_init) rfl]
  exact k1_159
def iX6_clear : q_I := (yX6_clear, cX6_clear, 2, none, RX6, [], 0, 0, 0, 0)
theorem hdX6_clear : (i_y iX6_clear).cls ≠ "java/lang/invoke/MethodHandle" ∧ (i_y iX6_clear).cls ≠ "java/lang/invoke/VarHandle" ∧ (parseMethodDescriptor (i_y iX6_clear).desc).map (fun d => d.parameters.length) = some 0 := by decide +kernel
theorem hhX6_clear : q_head iX6_clear ∈ q_big := by
  rw [q_head_code (y := iX6_clear) rfl]
  exact k2_90
def iX6_copyFrom : q_I := (yX6_copyFrom, cX6_copyFrom, 2, none, RX6, [], 1, 40, 0, 0)
theorem hdX6_copyFrom : (i_y iX6_copyFrom).cls ≠ "java/lang/invoke/MethodHandle" ∧ (i_y iX6_copyFrom).cls ≠ "java/lang/invoke/VarHandle" ∧ (parseMethodDescriptor (i_y iX6_copyFrom).desc).map (fun d => d.parameters.length) = some 1 := by decide +kernel
theorem hhX6_copyFrom : q_head iX6_copyFrom ∈ q_big := by
  rw [q_head_code (y := iX6_copyFrom) rfl]
  exact k3_151
def iX6_deadIn : q_I := (yX6_deadIn, cX6_deadIn, 2, (some .int), RX6, [], 0, 0, 0, 0)
theorem hdX6_deadIn : (i_y iX6_deadIn).cls ≠ "java/lang/invoke/MethodHandle" ∧ (i_y iX6_deadIn).cls ≠ "java/lang/invoke/VarHandle" ∧ (parseMethodDescriptor (i_y iX6_deadIn).desc).map (fun d => d.parameters.length) = some 1 := by decide +kernel
theorem hhX6_deadIn : q_head iX6_deadIn ∈ q_big := by
  rw [q_head_code (y := iX6_deadIn) rfl]
  exact k3_211
def iX6_addDead : q_I := (yX6_addDead, cX6_addDead, 3, none, RX6, [], 0, 0, 0, 0)
theorem hdX6_addDead : (i_y iX6_addDead).cls ≠ "java/lang/invoke/MethodHandle" ∧ (i_y iX6_addDead).cls ≠ "java/lang/invoke/VarHandle" ∧ (parseMethodDescriptor (i_y iX6_addDead).desc).map (fun d => d.parameters.length) = some 2 := by decide +kernel
theorem hhX6_addDead : q_head iX6_addDead ∈ q_big := by
  rw [q_head_code (y := iX6_addDead) rfl]
  exact k4_22
def iX7_init : q_I := (yX7_init, cX7_init, 1, none, RX7, [], 1, 20, 4, 62)
theorem hdX7_init : (i_y iX7_init).cls ≠ "java/lang/invoke/MethodHandle" ∧ (i_y iX7_init).cls ≠ "java/lang/invoke/VarHandle" ∧ (parseMethodDescriptor (i_y iX7_init).desc).map (fun d => d.parameters.length) = some 0 := by decide +kernel
theorem hhX7_init : q_head iX7_init ∈ q_big := by
  rw [q_head_code (y := iX7_init) rfl]
  exact k1_233
def iX7_growLines : q_I := (yX7_growLines, cX7_growLines, 9, none, RX7, [], 0, 0, 0, 0)
theorem hdX7_growLines : (i_y iX7_growLines).cls ≠ "java/lang/invoke/MethodHandle" ∧ (i_y iX7_growLines).cls ≠ "java/lang/invoke/VarHandle" ∧ (parseMethodDescriptor (i_y iX7_growLines).desc).map (fun d => d.parameters.length) = some 3 := by decide +kernel
theorem hhX7_growLines : q_head iX7_growLines ∈ q_big := by
  rw [q_head_code (y := iX7_growLines) rfl]
  exact k2_188
def iX7_addBracket : q_I := (yX7_addBracket, cX7_addBracket, 3, none, RX7, [], 0, 0, 0, 0)
theorem hdX7_addBracket : (i_y iX7_addBracket).cls ≠ "java/lang/invoke/MethodHandle" ∧ (i_y iX7_addBracket).cls ≠ "java/lang/invoke/VarHandle" ∧ (parseMethodDescriptor (i_y iX7_addBracket).desc).map (fun d => d.parameters.length) = some 2 := by decide +kernel
theorem hhX7_addBracket : q_head iX7_addBracket ∈ q_big := by
  rw [q_head_code (y := iX7_addBracket) rfl]
  exact k2_203
def iX7_capIn : q_I := (yX7_capIn, cX7_capIn, 2, (some .int), RX7, [], 0, 0, 0, 0)
theorem hdX7_capIn : (i_y iX7_capIn).cls ≠ "java/lang/invoke/MethodHandle" ∧ (i_y iX7_capIn).cls ≠ "java/lang/invoke/VarHandle" ∧ (parseMethodDescriptor (i_y iX7_capIn).desc).map (fun d => d.parameters.length) = some 1 := by decide +kernel
theorem hhX7_capIn : q_head iX7_capIn ∈ q_big := by
  rw [q_head_code (y := iX7_capIn) rfl]
  exact k3_203
def iX7_taxLineIn : q_I := (yX7_taxLineIn, cX7_taxLineIn, 2, (some .int), RX7, [], 0, 0, 0, 0)
theorem hdX7_taxLineIn : (i_y iX7_taxLineIn).cls ≠ "java/lang/invoke/MethodHandle" ∧ (i_y iX7_taxLineIn).cls ≠ "java/lang/invoke/VarHandle" ∧ (parseMethodDescriptor (i_y iX7_taxLineIn).desc).map (fun d => d.parameters.length) = some 1 := by decide +kernel
theorem hhX7_taxLineIn : q_head iX7_taxLineIn ∈ q_big := by
  rw [q_head_code (y := iX7_taxLineIn) rfl]
  exact k4_67
def iX7_isTaxed : q_I := (yX7_isTaxed, cX7_isTaxed, 3, (some .boolean), RX7, [], 1, 21, 0, 0)
theorem hdX7_isTaxed : (i_y iX7_isTaxed).cls ≠ "java/lang/invoke/MethodHandle" ∧ (i_y iX7_isTaxed).cls ≠ "java/lang/invoke/VarHandle" ∧ (parseMethodDescriptor (i_y iX7_isTaxed).desc).map (fun d => d.parameters.length) = some 2 := by decide +kernel
theorem hhX7_isTaxed : q_head iX7_isTaxed ∈ q_big := by
  rw [q_head_code (y := iX7_isTaxed) rfl]
  exact k4_98
def iX7_taxOf : q_I := (yX7_taxOf, cX7_taxOf, 13, (some .long), RX7, [], 2, 43, 0, 0)
theorem hdX7_taxOf : (i_y iX7_taxOf).cls ≠ "java/lang/invoke/MethodHandle" ∧ (i_y iX7_taxOf).cls ≠ "java/lang/invoke/VarHandle" ∧ (parseMethodDescriptor (i_y iX7_taxOf).desc).map (fun d => d.parameters.length) = some 3 := by decide +kernel
theorem hhX7_taxOf : q_head iX7_taxOf ∈ q_big := by
  rw [q_head_code (y := iX7_taxOf) rfl]
  exact k4_94
def iX7_isTaxedOften : q_I := (yX7_isTaxedOften, cX7_isTaxedOften, 4, (some .boolean), RX7, [], 1, 20, 0, 0)
theorem hdX7_isTaxedOften : (i_y iX7_isTaxedOften).cls ≠ "java/lang/invoke/MethodHandle" ∧ (i_y iX7_isTaxedOften).cls ≠ "java/lang/invoke/VarHandle" ∧ (parseMethodDescriptor (i_y iX7_isTaxedOften).desc).map (fun d => d.parameters.length) = some 2 := by decide +kernel
theorem hhX7_isTaxedOften : q_head iX7_isTaxedOften ∈ q_big := by
  rw [q_head_code (y := iX7_isTaxedOften) rfl]
  exact k4_107
def iX8_init : q_I := (yX8_init, cX8_init, 1, none, RX8, [], 5, 102, 740, 5923)
theorem hdX8_init : (i_y iX8_init).cls ≠ "java/lang/invoke/MethodHandle" ∧ (i_y iX8_init).cls ≠ "java/lang/invoke/VarHandle" ∧ (parseMethodDescriptor (i_y iX8_init).desc).map (fun d => d.parameters.length) = some 0 := by decide +kernel
theorem hhX8_init : q_head iX8_init ∈ q_big := by
  rw [q_head_code (y := iX8_init) rfl]
  exact k1_29
def iX8_append : q_I := (yX8_append, cX8_append, 6, (some .int), RX8, [], 6, 90, 1, 6)
theorem hdX8_append : (i_y iX8_append).cls ≠ "java/lang/invoke/MethodHandle" ∧ (i_y iX8_append).cls ≠ "java/lang/invoke/VarHandle" ∧ (parseMethodDescriptor (i_y iX8_append).desc).map (fun d => d.parameters.length) = some 5 := by decide +kernel
theorem hhX8_append : q_head iX8_append ∈ q_big := by
  rw [q_head_code (y := iX8_append) rfl]
  exact k3_23
def iX8_appendWord : q_I := (yX8_appendWord, cX8_appendWord, 3, none, RX8, [], 0, 0, 0, 0)
theorem hdX8_appendWord : (i_y iX8_appendWord).cls ≠ "java/lang/invoke/MethodHandle" ∧ (i_y iX8_appendWord).cls ≠ "java/lang/invoke/VarHandle" ∧ (parseMethodDescriptor (i_y iX8_appendWord).desc).map (fun d => d.parameters.length) = some 1 := by decide +kernel
theorem hhX8_appendWord : q_head iX8_appendWord ∈ q_big := by
  rw [q_head_code (y := iX8_appendWord) rfl]
  exact k3_95
def iX8_truncate : q_I := (yX8_truncate, cX8_truncate, 2, (some .int), RX8, [], 7, 112, 1, 6)
theorem hdX8_truncate : (i_y iX8_truncate).cls ≠ "java/lang/invoke/MethodHandle" ∧ (i_y iX8_truncate).cls ≠ "java/lang/invoke/VarHandle" ∧ (parseMethodDescriptor (i_y iX8_truncate).desc).map (fun d => d.parameters.length) = some 1 := by decide +kernel
theorem hhX8_truncate : q_head iX8_truncate ∈ q_big := by
  rw [q_head_code (y := iX8_truncate) rfl]
  exact k3_103
def iX8_load : q_I := (yX8_load, cX8_load, 1, (some .int), RX8, [], 8, 182, 0, 0)
theorem hdX8_load : (i_y iX8_load).cls ≠ "java/lang/invoke/MethodHandle" ∧ (i_y iX8_load).cls ≠ "java/lang/invoke/VarHandle" ∧ (parseMethodDescriptor (i_y iX8_load).desc).map (fun d => d.parameters.length) = some 0 := by decide +kernel
theorem hhX8_load : q_head iX8_load ∈ q_big := by
  rw [q_head_code (y := iX8_load) rfl]
  exact k2_71
def iX8_useSpareLeague : q_I := (yX8_useSpareLeague, cX8_useSpareLeague, 3, none, RX8, [], 1, 20, 0, 0)
theorem hdX8_useSpareLeague : (i_y iX8_useSpareLeague).cls ≠ "java/lang/invoke/MethodHandle" ∧ (i_y iX8_useSpareLeague).cls ≠ "java/lang/invoke/VarHandle" ∧ (parseMethodDescriptor (i_y iX8_useSpareLeague).desc).map (fun d => d.parameters.length) = some 0 := by decide +kernel
theorem hhX8_useSpareLeague : q_head iX8_useSpareLeague ∈ q_big := by
  rw [q_head_code (y := iX8_useSpareLeague) rfl]
  exact k3_7
def iX8_errorPosition : q_I := (yX8_errorPosition, cX8_errorPosition, 1, (some .int), RX8, [], 0, 0, 0, 0)
theorem hdX8_errorPosition : (i_y iX8_errorPosition).cls ≠ "java/lang/invoke/MethodHandle" ∧ (i_y iX8_errorPosition).cls ≠ "java/lang/invoke/VarHandle" ∧ (parseMethodDescriptor (i_y iX8_errorPosition).desc).map (fun d => d.parameters.length) = some 0 := by decide +kernel
theorem hhX8_errorPosition : q_head iX8_errorPosition ∈ q_big := by
  rw [q_head_code (y := iX8_errorPosition) rfl]
  exact k3_15
def iX8_makeOffer : q_I := (yX8_makeOffer, cX8_makeOffer, 6, (some .int), RX8, [], 7, 112, 6, 36)
theorem hdX8_makeOffer : (i_y iX8_makeOffer).cls ≠ "java/lang/invoke/MethodHandle" ∧ (i_y iX8_makeOffer).cls ≠ "java/lang/invoke/VarHandle" ∧ (parseMethodDescriptor (i_y iX8_makeOffer).desc).map (fun d => d.parameters.length) = some 5 := by decide +kernel
theorem hhX8_makeOffer : q_head iX8_makeOffer ∈ q_big := by
  rw [q_head_code (y := iX8_makeOffer) rfl]
  exact k3_129
def iX8_sign : q_I := (yX8_sign, cX8_sign, 5, (some .int), RX8, [], 8, 136, 4, 24)
theorem hdX8_sign : (i_y iX8_sign).cls ≠ "java/lang/invoke/MethodHandle" ∧ (i_y iX8_sign).cls ≠ "java/lang/invoke/VarHandle" ∧ (parseMethodDescriptor (i_y iX8_sign).desc).map (fun d => d.parameters.length) = some 3 := by decide +kernel
theorem hhX8_sign : q_head iX8_sign ∈ q_big := by
  rw [q_head_code (y := iX8_sign) rfl]
  exact k3_172
def iX8_release : q_I := (yX8_release, cX8_release, 3, (some .int), RX8, [], 8, 133, 2, 12)
theorem hdX8_release : (i_y iX8_release).cls ≠ "java/lang/invoke/MethodHandle" ∧ (i_y iX8_release).cls ≠ "java/lang/invoke/VarHandle" ∧ (parseMethodDescriptor (i_y iX8_release).desc).map (fun d => d.parameters.length) = some 2 := by decide +kernel
theorem hhX8_release : q_head iX8_release ∈ q_big := by
  rw [q_head_code (y := iX8_release) rfl]
  exact k3_231
def iX8_trade : q_I := (yX8_trade, cX8_trade, 6, (some .int), RX8, [], 10, 179, 6, 36)
theorem hdX8_trade : (i_y iX8_trade).cls ≠ "java/lang/invoke/MethodHandle" ∧ (i_y iX8_trade).cls ≠ "java/lang/invoke/VarHandle" ∧ (parseMethodDescriptor (i_y iX8_trade).desc).map (fun d => d.parameters.length) = some 4 := by decide +kernel
theorem hhX8_trade : q_head iX8_trade ∈ q_big := by
  rw [q_head_code (y := iX8_trade) rfl]
  exact k4_29
def iX8_nextYear : q_I := (yX8_nextYear, cX8_nextYear, 4, (some .long), RX8, [], 7, 121, 1, 6)
theorem hdX8_nextYear : (i_y iX8_nextYear).cls ≠ "java/lang/invoke/MethodHandle" ∧ (i_y iX8_nextYear).cls ≠ "java/lang/invoke/VarHandle" ∧ (parseMethodDescriptor (i_y iX8_nextYear).desc).map (fun d => d.parameters.length) = some 0 := by decide +kernel
theorem hhX8_nextYear : q_head iX8_nextYear ∈ q_big := by
  rw [q_head_code (y := iX8_nextYear) rfl]
  exact k4_81
def iX8_payTax : q_I := (yX8_payTax, cX8_payTax, 5, (some .long), RX8, [], 4, 97, 0, 0)
theorem hdX8_payTax : (i_y iX8_payTax).cls ≠ "java/lang/invoke/MethodHandle" ∧ (i_y iX8_payTax).cls ≠ "java/lang/invoke/VarHandle" ∧ (parseMethodDescriptor (i_y iX8_payTax).desc).map (fun d => d.parameters.length) = some 1 := by decide +kernel
theorem hhX8_payTax : q_head iX8_payTax ∈ q_big := by
  rw [q_head_code (y := iX8_payTax) rfl]
  exact k4_86
def iX8_year : q_I := (yX8_year, cX8_year, 1, (some .int), RX8, [], 7, 110, 1, 6)
theorem hdX8_year : (i_y iX8_year).cls ≠ "java/lang/invoke/MethodHandle" ∧ (i_y iX8_year).cls ≠ "java/lang/invoke/VarHandle" ∧ (parseMethodDescriptor (i_y iX8_year).desc).map (fun d => d.parameters.length) = some 0 := by decide +kernel
theorem hhX8_year : q_head iX8_year ∈ q_big := by
  rw [q_head_code (y := iX8_year) rfl]
  exact k4_125
def iX8_cap : q_I := (yX8_cap, cX8_cap, 2, (some .int), RX8, [], 7, 112, 2, 12)
theorem hdX8_cap : (i_y iX8_cap).cls ≠ "java/lang/invoke/MethodHandle" ∧ (i_y iX8_cap).cls ≠ "java/lang/invoke/VarHandle" ∧ (parseMethodDescriptor (i_y iX8_cap).desc).map (fun d => d.parameters.length) = some 1 := by decide +kernel
theorem hhX8_cap : q_head iX8_cap ∈ q_big := by
  rw [q_head_code (y := iX8_cap) rfl]
  exact k4_132
def iX8_taxLine : q_I := (yX8_taxLine, cX8_taxLine, 2, (some .int), RX8, [], 7, 112, 2, 12)
theorem hdX8_taxLine : (i_y iX8_taxLine).cls ≠ "java/lang/invoke/MethodHandle" ∧ (i_y iX8_taxLine).cls ≠ "java/lang/invoke/VarHandle" ∧ (parseMethodDescriptor (i_y iX8_taxLine).desc).map (fun d => d.parameters.length) = some 1 := by decide +kernel
theorem hhX8_taxLine : q_head iX8_taxLine ∈ q_big := by
  rw [q_head_code (y := iX8_taxLine) rfl]
  exact k4_139
def iX8_offer : q_I := (yX8_offer, cX8_offer, 2, (some .int), RX8, [], 7, 112, 2, 12)
theorem hdX8_offer : (i_y iX8_offer).cls ≠ "java/lang/invoke/MethodHandle" ∧ (i_y iX8_offer).cls ≠ "java/lang/invoke/VarHandle" ∧ (parseMethodDescriptor (i_y iX8_offer).desc).map (fun d => d.parameters.length) = some 1 := by decide +kernel
theorem hhX8_offer : q_head iX8_offer ∈ q_big := by
  rw [q_head_code (y := iX8_offer) rfl]
  exact k4_146
def iX8_charge : q_I := (yX8_charge, cX8_charge, 3, (some .int), RX8, [], 8, 133, 3, 18)
theorem hdX8_charge : (i_y iX8_charge).cls ≠ "java/lang/invoke/MethodHandle" ∧ (i_y iX8_charge).cls ≠ "java/lang/invoke/VarHandle" ∧ (parseMethodDescriptor (i_y iX8_charge).desc).map (fun d => d.parameters.length) = some 2 := by decide +kernel
theorem hhX8_charge : q_head iX8_charge ∈ q_big := by
  rw [q_head_code (y := iX8_charge) rfl]
  exact k4_153
def iX8_deadMoney : q_I := (yX8_deadMoney, cX8_deadMoney, 3, (some .int), RX8, [], 8, 133, 3, 18)
theorem hdX8_deadMoney : (i_y iX8_deadMoney).cls ≠ "java/lang/invoke/MethodHandle" ∧ (i_y iX8_deadMoney).cls ≠ "java/lang/invoke/VarHandle" ∧ (parseMethodDescriptor (i_y iX8_deadMoney).desc).map (fun d => d.parameters.length) = some 2 := by decide +kernel
theorem hhX8_deadMoney : q_head iX8_deadMoney ∈ q_big := by
  rw [q_head_code (y := iX8_deadMoney) rfl]
  exact k4_160
def iX8_room : q_I := (yX8_room, cX8_room, 2, (some .int), RX8, [], 8, 133, 2, 12)
theorem hdX8_room : (i_y iX8_room).cls ≠ "java/lang/invoke/MethodHandle" ∧ (i_y iX8_room).cls ≠ "java/lang/invoke/VarHandle" ∧ (parseMethodDescriptor (i_y iX8_room).desc).map (fun d => d.parameters.length) = some 1 := by decide +kernel
theorem hhX8_room : q_head iX8_room ∈ q_big := by
  rw [q_head_code (y := iX8_room) rfl]
  exact k4_168
def iX8_tax : q_I := (yX8_tax, cX8_tax, 2, (some .long), RX8, [], 8, 133, 2, 12)
theorem hdX8_tax : (i_y iX8_tax).cls ≠ "java/lang/invoke/MethodHandle" ∧ (i_y iX8_tax).cls ≠ "java/lang/invoke/VarHandle" ∧ (parseMethodDescriptor (i_y iX8_tax).desc).map (fun d => d.parameters.length) = some 1 := by decide +kernel
theorem hhX8_tax : q_head iX8_tax ∈ q_big := by
  rw [q_head_code (y := iX8_tax) rfl]
  exact k4_175
def iX8_paid : q_I := (yX8_paid, cX8_paid, 2, (some .long), RX8, [], 8, 133, 2, 12)
theorem hdX8_paid : (i_y iX8_paid).cls ≠ "java/lang/invoke/MethodHandle" ∧ (i_y iX8_paid).cls ≠ "java/lang/invoke/VarHandle" ∧ (parseMethodDescriptor (i_y iX8_paid).desc).map (fun d => d.parameters.length) = some 1 := by decide +kernel
theorem hhX8_paid : q_head iX8_paid ∈ q_big := by
  rw [q_head_code (y := iX8_paid) rfl]
  exact k4_182
def iX8_taxedYears : q_I := (yX8_taxedYears, cX8_taxedYears, 2, (some .int), RX8, [], 8, 133, 2, 12)
theorem hdX8_taxedYears : (i_y iX8_taxedYears).cls ≠ "java/lang/invoke/MethodHandle" ∧ (i_y iX8_taxedYears).cls ≠ "java/lang/invoke/VarHandle" ∧ (parseMethodDescriptor (i_y iX8_taxedYears).desc).map (fun d => d.parameters.length) = some 1 := by decide +kernel
theorem hhX8_taxedYears : q_head iX8_taxedYears ∈ q_big := by
  rw [q_head_code (y := iX8_taxedYears) rfl]
  exact k4_189
def iX8_midLevel : q_I := (yX8_midLevel, cX8_midLevel, 2, (some .int), RX8, [], 8, 133, 2, 12)
theorem hdX8_midLevel : (i_y iX8_midLevel).cls ≠ "java/lang/invoke/MethodHandle" ∧ (i_y iX8_midLevel).cls ≠ "java/lang/invoke/VarHandle" ∧ (parseMethodDescriptor (i_y iX8_midLevel).desc).map (fun d => d.parameters.length) = some 1 := by decide +kernel
theorem hhX8_midLevel : q_head iX8_midLevel ∈ q_big := by
  rw [q_head_code (y := iX8_midLevel) rfl]
  exact k4_196
def iX8_roster : q_I := (yX8_roster, cX8_roster, 2, (some .int), RX8, [], 8, 133, 2, 12)
theorem hdX8_roster : (i_y iX8_roster).cls ≠ "java/lang/invoke/MethodHandle" ∧ (i_y iX8_roster).cls ≠ "java/lang/invoke/VarHandle" ∧ (parseMethodDescriptor (i_y iX8_roster).desc).map (fun d => d.parameters.length) = some 1 := by decide +kernel
theorem hhX8_roster : q_head iX8_roster ∈ q_big := by
  rw [q_head_code (y := iX8_roster) rfl]
  exact k4_203
def iX8_teamRank : q_I := (yX8_teamRank, cX8_teamRank, 4, (some .int), RX8, [], 7, 147, 4, 24)
theorem hdX8_teamRank : (i_y iX8_teamRank).cls ≠ "java/lang/invoke/MethodHandle" ∧ (i_y iX8_teamRank).cls ≠ "java/lang/invoke/VarHandle" ∧ (parseMethodDescriptor (i_y iX8_teamRank).desc).map (fun d => d.parameters.length) = some 2 := by decide +kernel
theorem hhX8_teamRank : q_head iX8_teamRank ∈ q_big := by
  rw [q_head_code (y := iX8_teamRank) rfl]
  exact k4_211
def iX8_teamsBefore : q_I := (yX8_teamsBefore, cX8_teamsBefore, 9, (some .int), RX8, [], 5, 119, 0, 0)
theorem hdX8_teamsBefore : (i_y iX8_teamsBefore).cls ≠ "java/lang/invoke/MethodHandle" ∧ (i_y iX8_teamsBefore).cls ≠ "java/lang/invoke/VarHandle" ∧ (parseMethodDescriptor (i_y iX8_teamsBefore).desc).map (fun d => d.parameters.length) = some 2 := by decide +kernel
theorem hhX8_teamsBefore : q_head iX8_teamsBefore ∈ q_big := by
  rw [q_head_code (y := iX8_teamsBefore) rfl]
  exact k4_219
def iX8_teamMeasure : q_I := (yX8_teamMeasure, cX8_teamMeasure, 3, (some .long), RX8, [], 4, 97, 0, 0)
theorem hdX8_teamMeasure : (i_y iX8_teamMeasure).cls ≠ "java/lang/invoke/MethodHandle" ∧ (i_y iX8_teamMeasure).cls ≠ "java/lang/invoke/VarHandle" ∧ (parseMethodDescriptor (i_y iX8_teamMeasure).desc).map (fun d => d.parameters.length) = some 2 := by decide +kernel
theorem hhX8_teamMeasure : q_head iX8_teamMeasure ∈ q_big := by
  rw [q_head_code (y := iX8_teamMeasure) rfl]
  exact k4_223
def iX8_playerValue : q_I := (yX8_playerValue, cX8_playerValue, 4, (some .int), RX8, [], 8, 133, 3, 18)
theorem hdX8_playerValue : (i_y iX8_playerValue).cls ≠ "java/lang/invoke/MethodHandle" ∧ (i_y iX8_playerValue).cls ≠ "java/lang/invoke/VarHandle" ∧ (parseMethodDescriptor (i_y iX8_playerValue).desc).map (fun d => d.parameters.length) = some 2 := by decide +kernel
theorem hhX8_playerValue : q_head iX8_playerValue ∈ q_big := by
  rw [q_head_code (y := iX8_playerValue) rfl]
  exact k5_6
def iX8_contractValue : q_I := (yX8_contractValue, cX8_contractValue, 4, (some .int), RX8, [], 2, 44, 0, 0)
theorem hdX8_contractValue : (i_y iX8_contractValue).cls ≠ "java/lang/invoke/MethodHandle" ∧ (i_y iX8_contractValue).cls ≠ "java/lang/invoke/VarHandle" ∧ (parseMethodDescriptor (i_y iX8_contractValue).desc).map (fun d => d.parameters.length) = some 2 := by decide +kernel
theorem hhX8_contractValue : q_head iX8_contractValue ∈ q_big := by
  rw [q_head_code (y := iX8_contractValue) rfl]
  exact k5_10
def iX8_salary : q_I := (yX8_salary, cX8_salary, 3, (some .int), RX8, [], 8, 133, 3, 18)
theorem hdX8_salary : (i_y iX8_salary).cls ≠ "java/lang/invoke/MethodHandle" ∧ (i_y iX8_salary).cls ≠ "java/lang/invoke/VarHandle" ∧ (parseMethodDescriptor (i_y iX8_salary).desc).map (fun d => d.parameters.length) = some 2 := by decide +kernel
theorem hhX8_salary : q_head iX8_salary ∈ q_big := by
  rw [q_head_code (y := iX8_salary) rfl]
  exact k5_18
def iX8_share : q_I := (yX8_share, cX8_share, 3, (some .int), RX8, [], 8, 133, 3, 18)
theorem hdX8_share : (i_y iX8_share).cls ≠ "java/lang/invoke/MethodHandle" ∧ (i_y iX8_share).cls ≠ "java/lang/invoke/VarHandle" ∧ (parseMethodDescriptor (i_y iX8_share).desc).map (fun d => d.parameters.length) = some 2 := by decide +kernel
theorem hhX8_share : q_head iX8_share ∈ q_big := by
  rw [q_head_code (y := iX8_share) rfl]
  exact k5_26
def iX8_playerRank : q_I := (yX8_playerRank, cX8_playerRank, 3, (some .int), RX8, [], 7, 110, 3, 18)
theorem hdX8_playerRank : (i_y iX8_playerRank).cls ≠ "java/lang/invoke/MethodHandle" ∧ (i_y iX8_playerRank).cls ≠ "java/lang/invoke/VarHandle" ∧ (parseMethodDescriptor (i_y iX8_playerRank).desc).map (fun d => d.parameters.length) = some 1 := by decide +kernel
theorem hhX8_playerRank : q_head iX8_playerRank ∈ q_big := by
  rw [q_head_code (y := iX8_playerRank) rfl]
  exact k5_37
def iX8_playersBefore : q_I := (yX8_playersBefore, cX8_playersBefore, 7, (some .int), RX8, [], 2, 42, 0, 0)
theorem hdX8_playersBefore : (i_y iX8_playersBefore).cls ≠ "java/lang/invoke/MethodHandle" ∧ (i_y iX8_playersBefore).cls ≠ "java/lang/invoke/VarHandle" ∧ (parseMethodDescriptor (i_y iX8_playersBefore).desc).map (fun d => d.parameters.length) = some 1 := by decide +kernel
theorem hhX8_playersBefore : q_head iX8_playersBefore ∈ q_big := by
  rw [q_head_code (y := iX8_playersBefore) rfl]
  exact k5_41
def iX8_meanSalary : q_I := (yX8_meanSalary, cX8_meanSalary, 4, (some .double), RX8, [], 8, 133, 3, 18)
theorem hdX8_meanSalary : (i_y iX8_meanSalary).cls ≠ "java/lang/invoke/MethodHandle" ∧ (i_y iX8_meanSalary).cls ≠ "java/lang/invoke/VarHandle" ∧ (parseMethodDescriptor (i_y iX8_meanSalary).desc).map (fun d => d.parameters.length) = some 1 := by decide +kernel
theorem hhX8_meanSalary : q_head iX8_meanSalary ∈ q_big := by
  rw [q_head_code (y := iX8_meanSalary) rfl]
  exact k5_69
def iX8_signCode : q_I := (yX8_signCode, cX8_signCode, 4, (some .int), RX8, [], 8, 136, 4, 24)
theorem hdX8_signCode : (i_y iX8_signCode).cls ≠ "java/lang/invoke/MethodHandle" ∧ (i_y iX8_signCode).cls ≠ "java/lang/invoke/VarHandle" ∧ (parseMethodDescriptor (i_y iX8_signCode).desc).map (fun d => d.parameters.length) = some 3 := by decide +kernel
theorem hhX8_signCode : q_head iX8_signCode ∈ q_big := by
  rw [q_head_code (y := iX8_signCode) rfl]
  exact k5_79
def iX8_bestRule : q_I := (yX8_bestRule, cX8_bestRule, 4, (some .int), RX8, [], 8, 136, 3, 18)
theorem hdX8_bestRule : (i_y iX8_bestRule).cls ≠ "java/lang/invoke/MethodHandle" ∧ (i_y iX8_bestRule).cls ≠ "java/lang/invoke/VarHandle" ∧ (parseMethodDescriptor (i_y iX8_bestRule).desc).map (fun d => d.parameters.length) = some 2 := by decide +kernel
theorem hhX8_bestRule : q_head iX8_bestRule ∈ q_big := by
  rw [q_head_code (y := iX8_bestRule) rfl]
  exact k5_86
def iX8_greatestBase : q_I := (yX8_greatestBase, cX8_greatestBase, 5, (some .int), RX8, [], 8, 133, 4, 24)
theorem hdX8_greatestBase : (i_y iX8_greatestBase).cls ≠ "java/lang/invoke/MethodHandle" ∧ (i_y iX8_greatestBase).cls ≠ "java/lang/invoke/VarHandle" ∧ (parseMethodDescriptor (i_y iX8_greatestBase).desc).map (fun d => d.parameters.length) = some 3 := by decide +kernel
theorem hhX8_greatestBase : q_head iX8_greatestBase ∈ q_big := by
  rw [q_head_code (y := iX8_greatestBase) rfl]
  exact k5_93
def iX8_signError : q_I := (yX8_signError, cX8_signError, 5, (some .int), RX8, [], 5, 112, 0, 0)
theorem hdX8_signError : (i_y iX8_signError).cls ≠ "java/lang/invoke/MethodHandle" ∧ (i_y iX8_signError).cls ≠ "java/lang/invoke/VarHandle" ∧ (parseMethodDescriptor (i_y iX8_signError).desc).map (fun d => d.parameters.length) = some 3 := by decide +kernel
theorem hhX8_signError : q_head iX8_signError ∈ q_big := by
  rw [q_head_code (y := iX8_signError) rfl]
  exact k3_184
def iX8_placeError : q_I := (yX8_placeError, cX8_placeError, 3, (some .int), RX8, [], 2, 45, 0, 0)
theorem hdX8_placeError : (i_y iX8_placeError).cls ≠ "java/lang/invoke/MethodHandle" ∧ (i_y iX8_placeError).cls ≠ "java/lang/invoke/VarHandle" ∧ (parseMethodDescriptor (i_y iX8_placeError).desc).map (fun d => d.parameters.length) = some 2 := by decide +kernel
theorem hhX8_placeError : q_head iX8_placeError ∈ q_big := by
  rw [q_head_code (y := iX8_placeError) rfl]
  exact k3_188
def iX8_baseLimit : q_I := (yX8_baseLimit, cX8_baseLimit, 6, (some .int), RX8, [], 4, 87, 0, 0)
theorem hdX8_baseLimit : (i_y iX8_baseLimit).cls ≠ "java/lang/invoke/MethodHandle" ∧ (i_y iX8_baseLimit).cls ≠ "java/lang/invoke/VarHandle" ∧ (parseMethodDescriptor (i_y iX8_baseLimit).desc).map (fun d => d.parameters.length) = some 3 := by decide +kernel
theorem hhX8_baseLimit : q_head iX8_baseLimit ∈ q_big := by
  rw [q_head_code (y := iX8_baseLimit) rfl]
  exact k3_195
def iX8_releaseCost : q_I := (yX8_releaseCost, cX8_releaseCost, 5, (some .int), RX8, [], 8, 133, 3, 18)
theorem hdX8_releaseCost : (i_y iX8_releaseCost).cls ≠ "java/lang/invoke/MethodHandle" ∧ (i_y iX8_releaseCost).cls ≠ "java/lang/invoke/VarHandle" ∧ (parseMethodDescriptor (i_y iX8_releaseCost).desc).map (fun d => d.parameters.length) = some 3 := by decide +kernel
theorem hhX8_releaseCost : q_head iX8_releaseCost ∈ q_big := by
  rw [q_head_code (y := iX8_releaseCost) rfl]
  exact k5_101
def iX8_releaseGain : q_I := (yX8_releaseGain, cX8_releaseGain, 4, (some .int), RX8, [], 8, 133, 2, 12)
theorem hdX8_releaseGain : (i_y iX8_releaseGain).cls ≠ "java/lang/invoke/MethodHandle" ∧ (i_y iX8_releaseGain).cls ≠ "java/lang/invoke/VarHandle" ∧ (parseMethodDescriptor (i_y iX8_releaseGain).desc).map (fun d => d.parameters.length) = some 2 := by decide +kernel
theorem hhX8_releaseGain : q_head iX8_releaseGain ∈ q_big := by
  rw [q_head_code (y := iX8_releaseGain) rfl]
  exact k5_109
def iX8_fewestReleases : q_I := (yX8_fewestReleases, cX8_fewestReleases, 2, (some .int), RX8, [], 8, 138, 2, 12)
theorem hdX8_fewestReleases : (i_y iX8_fewestReleases).cls ≠ "java/lang/invoke/MethodHandle" ∧ (i_y iX8_fewestReleases).cls ≠ "java/lang/invoke/VarHandle" ∧ (parseMethodDescriptor (i_y iX8_fewestReleases).desc).map (fun d => d.parameters.length) = some 1 := by decide +kernel
theorem hhX8_fewestReleases : q_head iX8_fewestReleases ∈ q_big := by
  rw [q_head_code (y := iX8_fewestReleases) rfl]
  exact k5_122
def iX8_releaseSet : q_I := (yX8_releaseSet, cX8_releaseSet, 2, (some .int), RX8, [], 8, 138, 2, 12)
theorem hdX8_releaseSet : (i_y iX8_releaseSet).cls ≠ "java/lang/invoke/MethodHandle" ∧ (i_y iX8_releaseSet).cls ≠ "java/lang/invoke/VarHandle" ∧ (parseMethodDescriptor (i_y iX8_releaseSet).desc).map (fun d => d.parameters.length) = some 1 := by decide +kernel
theorem hhX8_releaseSet : q_head iX8_releaseSet ∈ q_big := by
  rw [q_head_code (y := iX8_releaseSet) rfl]
  exact k5_148
def iX8_tradeCode : q_I := (yX8_tradeCode, cX8_tradeCode, 5, (some .int), RX8, [], 10, 179, 6, 36)
theorem hdX8_tradeCode : (i_y iX8_tradeCode).cls ≠ "java/lang/invoke/MethodHandle" ∧ (i_y iX8_tradeCode).cls ≠ "java/lang/invoke/VarHandle" ∧ (parseMethodDescriptor (i_y iX8_tradeCode).desc).map (fun d => d.parameters.length) = some 4 := by decide +kernel
theorem hhX8_tradeCode : q_head iX8_tradeCode ∈ q_big := by
  rw [q_head_code (y := iX8_tradeCode) rfl]
  exact k5_169
def iX8_tradeError : q_I := (yX8_tradeError, cX8_tradeError, 9, (some .int), RX8, [], 5, 116, 0, 0)
theorem hdX8_tradeError : (i_y iX8_tradeError).cls ≠ "java/lang/invoke/MethodHandle" ∧ (i_y iX8_tradeError).cls ≠ "java/lang/invoke/VarHandle" ∧ (parseMethodDescriptor (i_y iX8_tradeError).desc).map (fun d => d.parameters.length) = some 4 := by decide +kernel
theorem hhX8_tradeError : q_head iX8_tradeError ∈ q_big := by
  rw [q_head_code (y := iX8_tradeError) rfl]
  exact k4_42
def iX8_salariesMatch : q_I := (yX8_salariesMatch, cX8_salariesMatch, 8, (some .boolean), RX8, [], 4, 89, 0, 0)
theorem hdX8_salariesMatch : (i_y iX8_salariesMatch).cls ≠ "java/lang/invoke/MethodHandle" ∧ (i_y iX8_salariesMatch).cls ≠ "java/lang/invoke/VarHandle" ∧ (parseMethodDescriptor (i_y iX8_salariesMatch).desc).map (fun d => d.parameters.length) = some 3 := by decide +kernel
theorem hhX8_salariesMatch : q_head iX8_salariesMatch ∈ q_big := by
  rw [q_head_code (y := iX8_salariesMatch) rfl]
  exact k4_46
def iX8_swapMatches : q_I := (yX8_swapMatches, cX8_swapMatches, 5, (some .boolean), RX8, [], 5, 116, 0, 0)
theorem hdX8_swapMatches : (i_y iX8_swapMatches).cls ≠ "java/lang/invoke/MethodHandle" ∧ (i_y iX8_swapMatches).cls ≠ "java/lang/invoke/VarHandle" ∧ (parseMethodDescriptor (i_y iX8_swapMatches).desc).map (fun d => d.parameters.length) = some 4 := by decide +kernel
theorem hhX8_swapMatches : q_head iX8_swapMatches ∈ q_big := by
  rw [q_head_code (y := iX8_swapMatches) rfl]
  exact k5_181
def iX8_swapCount : q_I := (yX8_swapCount, cX8_swapCount, 8, (some .int), RX8, [], 9, 155, 4, 24)
theorem hdX8_swapCount : (i_y iX8_swapCount).cls ≠ "java/lang/invoke/MethodHandle" ∧ (i_y iX8_swapCount).cls ≠ "java/lang/invoke/VarHandle" ∧ (parseMethodDescriptor (i_y iX8_swapCount).desc).map (fun d => d.parameters.length) = some 2 := by decide +kernel
theorem hhX8_swapCount : q_head iX8_swapCount ∈ q_big := by
  rw [q_head_code (y := iX8_swapCount) rfl]
  exact k5_176
def iX8_bestSwap : q_I := (yX8_bestSwap, cX8_bestSwap, 12, (some .int), RX8, [], 9, 155, 4, 24)
theorem hdX8_bestSwap : (i_y iX8_bestSwap).cls ≠ "java/lang/invoke/MethodHandle" ∧ (i_y iX8_bestSwap).cls ≠ "java/lang/invoke/VarHandle" ∧ (parseMethodDescriptor (i_y iX8_bestSwap).desc).map (fun d => d.parameters.length) = some 2 := by decide +kernel
theorem hhX8_bestSwap : q_head iX8_bestSwap ∈ q_big := by
  rw [q_head_code (y := iX8_bestSwap) rfl]
  exact k5_188
def iX8_taxAhead : q_I := (yX8_taxAhead, cX8_taxAhead, 9, (some .long), RX8, [], 8, 133, 3, 18)
theorem hdX8_taxAhead : (i_y iX8_taxAhead).cls ≠ "java/lang/invoke/MethodHandle" ∧ (i_y iX8_taxAhead).cls ≠ "java/lang/invoke/VarHandle" ∧ (parseMethodDescriptor (i_y iX8_taxAhead).desc).map (fun d => d.parameters.length) = some 2 := by decide +kernel
theorem hhX8_taxAhead : q_head iX8_taxAhead ∈ q_big := by
  rw [q_head_code (y := iX8_taxAhead) rfl]
  exact k5_195
def iX8_undo : q_I := (yX8_undo, cX8_undo, 1, (some .int), RX8, [], 7, 110, 1, 6)
theorem hdX8_undo : (i_y iX8_undo).cls ≠ "java/lang/invoke/MethodHandle" ∧ (i_y iX8_undo).cls ≠ "java/lang/invoke/VarHandle" ∧ (parseMethodDescriptor (i_y iX8_undo).desc).map (fun d => d.parameters.length) = some 0 := by decide +kernel
theorem hhX8_undo : q_head iX8_undo ∈ q_big := by
  rw [q_head_code (y := iX8_undo) rfl]
  exact k5_202
def iX8_roomOf : q_I := (yX8_roomOf, cX8_roomOf, 2, (some .int), RX8, [], 3, 66, 0, 0)
theorem hdX8_roomOf : (i_y iX8_roomOf).cls ≠ "java/lang/invoke/MethodHandle" ∧ (i_y iX8_roomOf).cls ≠ "java/lang/invoke/VarHandle" ∧ (parseMethodDescriptor (i_y iX8_roomOf).desc).map (fun d => d.parameters.length) = some 1 := by decide +kernel
theorem hhX8_roomOf : q_head iX8_roomOf ∈ q_big := by
  rw [q_head_code (y := iX8_roomOf) rfl]
  exact k3_199
def iX8_taxOn : q_I := (yX8_taxOn, cX8_taxOn, 3, (some .long), RX8, [], 3, 75, 0, 0)
theorem hdX8_taxOn : (i_y iX8_taxOn).cls ≠ "java/lang/invoke/MethodHandle" ∧ (i_y iX8_taxOn).cls ≠ "java/lang/invoke/VarHandle" ∧ (parseMethodDescriptor (i_y iX8_taxOn).desc).map (fun d => d.parameters.length) = some 2 := by decide +kernel
theorem hhX8_taxOn : q_head iX8_taxOn ∈ q_big := by
  rw [q_head_code (y := iX8_taxOn) rfl]
  exact k4_90
def iX8_requireLeague : q_I := (yX8_requireLeague, cX8_requireLeague, 1, none, RX8, [], 6, 90, 1, 6)
theorem hdX8_requireLeague : (i_y iX8_requireLeague).cls ≠ "java/lang/invoke/MethodHandle" ∧ (i_y iX8_requireLeague).cls ≠ "java/lang/invoke/VarHandle" ∧ (parseMethodDescriptor (i_y iX8_requireLeague).desc).map (fun d => d.parameters.length) = some 0 := by decide +kernel
theorem hhX8_requireLeague : q_head iX8_requireLeague ∈ q_big := by
  rw [q_head_code (y := iX8_requireLeague) rfl]
  exact k3_133
def iX8_requireTeam : q_I := (yX8_requireTeam, cX8_requireTeam, 2, none, RX8, [], 7, 112, 1, 6)
theorem hdX8_requireTeam : (i_y iX8_requireTeam).cls ≠ "java/lang/invoke/MethodHandle" ∧ (i_y iX8_requireTeam).cls ≠ "java/lang/invoke/VarHandle" ∧ (parseMethodDescriptor (i_y iX8_requireTeam).desc).map (fun d => d.parameters.length) = some 1 := by decide +kernel
theorem hhX8_requireTeam : q_head iX8_requireTeam ∈ q_big := by
  rw [q_head_code (y := iX8_requireTeam) rfl]
  exact k3_176
def iX8_requirePlayer : q_I := (yX8_requirePlayer, cX8_requirePlayer, 2, none, RX8, [], 7, 112, 1, 6)
theorem hdX8_requirePlayer : (i_y iX8_requirePlayer).cls ≠ "java/lang/invoke/MethodHandle" ∧ (i_y iX8_requirePlayer).cls ≠ "java/lang/invoke/VarHandle" ∧ (parseMethodDescriptor (i_y iX8_requirePlayer).desc).map (fun d => d.parameters.length) = some 1 := by decide +kernel
theorem hhX8_requirePlayer : q_head iX8_requirePlayer ∈ q_big := by
  rw [q_head_code (y := iX8_requirePlayer) rfl]
  exact k3_180
def iX8_requireTwoTeams : q_I := (yX8_requireTwoTeams, cX8_requireTwoTeams, 3, none, RX8, [], 8, 133, 3, 18)
theorem hdX8_requireTwoTeams : (i_y iX8_requireTwoTeams).cls ≠ "java/lang/invoke/MethodHandle" ∧ (i_y iX8_requireTwoTeams).cls ≠ "java/lang/invoke/VarHandle" ∧ (parseMethodDescriptor (i_y iX8_requireTwoTeams).desc).map (fun d => d.parameters.length) = some 2 := by decide +kernel
theorem hhX8_requireTwoTeams : q_head iX8_requireTwoTeams ∈ q_big := by
  rw [q_head_code (y := iX8_requireTwoTeams) rfl]
  exact k4_37
def iX8_requireTrade : q_I := (yX8_requireTrade, cX8_requireTrade, 5, none, RX8, [], 9, 155, 5, 30)
theorem hdX8_requireTrade : (i_y iX8_requireTrade).cls ≠ "java/lang/invoke/MethodHandle" ∧ (i_y iX8_requireTrade).cls ≠ "java/lang/invoke/VarHandle" ∧ (parseMethodDescriptor (i_y iX8_requireTrade).desc).map (fun d => d.parameters.length) = some 4 := by decide +kernel
theorem hhX8_requireTrade : q_head iX8_requireTrade ∈ q_big := by
  rw [q_head_code (y := iX8_requireTrade) rfl]
  exact k4_33
def iX8_requireNotNegative : q_I := (yX8_requireNotNegative, cX8_requireNotNegative, 1, none, RX8, [], 6, 90, 1, 6)
theorem hdX8_requireNotNegative : (i_y iX8_requireNotNegative).cls ≠ "java/lang/invoke/MethodHandle" ∧ (i_y iX8_requireNotNegative).cls ≠ "java/lang/invoke/VarHandle" ∧ (parseMethodDescriptor (i_y iX8_requireNotNegative).desc).map (fun d => d.parameters.length) = some 1 := by decide +kernel
theorem hhX8_requireNotNegative : q_head iX8_requireNotNegative ∈ q_big := by
  rw [q_head_code (y := iX8_requireNotNegative) rfl]
  exact k4_214
def iX8_requireRange : q_I := (yX8_requireRange, cX8_requireRange, 3, none, RX8, [], 6, 90, 1, 6)
theorem hdX8_requireRange : (i_y iX8_requireRange).cls ≠ "java/lang/invoke/MethodHandle" ∧ (i_y iX8_requireRange).cls ≠ "java/lang/invoke/VarHandle" ∧ (parseMethodDescriptor (i_y iX8_requireRange).desc).map (fun d => d.parameters.length) = some 3 := by decide +kernel
theorem hhX8_requireRange : q_head iX8_requireRange ∈ q_big := by
  rw [q_head_code (y := iX8_requireRange) rfl]
  exact k3_106
def iX9_init : q_I := (yX9_init, cX9_init, 1, none, RX9, [], 1, 20, 12, 5831)
theorem hdX9_init : (i_y iX9_init).cls ≠ "java/lang/invoke/MethodHandle" ∧ (i_y iX9_init).cls ≠ "java/lang/invoke/VarHandle" ∧ (parseMethodDescriptor (i_y iX9_init).desc).map (fun d => d.parameters.length) = some 0 := by decide +kernel
theorem hhX9_init : q_head iX9_init ∈ q_big := by
  rw [q_head_code (y := iX9_init) rfl]
  exact k5_211
def iX9_thrown : q_I := (yX9_thrown, cX9_thrown, 1, (some .int), RX9, [], 0, 0, 0, 0)
theorem hdX9_thrown : (i_y iX9_thrown).cls ≠ "java/lang/invoke/MethodHandle" ∧ (i_y iX9_thrown).cls ≠ "java/lang/invoke/VarHandle" ∧ (parseMethodDescriptor (i_y iX9_thrown).desc).map (fun d => d.parameters.length) = some 0 := by decide +kernel
theorem hhX9_thrown : q_head iX9_thrown ∈ q_big := by
  rw [q_head_code (y := iX9_thrown) rfl]
  exact k6_83
def iX9_isIn : q_I := (yX9_isIn, cX9_isIn, 6, (some .boolean), RX9, [], 0, 0, 0, 0)
theorem hdX9_isIn : (i_y iX9_isIn).cls ≠ "java/lang/invoke/MethodHandle" ∧ (i_y iX9_isIn).cls ≠ "java/lang/invoke/VarHandle" ∧ (parseMethodDescriptor (i_y iX9_isIn).desc).map (fun d => d.parameters.length) = some 3 := by decide +kernel
theorem hhX9_isIn : q_head iX9_isIn ∈ q_big := by
  rw [q_head_code (y := iX9_isIn) rfl]
  exact k6_98
def iX9_has : q_I := (yX9_has, cX9_has, 2, (some .boolean), RX9, [], 0, 0, 0, 0)
theorem hdX9_has : (i_y iX9_has).cls ≠ "java/lang/invoke/MethodHandle" ∧ (i_y iX9_has).cls ≠ "java/lang/invoke/VarHandle" ∧ (parseMethodDescriptor (i_y iX9_has).desc).map (fun d => d.parameters.length) = some 2 := by decide +kernel
theorem hhX9_has : q_head iX9_has ∈ q_big := by
  rw [q_head_code (y := iX9_has) rfl]
  exact k7_104
def iX9_many : q_I := (yX9_many, cX9_many, 3, (some .int), RX9, [], 0, 0, 0, 0)
theorem hdX9_many : (i_y iX9_many).cls ≠ "java/lang/invoke/MethodHandle" ∧ (i_y iX9_many).cls ≠ "java/lang/invoke/VarHandle" ∧ (parseMethodDescriptor (i_y iX9_many).desc).map (fun d => d.parameters.length) = some 1 := by decide +kernel
theorem hhX9_many : q_head iX9_many ∈ q_big := by
  rw [q_head_code (y := iX9_many) rfl]
  exact k7_13
def iX9_isWrong : q_I := (yX9_isWrong, cX9_isWrong, 2, (some .boolean), RX9, [], 0, 0, 0, 0)
theorem hdX9_isWrong : (i_y iX9_isWrong).cls ≠ "java/lang/invoke/MethodHandle" ∧ (i_y iX9_isWrong).cls ≠ "java/lang/invoke/VarHandle" ∧ (parseMethodDescriptor (i_y iX9_isWrong).desc).map (fun d => d.parameters.length) = some 1 := by decide +kernel
theorem hhX9_isWrong : q_head iX9_isWrong ∈ q_big := by
  rw [q_head_code (y := iX9_isWrong) rfl]
  exact k6_191
def iX9_put : q_I := (yX9_put, cX9_put, 3, none, RX9, [], 0, 0, 0, 0)
theorem hdX9_put : (i_y iX9_put).cls ≠ "java/lang/invoke/MethodHandle" ∧ (i_y iX9_put).cls ≠ "java/lang/invoke/VarHandle" ∧ (parseMethodDescriptor (i_y iX9_put).desc).map (fun d => d.parameters.length) = some 1 := by decide +kernel
theorem hhX9_put : q_head iX9_put ∈ q_big := by
  rw [q_head_code (y := iX9_put) rfl]
  exact k6_91
def iX9_append : q_I := (yX9_append, cX9_append, 6, (some .int), RX9, [], 1, 22, 0, 0)
theorem hdX9_append : (i_y iX9_append).cls ≠ "java/lang/invoke/MethodHandle" ∧ (i_y iX9_append).cls ≠ "java/lang/invoke/VarHandle" ∧ (parseMethodDescriptor (i_y iX9_append).desc).map (fun d => d.parameters.length) = some 5 := by decide +kernel
theorem hhX9_append : q_head iX9_append ∈ q_big := by
  rw [q_head_code (y := iX9_append) rfl]
  exact k6_87
def iX9_truncate : q_I := (yX9_truncate, cX9_truncate, 2, (some .int), RX9, [], 1, 25, 0, 0)
theorem hdX9_truncate : (i_y iX9_truncate).cls ≠ "java/lang/invoke/MethodHandle" ∧ (i_y iX9_truncate).cls ≠ "java/lang/invoke/VarHandle" ∧ (parseMethodDescriptor (i_y iX9_truncate).desc).map (fun d => d.parameters.length) = some 1 := by decide +kernel
theorem hhX9_truncate : q_head iX9_truncate ∈ q_big := by
  rw [q_head_code (y := iX9_truncate) rfl]
  exact k6_95
def iX9_byteAt : q_I := (yX9_byteAt, cX9_byteAt, 2, (some .int), RX9, [], 0, 0, 0, 0)
theorem hdX9_byteAt : (i_y iX9_byteAt).cls ≠ "java/lang/invoke/MethodHandle" ∧ (i_y iX9_byteAt).cls ≠ "java/lang/invoke/VarHandle" ∧ (parseMethodDescriptor (i_y iX9_byteAt).desc).map (fun d => d.parameters.length) = some 1 := by decide +kernel
theorem hhX9_byteAt : q_head iX9_byteAt ∈ q_big := by
  rw [q_head_code (y := iX9_byteAt) rfl]
  exact k6_114
def iX9_isLetterAt : q_I := (yX9_isLetterAt, cX9_isLetterAt, 2, (some .boolean), RX9, [], 1, 25, 0, 0)
theorem hdX9_isLetterAt : (i_y iX9_isLetterAt).cls ≠ "java/lang/invoke/MethodHandle" ∧ (i_y iX9_isLetterAt).cls ≠ "java/lang/invoke/VarHandle" ∧ (parseMethodDescriptor (i_y iX9_isLetterAt).desc).map (fun d => d.parameters.length) = some 1 := by decide +kernel
theorem hhX9_isLetterAt : q_head iX9_isLetterAt ∈ q_big := by
  rw [q_head_code (y := iX9_isLetterAt) rfl]
  exact k6_118
def iX9_isDigitAt : q_I := (yX9_isDigitAt, cX9_isDigitAt, 2, (some .boolean), RX9, [], 1, 25, 0, 0)
theorem hdX9_isDigitAt : (i_y iX9_isDigitAt).cls ≠ "java/lang/invoke/MethodHandle" ∧ (i_y iX9_isDigitAt).cls ≠ "java/lang/invoke/VarHandle" ∧ (parseMethodDescriptor (i_y iX9_isDigitAt).desc).map (fun d => d.parameters.length) = some 1 := by decide +kernel
theorem hhX9_isDigitAt : q_head iX9_isDigitAt ∈ q_big := by
  rw [q_head_code (y := iX9_isDigitAt) rfl]
  exact k6_124
def iX9_isFine : q_I := (yX9_isFine, cX9_isFine, 1, (some .boolean), RX9, [], 0, 0, 0, 0)
theorem hdX9_isFine : (i_y iX9_isFine).cls ≠ "java/lang/invoke/MethodHandle" ∧ (i_y iX9_isFine).cls ≠ "java/lang/invoke/VarHandle" ∧ (parseMethodDescriptor (i_y iX9_isFine).desc).map (fun d => d.parameters.length) = some 0 := by decide +kernel
theorem hhX9_isFine : q_head iX9_isFine ∈ q_big := by
  rw [q_head_code (y := iX9_isFine) rfl]
  exact k6_110
def iX9_next : q_I := (yX9_next, cX9_next, 1, none, RX9, [], 2, 46, 0, 0)
theorem hdX9_next : (i_y iX9_next).cls ≠ "java/lang/invoke/MethodHandle" ∧ (i_y iX9_next).cls ≠ "java/lang/invoke/VarHandle" ∧ (parseMethodDescriptor (i_y iX9_next).desc).map (fun d => d.parameters.length) = some 0 := by decide +kernel
theorem hhX9_next : q_head iX9_next ∈ q_big := by
  rw [q_head_code (y := iX9_next) rfl]
  exact k6_106
def iX9_fail : q_I := (yX9_fail, cX9_fail, 2, none, RX9, [], 1, 20, 0, 0)
theorem hdX9_fail : (i_y iX9_fail).cls ≠ "java/lang/invoke/MethodHandle" ∧ (i_y iX9_fail).cls ≠ "java/lang/invoke/VarHandle" ∧ (parseMethodDescriptor (i_y iX9_fail).desc).map (fun d => d.parameters.length) = some 1 := by decide +kernel
theorem hhX9_fail : q_head iX9_fail ∈ q_big := by
  rw [q_head_code (y := iX9_fail) rfl]
  exact k6_145
def iX9_isWord : q_I := (yX9_isWord, cX9_isWord, 3, (some .boolean), RX9, [], 4, 85, 0, 0)
theorem hdX9_isWord : (i_y iX9_isWord).cls ≠ "java/lang/invoke/MethodHandle" ∧ (i_y iX9_isWord).cls ≠ "java/lang/invoke/VarHandle" ∧ (parseMethodDescriptor (i_y iX9_isWord).desc).map (fun d => d.parameters.length) = some 1 := by decide +kernel
theorem hhX9_isWord : q_head iX9_isWord ∈ q_big := by
  rw [q_head_code (y := iX9_isWord) rfl]
  exact k6_139
def iX9_expect : q_I := (yX9_expect, cX9_expect, 2, none, RX9, [], 5, 107, 0, 0)
theorem hdX9_expect : (i_y iX9_expect).cls ≠ "java/lang/invoke/MethodHandle" ∧ (i_y iX9_expect).cls ≠ "java/lang/invoke/VarHandle" ∧ (parseMethodDescriptor (i_y iX9_expect).desc).map (fun d => d.parameters.length) = some 1 := by decide +kernel
theorem hhX9_expect : q_head iX9_expect ∈ q_big := by
  rw [q_head_code (y := iX9_expect) rfl]
  exact k6_135
def iX9_read : q_I := (yX9_read, cX9_read, 4, (some .int), RX9, [], 3, 66, 0, 0)
theorem hdX9_read : (i_y iX9_read).cls ≠ "java/lang/invoke/MethodHandle" ∧ (i_y iX9_read).cls ≠ "java/lang/invoke/VarHandle" ∧ (parseMethodDescriptor (i_y iX9_read).desc).map (fun d => d.parameters.length) = some 2 := by decide +kernel
theorem hhX9_read : q_head iX9_read ∈ q_big := by
  rw [q_head_code (y := iX9_read) rfl]
  exact k6_150
def iX9_expectSemicolon : q_I := (yX9_expectSemicolon, cX9_expectSemicolon, 1, none, RX9, [], 3, 66, 0, 0)
theorem hdX9_expectSemicolon : (i_y iX9_expectSemicolon).cls ≠ "java/lang/invoke/MethodHandle" ∧ (i_y iX9_expectSemicolon).cls ≠ "java/lang/invoke/VarHandle" ∧ (parseMethodDescriptor (i_y iX9_expectSemicolon).desc).map (fun d => d.parameters.length) = some 0 := by decide +kernel
theorem hhX9_expectSemicolon : q_head iX9_expectSemicolon ∈ q_big := by
  rw [q_head_code (y := iX9_expectSemicolon) rfl]
  exact k6_155
def iX9_readLeague : q_I := (yX9_readLeague, cX9_readLeague, 1, none, RX9, [], 6, 128, 0, 0)
theorem hdX9_readLeague : (i_y iX9_readLeague).cls ≠ "java/lang/invoke/MethodHandle" ∧ (i_y iX9_readLeague).cls ≠ "java/lang/invoke/VarHandle" ∧ (parseMethodDescriptor (i_y iX9_readLeague).desc).map (fun d => d.parameters.length) = some 0 := by decide +kernel
theorem hhX9_readLeague : q_head iX9_readLeague ∈ q_big := by
  rw [q_head_code (y := iX9_readLeague) rfl]
  exact k6_130
def iX9_readBrackets : q_I := (yX9_readBrackets, cX9_readBrackets, 1, none, RX9, [], 5, 107, 0, 0)
theorem hdX9_readBrackets : (i_y iX9_readBrackets).cls ≠ "java/lang/invoke/MethodHandle" ∧ (i_y iX9_readBrackets).cls ≠ "java/lang/invoke/VarHandle" ∧ (parseMethodDescriptor (i_y iX9_readBrackets).desc).map (fun d => d.parameters.length) = some 0 := by decide +kernel
theorem hhX9_readBrackets : q_head iX9_readBrackets ∈ q_big := by
  rw [q_head_code (y := iX9_readBrackets) rfl]
  exact k6_159
def iX9_draftRoster : q_I := (yX9_draftRoster, cX9_draftRoster, 4, (some .int), RX9, [], 0, 0, 0, 0)
theorem hdX9_draftRoster : (i_y iX9_draftRoster).cls ≠ "java/lang/invoke/MethodHandle" ∧ (i_y iX9_draftRoster).cls ≠ "java/lang/invoke/VarHandle" ∧ (parseMethodDescriptor (i_y iX9_draftRoster).desc).map (fun d => d.parameters.length) = some 1 := by decide +kernel
theorem hhX9_draftRoster : q_head iX9_draftRoster ∈ q_big := by
  rw [q_head_code (y := iX9_draftRoster) rfl]
  exact k6_175
def iX9_readTaker : q_I := (yX9_readTaker, cX9_readTaker, 3, (some .int), RX9, [], 4, 89, 0, 0)
theorem hdX9_readTaker : (i_y iX9_readTaker).cls ≠ "java/lang/invoke/MethodHandle" ∧ (i_y iX9_readTaker).cls ≠ "java/lang/invoke/VarHandle" ∧ (parseMethodDescriptor (i_y iX9_readTaker).desc).map (fun d => d.parameters.length) = some 2 := by decide +kernel
theorem hhX9_readTaker : q_head iX9_readTaker ∈ q_big := by
  rw [q_head_code (y := iX9_readTaker) rfl]
  exact k6_171
def iX9_readContract : q_I := (yX9_readContract, cX9_readContract, 9, none, RX9, [], 5, 111, 0, 0)
theorem hdX9_readContract : (i_y iX9_readContract).cls ≠ "java/lang/invoke/MethodHandle" ∧ (i_y iX9_readContract).cls ≠ "java/lang/invoke/VarHandle" ∧ (parseMethodDescriptor (i_y iX9_readContract).desc).map (fun d => d.parameters.length) = some 0 := by decide +kernel
theorem hhX9_readContract : q_head iX9_readContract ∈ q_big := by
  rw [q_head_code (y := iX9_readContract) rfl]
  exact k6_167
def iX9_load : q_I := (yX9_load, cX9_load, 2, (some .int), RX9, [], 7, 148, 0, 0)
theorem hdX9_load : (i_y iX9_load).cls ≠ "java/lang/invoke/MethodHandle" ∧ (i_y iX9_load).cls ≠ "java/lang/invoke/VarHandle" ∧ (parseMethodDescriptor (i_y iX9_load).desc).map (fun d => d.parameters.length) = some 0 := by decide +kernel
theorem hhX9_load : q_head iX9_load ∈ q_big := by
  rw [q_head_code (y := iX9_load) rfl]
  exact k6_102
def iX9_takeOver : q_I := (yX9_takeOver, cX9_takeOver, 4, none, RX9, [], 0, 0, 0, 0)
theorem hdX9_takeOver : (i_y iX9_takeOver).cls ≠ "java/lang/invoke/MethodHandle" ∧ (i_y iX9_takeOver).cls ≠ "java/lang/invoke/VarHandle" ∧ (parseMethodDescriptor (i_y iX9_takeOver).desc).map (fun d => d.parameters.length) = some 0 := by decide +kernel
theorem hhX9_takeOver : q_head iX9_takeOver ∈ q_big := by
  rw [q_head_code (y := iX9_takeOver) rfl]
  exact k6_179
def iX9_errorPosition : q_I := (yX9_errorPosition, cX9_errorPosition, 1, (some .int), RX9, [], 0, 0, 0, 0)
theorem hdX9_errorPosition : (i_y iX9_errorPosition).cls ≠ "java/lang/invoke/MethodHandle" ∧ (i_y iX9_errorPosition).cls ≠ "java/lang/invoke/VarHandle" ∧ (parseMethodDescriptor (i_y iX9_errorPosition).desc).map (fun d => d.parameters.length) = some 0 := by decide +kernel
theorem hhX9_errorPosition : q_head iX9_errorPosition ∈ q_big := by
  rw [q_head_code (y := iX9_errorPosition) rfl]
  exact k6_183
def iX9_ofPlayer : q_I := (yX9_ofPlayer, cX9_ofPlayer, 3, (some .int), RX9, [], 0, 0, 0, 0)
theorem hdX9_ofPlayer : (i_y iX9_ofPlayer).cls ≠ "java/lang/invoke/MethodHandle" ∧ (i_y iX9_ofPlayer).cls ≠ "java/lang/invoke/VarHandle" ∧ (parseMethodDescriptor (i_y iX9_ofPlayer).desc).map (fun d => d.parameters.length) = some 2 := by decide +kernel
theorem hhX9_ofPlayer : q_head iX9_ofPlayer ∈ q_big := by
  rw [q_head_code (y := iX9_ofPlayer) rfl]
  exact k7_6
def iX9_putPlayer : q_I := (yX9_putPlayer, cX9_putPlayer, 4, none, RX9, [], 0, 0, 0, 0)
theorem hdX9_putPlayer : (i_y iX9_putPlayer).cls ≠ "java/lang/invoke/MethodHandle" ∧ (i_y iX9_putPlayer).cls ≠ "java/lang/invoke/VarHandle" ∧ (parseMethodDescriptor (i_y iX9_putPlayer).desc).map (fun d => d.parameters.length) = some 3 := by decide +kernel
theorem hhX9_putPlayer : q_head iX9_putPlayer ∈ q_big := by
  rw [q_head_code (y := iX9_putPlayer) rfl]
  exact k7_69
def iX9_ofTeam : q_I := (yX9_ofTeam, cX9_ofTeam, 3, (some .long), RX9, [], 0, 0, 0, 0)
theorem hdX9_ofTeam : (i_y iX9_ofTeam).cls ≠ "java/lang/invoke/MethodHandle" ∧ (i_y iX9_ofTeam).cls ≠ "java/lang/invoke/VarHandle" ∧ (parseMethodDescriptor (i_y iX9_ofTeam).desc).map (fun d => d.parameters.length) = some 2 := by decide +kernel
theorem hhX9_ofTeam : q_head iX9_ofTeam ∈ q_big := by
  rw [q_head_code (y := iX9_ofTeam) rfl]
  exact k7_46
def iX9_addTeam : q_I := (yX9_addTeam, cX9_addTeam, 5, none, RX9, [], 0, 0, 0, 0)
theorem hdX9_addTeam : (i_y iX9_addTeam).cls ≠ "java/lang/invoke/MethodHandle" ∧ (i_y iX9_addTeam).cls ≠ "java/lang/invoke/VarHandle" ∧ (parseMethodDescriptor (i_y iX9_addTeam).desc).map (fun d => d.parameters.length) = some 3 := by decide +kernel
theorem hhX9_addTeam : q_head iX9_addTeam ∈ q_big := by
  rw [q_head_code (y := iX9_addTeam) rfl]
  exact k7_65
def iX9_now : q_I := (yX9_now, cX9_now, 1, (some .int), RX9, [], 0, 0, 0, 0)
theorem hdX9_now : (i_y iX9_now).cls ≠ "java/lang/invoke/MethodHandle" ∧ (i_y iX9_now).cls ≠ "java/lang/invoke/VarHandle" ∧ (parseMethodDescriptor (i_y iX9_now).desc).map (fun d => d.parameters.length) = some 0 := by decide +kernel
theorem hhX9_now : q_head iX9_now ∈ q_big := by
  rw [q_head_code (y := iX9_now) rfl]
  exact k7_29
def iX9_remember : q_I := (yX9_remember, cX9_remember, 2, none, RX9, [], 0, 0, 0, 0)
theorem hdX9_remember : (i_y iX9_remember).cls ≠ "java/lang/invoke/MethodHandle" ∧ (i_y iX9_remember).cls ≠ "java/lang/invoke/VarHandle" ∧ (parseMethodDescriptor (i_y iX9_remember).desc).map (fun d => d.parameters.length) = some 0 := by decide +kernel
theorem hhX9_remember : q_head iX9_remember ∈ q_big := by
  rw [q_head_code (y := iX9_remember) rfl]
  exact k6_202
def iX9_undo : q_I := (yX9_undo, cX9_undo, 2, (some .int), RX9, [], 1, 21, 0, 0)
theorem hdX9_undo : (i_y iX9_undo).cls ≠ "java/lang/invoke/MethodHandle" ∧ (i_y iX9_undo).cls ≠ "java/lang/invoke/VarHandle" ∧ (parseMethodDescriptor (i_y iX9_undo).desc).map (fun d => d.parameters.length) = some 0 := by decide +kernel
theorem hhX9_undo : q_head iX9_undo ∈ q_big := by
  rw [q_head_code (y := iX9_undo) rfl]
  exact k6_187
def iX9_putAside : q_I := (yX9_putAside, cX9_putAside, 2, none, RX9, [], 0, 0, 0, 0)
theorem hdX9_putAside : (i_y iX9_putAside).cls ≠ "java/lang/invoke/MethodHandle" ∧ (i_y iX9_putAside).cls ≠ "java/lang/invoke/VarHandle" ∧ (parseMethodDescriptor (i_y iX9_putAside).desc).map (fun d => d.parameters.length) = some 0 := by decide +kernel
theorem hhX9_putAside : q_head iX9_putAside ∈ q_big := by
  rw [q_head_code (y := iX9_putAside) rfl]
  exact k7_93
def iX9_takeBack : q_I := (yX9_takeBack, cX9_takeBack, 2, none, RX9, [], 0, 0, 0, 0)
theorem hdX9_takeBack : (i_y iX9_takeBack).cls ≠ "java/lang/invoke/MethodHandle" ∧ (i_y iX9_takeBack).cls ≠ "java/lang/invoke/VarHandle" ∧ (parseMethodDescriptor (i_y iX9_takeBack).desc).map (fun d => d.parameters.length) = some 0 := by decide +kernel
theorem hhX9_takeBack : q_head iX9_takeBack ∈ q_big := by
  rw [q_head_code (y := iX9_takeBack) rfl]
  exact k7_123
def iX9_isTeam : q_I := (yX9_isTeam, cX9_isTeam, 2, (some .boolean), RX9, [], 1, 25, 0, 0)
theorem hdX9_isTeam : (i_y iX9_isTeam).cls ≠ "java/lang/invoke/MethodHandle" ∧ (i_y iX9_isTeam).cls ≠ "java/lang/invoke/VarHandle" ∧ (parseMethodDescriptor (i_y iX9_isTeam).desc).map (fun d => d.parameters.length) = some 1 := by decide +kernel
theorem hhX9_isTeam : q_head iX9_isTeam ∈ q_big := by
  rw [q_head_code (y := iX9_isTeam) rfl]
  exact k6_229
def iX9_isPlayer : q_I := (yX9_isPlayer, cX9_isPlayer, 2, (some .boolean), RX9, [], 1, 25, 0, 0)
theorem hdX9_isPlayer : (i_y iX9_isPlayer).cls ≠ "java/lang/invoke/MethodHandle" ∧ (i_y iX9_isPlayer).cls ≠ "java/lang/invoke/VarHandle" ∧ (parseMethodDescriptor (i_y iX9_isPlayer).desc).map (fun d => d.parameters.length) = some 1 := by decide +kernel
theorem hhX9_isPlayer : q_head iX9_isPlayer ∈ q_big := by
  rw [q_head_code (y := iX9_isPlayer) rfl]
  exact k6_233
def iX9_isAhead : q_I := (yX9_isAhead, cX9_isAhead, 1, (some .boolean), RX9, [], 1, 25, 0, 0)
theorem hdX9_isAhead : (i_y iX9_isAhead).cls ≠ "java/lang/invoke/MethodHandle" ∧ (i_y iX9_isAhead).cls ≠ "java/lang/invoke/VarHandle" ∧ (parseMethodDescriptor (i_y iX9_isAhead).desc).map (fun d => d.parameters.length) = some 1 := by decide +kernel
theorem hhX9_isAhead : q_head iX9_isAhead ∈ q_big := by
  rw [q_head_code (y := iX9_isAhead) rfl]
  exact k7_162
def iX9_hasContract : q_I := (yX9_hasContract, cX9_hasContract, 2, (some .boolean), RX9, [], 1, 22, 0, 0)
theorem hdX9_hasContract : (i_y iX9_hasContract).cls ≠ "java/lang/invoke/MethodHandle" ∧ (i_y iX9_hasContract).cls ≠ "java/lang/invoke/VarHandle" ∧ (parseMethodDescriptor (i_y iX9_hasContract).desc).map (fun d => d.parameters.length) = some 1 := by decide +kernel
theorem hhX9_hasContract : q_head iX9_hasContract ∈ q_big := by
  rw [q_head_code (y := iX9_hasContract) rfl]
  exact k7_2
def iX9_yearNumber : q_I := (yX9_yearNumber, cX9_yearNumber, 4, (some .int), RX9, [], 2, 43, 0, 0)
theorem hdX9_yearNumber : (i_y iX9_yearNumber).cls ≠ "java/lang/invoke/MethodHandle" ∧ (i_y iX9_yearNumber).cls ≠ "java/lang/invoke/VarHandle" ∧ (parseMethodDescriptor (i_y iX9_yearNumber).desc).map (fun d => d.parameters.length) = some 2 := by decide +kernel
theorem hhX9_yearNumber : q_head iX9_yearNumber ∈ q_big := by
  rw [q_head_code (y := iX9_yearNumber) rfl]
  exact k7_54
def iX9_salaryBy : q_I := (yX9_salaryBy, cX9_salaryBy, 3, (some .int), RX9, [], 0, 0, 0, 0)
theorem hdX9_salaryBy : (i_y iX9_salaryBy).cls ≠ "java/lang/invoke/MethodHandle" ∧ (i_y iX9_salaryBy).cls ≠ "java/lang/invoke/VarHandle" ∧ (parseMethodDescriptor (i_y iX9_salaryBy).desc).map (fun d => d.parameters.length) = some 3 := by decide +kernel
theorem hhX9_salaryBy : q_head iX9_salaryBy ∈ q_big := by
  rw [q_head_code (y := iX9_salaryBy) rfl]
  exact k7_57
def iX9_shareBy : q_I := (yX9_shareBy, cX9_shareBy, 3, (some .int), RX9, [], 0, 0, 0, 0)
theorem hdX9_shareBy : (i_y iX9_shareBy).cls ≠ "java/lang/invoke/MethodHandle" ∧ (i_y iX9_shareBy).cls ≠ "java/lang/invoke/VarHandle" ∧ (parseMethodDescriptor (i_y iX9_shareBy).desc).map (fun d => d.parameters.length) = some 3 := by decide +kernel
theorem hhX9_shareBy : q_head iX9_shareBy ∈ q_big := by
  rw [q_head_code (y := iX9_shareBy) rfl]
  exact k6_217
def iX9_salaryIn : q_I := (yX9_salaryIn, cX9_salaryIn, 4, (some .int), RX9, [], 3, 66, 0, 0)
theorem hdX9_salaryIn : (i_y iX9_salaryIn).cls ≠ "java/lang/invoke/MethodHandle" ∧ (i_y iX9_salaryIn).cls ≠ "java/lang/invoke/VarHandle" ∧ (parseMethodDescriptor (i_y iX9_salaryIn).desc).map (fun d => d.parameters.length) = some 2 := by decide +kernel
theorem hhX9_salaryIn : q_head iX9_salaryIn ∈ q_big := by
  rw [q_head_code (y := iX9_salaryIn) rfl]
  exact k7_50
def iX9_shareIn : q_I := (yX9_shareIn, cX9_shareIn, 4, (some .int), RX9, [], 3, 66, 0, 0)
theorem hdX9_shareIn : (i_y iX9_shareIn).cls ≠ "java/lang/invoke/MethodHandle" ∧ (i_y iX9_shareIn).cls ≠ "java/lang/invoke/VarHandle" ∧ (parseMethodDescriptor (i_y iX9_shareIn).desc).map (fun d => d.parameters.length) = some 2 := by decide +kernel
theorem hhX9_shareIn : q_head iX9_shareIn ∈ q_big := by
  rw [q_head_code (y := iX9_shareIn) rfl]
  exact k7_61
def iX9_sharesFrom : q_I := (yX9_sharesFrom, cX9_sharesFrom, 4, (some .int), RX9, [], 4, 89, 0, 0)
theorem hdX9_sharesFrom : (i_y iX9_sharesFrom).cls ≠ "java/lang/invoke/MethodHandle" ∧ (i_y iX9_sharesFrom).cls ≠ "java/lang/invoke/VarHandle" ∧ (parseMethodDescriptor (i_y iX9_sharesFrom).desc).map (fun d => d.parameters.length) = some 1 := by decide +kernel
theorem hhX9_sharesFrom : q_head iX9_sharesFrom ∈ q_big := by
  rw [q_head_code (y := iX9_sharesFrom) rfl]
  exact k7_81
def iX9_deadIn : q_I := (yX9_deadIn, cX9_deadIn, 4, (some .int), RX9, [], 1, 22, 0, 0)
theorem hdX9_deadIn : (i_y iX9_deadIn).cls ≠ "java/lang/invoke/MethodHandle" ∧ (i_y iX9_deadIn).cls ≠ "java/lang/invoke/VarHandle" ∧ (parseMethodDescriptor (i_y iX9_deadIn).desc).map (fun d => d.parameters.length) = some 2 := by decide +kernel
theorem hhX9_deadIn : q_head iX9_deadIn ∈ q_big := by
  rw [q_head_code (y := iX9_deadIn) rfl]
  exact k7_42
def iX9_chargeOf : q_I := (yX9_chargeOf, cX9_chargeOf, 5, (some .int), RX9, [], 4, 89, 0, 0)
theorem hdX9_chargeOf : (i_y iX9_chargeOf).cls ≠ "java/lang/invoke/MethodHandle" ∧ (i_y iX9_chargeOf).cls ≠ "java/lang/invoke/VarHandle" ∧ (parseMethodDescriptor (i_y iX9_chargeOf).desc).map (fun d => d.parameters.length) = some 2 := by decide +kernel
theorem hhX9_chargeOf : q_head iX9_chargeOf ∈ q_big := by
  rw [q_head_code (y := iX9_chargeOf) rfl]
  exact k7_38
def iX9_grown : q_I := (yX9_grown, cX9_grown, 6, (some .int), RX9, [], 0, 0, 0, 0)
theorem hdX9_grown : (i_y iX9_grown).cls ≠ "java/lang/invoke/MethodHandle" ∧ (i_y iX9_grown).cls ≠ "java/lang/invoke/VarHandle" ∧ (parseMethodDescriptor (i_y iX9_grown).desc).map (fun d => d.parameters.length) = some 2 := by decide +kernel
theorem hhX9_grown : q_head iX9_grown ∈ q_big := by
  rw [q_head_code (y := iX9_grown) rfl]
  exact k7_33
def iX9_capIn : q_I := (yX9_capIn, cX9_capIn, 2, (some .int), RX9, [], 1, 25, 0, 0)
theorem hdX9_capIn : (i_y iX9_capIn).cls ≠ "java/lang/invoke/MethodHandle" ∧ (i_y iX9_capIn).cls ≠ "java/lang/invoke/VarHandle" ∧ (parseMethodDescriptor (i_y iX9_capIn).desc).map (fun d => d.parameters.length) = some 1 := by decide +kernel
theorem hhX9_capIn : q_head iX9_capIn ∈ q_big := by
  rw [q_head_code (y := iX9_capIn) rfl]
  exact k7_25
def iX9_lineIn : q_I := (yX9_lineIn, cX9_lineIn, 2, (some .int), RX9, [], 1, 25, 0, 0)
theorem hdX9_lineIn : (i_y iX9_lineIn).cls ≠ "java/lang/invoke/MethodHandle" ∧ (i_y iX9_lineIn).cls ≠ "java/lang/invoke/VarHandle" ∧ (parseMethodDescriptor (i_y iX9_lineIn).desc).map (fun d => d.parameters.length) = some 1 := by decide +kernel
theorem hhX9_lineIn : q_head iX9_lineIn ∈ q_big := by
  rw [q_head_code (y := iX9_lineIn) rfl]
  exact k7_116
def iX9_roomOf : q_I := (yX9_roomOf, cX9_roomOf, 2, (some .int), RX9, [], 5, 113, 0, 0)
theorem hdX9_roomOf : (i_y iX9_roomOf).cls ≠ "java/lang/invoke/MethodHandle" ∧ (i_y iX9_roomOf).cls ≠ "java/lang/invoke/VarHandle" ∧ (parseMethodDescriptor (i_y iX9_roomOf).desc).map (fun d => d.parameters.length) = some 1 := by decide +kernel
theorem hhX9_roomOf : q_head iX9_roomOf ∈ q_big := by
  rw [q_head_code (y := iX9_roomOf) rfl]
  exact k7_21
def iX9_rosterOf : q_I := (yX9_rosterOf, cX9_rosterOf, 4, (some .int), RX9, [], 1, 22, 0, 0)
theorem hdX9_rosterOf : (i_y iX9_rosterOf).cls ≠ "java/lang/invoke/MethodHandle" ∧ (i_y iX9_rosterOf).cls ≠ "java/lang/invoke/VarHandle" ∧ (parseMethodDescriptor (i_y iX9_rosterOf).desc).map (fun d => d.parameters.length) = some 1 := by decide +kernel
theorem hhX9_rosterOf : q_head iX9_rosterOf ∈ q_big := by
  rw [q_head_code (y := iX9_rosterOf) rfl]
  exact k7_10
def iX9_taxOn : q_I := (yX9_taxOn, cX9_taxOn, 8, (some .long), RX9, [], 1, 21, 0, 0)
theorem hdX9_taxOn : (i_y iX9_taxOn).cls ≠ "java/lang/invoke/MethodHandle" ∧ (i_y iX9_taxOn).cls ≠ "java/lang/invoke/VarHandle" ∧ (parseMethodDescriptor (i_y iX9_taxOn).desc).map (fun d => d.parameters.length) = some 2 := by decide +kernel
theorem hhX9_taxOn : q_head iX9_taxOn ∈ q_big := by
  rw [q_head_code (y := iX9_taxOn) rfl]
  exact k7_150
def iX9_isRepeated : q_I := (yX9_isRepeated, cX9_isRepeated, 4, (some .boolean), RX9, [], 1, 21, 0, 0)
theorem hdX9_isRepeated : (i_y iX9_isRepeated).cls ≠ "java/lang/invoke/MethodHandle" ∧ (i_y iX9_isRepeated).cls ≠ "java/lang/invoke/VarHandle" ∧ (parseMethodDescriptor (i_y iX9_isRepeated).desc).map (fun d => d.parameters.length) = some 2 := by decide +kernel
theorem hhX9_isRepeated : q_head iX9_isRepeated ∈ q_big := by
  rw [q_head_code (y := iX9_isRepeated) rfl]
  exact k7_143
def iX9_aboveLine : q_I := (yX9_aboveLine, cX9_aboveLine, 3, (some .int), RX9, [], 5, 113, 0, 0)
theorem hdX9_aboveLine : (i_y iX9_aboveLine).cls ≠ "java/lang/invoke/MethodHandle" ∧ (i_y iX9_aboveLine).cls ≠ "java/lang/invoke/VarHandle" ∧ (parseMethodDescriptor (i_y iX9_aboveLine).desc).map (fun d => d.parameters.length) = some 2 := by decide +kernel
theorem hhX9_aboveLine : q_head iX9_aboveLine ∈ q_big := by
  rw [q_head_code (y := iX9_aboveLine) rfl]
  exact k7_136
def iX9_taxedOf : q_I := (yX9_taxedOf, cX9_taxedOf, 2, (some .int), RX9, [], 1, 22, 0, 0)
theorem hdX9_taxedOf : (i_y iX9_taxedOf).cls ≠ "java/lang/invoke/MethodHandle" ∧ (i_y iX9_taxedOf).cls ≠ "java/lang/invoke/VarHandle" ∧ (parseMethodDescriptor (i_y iX9_taxedOf).desc).map (fun d => d.parameters.length) = some 1 := by decide +kernel
theorem hhX9_taxedOf : q_head iX9_taxedOf ∈ q_big := by
  rw [q_head_code (y := iX9_taxedOf) rfl]
  exact k7_140
def iX9_taxOf : q_I := (yX9_taxOf, cX9_taxOf, 2, (some .long), RX9, [], 6, 135, 0, 0)
theorem hdX9_taxOf : (i_y iX9_taxOf).cls ≠ "java/lang/invoke/MethodHandle" ∧ (i_y iX9_taxOf).cls ≠ "java/lang/invoke/VarHandle" ∧ (parseMethodDescriptor (i_y iX9_taxOf).desc).map (fun d => d.parameters.length) = some 1 := by decide +kernel
theorem hhX9_taxOf : q_head iX9_taxOf ∈ q_big := by
  rw [q_head_code (y := iX9_taxOf) rfl]
  exact k7_132
def iX9_makeOffer : q_I := (yX9_makeOffer, cX9_makeOffer, 6, (some .int), RX9, [], 3, 62, 0, 0)
theorem hdX9_makeOffer : (i_y iX9_makeOffer).cls ≠ "java/lang/invoke/MethodHandle" ∧ (i_y iX9_makeOffer).cls ≠ "java/lang/invoke/VarHandle" ∧ (parseMethodDescriptor (i_y iX9_makeOffer).desc).map (fun d => d.parameters.length) = some 5 := by decide +kernel
theorem hhX9_makeOffer : q_head iX9_makeOffer ∈ q_big := by
  rw [q_head_code (y := iX9_makeOffer) rfl]
  exact k6_195
def iX9_ofOffer : q_I := (yX9_ofOffer, cX9_ofOffer, 2, (some .int), RX9, [], 0, 0, 0, 0)
theorem hdX9_ofOffer : (i_y iX9_ofOffer).cls ≠ "java/lang/invoke/MethodHandle" ∧ (i_y iX9_ofOffer).cls ≠ "java/lang/invoke/VarHandle" ∧ (parseMethodDescriptor (i_y iX9_ofOffer).desc).map (fun d => d.parameters.length) = some 1 := by decide +kernel
theorem hhX9_ofOffer : q_head iX9_ofOffer ∈ q_big := by
  rw [q_head_code (y := iX9_ofOffer) rfl]
  exact k6_210
def iX9_firstShare : q_I := (yX9_firstShare, cX9_firstShare, 1, (some .int), RX9, [], 1, 22, 0, 0)
theorem hdX9_firstShare : (i_y iX9_firstShare).cls ≠ "java/lang/invoke/MethodHandle" ∧ (i_y iX9_firstShare).cls ≠ "java/lang/invoke/VarHandle" ∧ (parseMethodDescriptor (i_y iX9_firstShare).desc).map (fun d => d.parameters.length) = some 0 := by decide +kernel
theorem hhX9_firstShare : q_head iX9_firstShare ∈ q_big := by
  rw [q_head_code (y := iX9_firstShare) rfl]
  exact k6_214
def iX9_firstCost : q_I := (yX9_firstCost, cX9_firstCost, 1, (some .int), RX9, [], 2, 42, 0, 0)
theorem hdX9_firstCost : (i_y iX9_firstCost).cls ≠ "java/lang/invoke/MethodHandle" ∧ (i_y iX9_firstCost).cls ≠ "java/lang/invoke/VarHandle" ∧ (parseMethodDescriptor (i_y iX9_firstCost).desc).map (fun d => d.parameters.length) = some 0 := by decide +kernel
theorem hhX9_firstCost : q_head iX9_firstCost ∈ q_big := by
  rw [q_head_code (y := iX9_firstCost) rfl]
  exact k6_206
def iX9_isAllowed : q_I := (yX9_isAllowed, cX9_isAllowed, 4, (some .boolean), RX9, [], 6, 134, 0, 0)
theorem hdX9_isAllowed : (i_y iX9_isAllowed).cls ≠ "java/lang/invoke/MethodHandle" ∧ (i_y iX9_isAllowed).cls ≠ "java/lang/invoke/VarHandle" ∧ (parseMethodDescriptor (i_y iX9_isAllowed).desc).map (fun d => d.parameters.length) = some 3 := by decide +kernel
theorem hhX9_isAllowed : q_head iX9_isAllowed ∈ q_big := by
  rw [q_head_code (y := iX9_isAllowed) rfl]
  exact k7_17
def iX9_whyNotSign : q_I := (yX9_whyNotSign, cX9_whyNotSign, 4, (some .int), RX9, [], 7, 157, 0, 0)
theorem hdX9_whyNotSign : (i_y iX9_whyNotSign).cls ≠ "java/lang/invoke/MethodHandle" ∧ (i_y iX9_whyNotSign).cls ≠ "java/lang/invoke/VarHandle" ∧ (parseMethodDescriptor (i_y iX9_whyNotSign).desc).map (fun d => d.parameters.length) = some 3 := by decide +kernel
theorem hhX9_whyNotSign : q_head iX9_whyNotSign ∈ q_big := by
  rw [q_head_code (y := iX9_whyNotSign) rfl]
  exact k6_238
def iX9_isSigning : q_I := (yX9_isSigning, cX9_isSigning, 4, (some .boolean), RX9, [], 2, 46, 0, 0)
theorem hdX9_isSigning : (i_y iX9_isSigning).cls ≠ "java/lang/invoke/MethodHandle" ∧ (i_y iX9_isSigning).cls ≠ "java/lang/invoke/VarHandle" ∧ (parseMethodDescriptor (i_y iX9_isSigning).desc).map (fun d => d.parameters.length) = some 3 := by decide +kernel
theorem hhX9_isSigning : q_head iX9_isSigning ∈ q_big := by
  rw [q_head_code (y := iX9_isSigning) rfl]
  exact k6_225
def iX9_sign : q_I := (yX9_sign, cX9_sign, 6, (some .int), RX9, [], 8, 180, 0, 0)
theorem hdX9_sign : (i_y iX9_sign).cls ≠ "java/lang/invoke/MethodHandle" ∧ (i_y iX9_sign).cls ≠ "java/lang/invoke/VarHandle" ∧ (parseMethodDescriptor (i_y iX9_sign).desc).map (fun d => d.parameters.length) = some 3 := by decide +kernel
theorem hhX9_sign : q_head iX9_sign ∈ q_big := by
  rw [q_head_code (y := iX9_sign) rfl]
  exact k6_221
def iX9_layDead : q_I := (yX9_layDead, cX9_layDead, 8, (some .int), RX9, [], 5, 112, 0, 0)
theorem hdX9_layDead : (i_y iX9_layDead).cls ≠ "java/lang/invoke/MethodHandle" ∧ (i_y iX9_layDead).cls ≠ "java/lang/invoke/VarHandle" ∧ (parseMethodDescriptor (i_y iX9_layDead).desc).map (fun d => d.parameters.length) = some 2 := by decide +kernel
theorem hhX9_layDead : q_head iX9_layDead ∈ q_big := by
  rw [q_head_code (y := iX9_layDead) rfl]
  exact k7_77
def iX9_release : q_I := (yX9_release, cX9_release, 6, (some .int), RX9, [], 6, 139, 0, 0)
theorem hdX9_release : (i_y iX9_release).cls ≠ "java/lang/invoke/MethodHandle" ∧ (i_y iX9_release).cls ≠ "java/lang/invoke/VarHandle" ∧ (parseMethodDescriptor (i_y iX9_release).desc).map (fun d => d.parameters.length) = some 2 := by decide +kernel
theorem hhX9_release : q_head iX9_release ∈ q_big := by
  rw [q_head_code (y := iX9_release) rfl]
  exact k7_73
def iX9_salariesOf : q_I := (yX9_salariesOf, cX9_salariesOf, 4, (some .int), RX9, [], 4, 89, 0, 0)
theorem hdX9_salariesOf : (i_y iX9_salariesOf).cls ≠ "java/lang/invoke/MethodHandle" ∧ (i_y iX9_salariesOf).cls ≠ "java/lang/invoke/VarHandle" ∧ (parseMethodDescriptor (i_y iX9_salariesOf).desc).map (fun d => d.parameters.length) = some 1 := by decide +kernel
theorem hhX9_salariesOf : q_head iX9_salariesOf ∈ q_big := by
  rw [q_head_code (y := iX9_salariesOf) rfl]
  exact k7_101
def iX9_moves : q_I := (yX9_moves, cX9_moves, 5, none, RX9, [], 5, 112, 0, 0)
theorem hdX9_moves : (i_y iX9_moves).cls ≠ "java/lang/invoke/MethodHandle" ∧ (i_y iX9_moves).cls ≠ "java/lang/invoke/VarHandle" ∧ (parseMethodDescriptor (i_y iX9_moves).desc).map (fun d => d.parameters.length) = some 3 := by decide +kernel
theorem hhX9_moves : q_head iX9_moves ∈ q_big := by
  rw [q_head_code (y := iX9_moves) rfl]
  exact k7_108
def iX9_matches : q_I := (yX9_matches, cX9_matches, 7, (some .boolean), RX9, [], 5, 113, 0, 0)
theorem hdX9_matches : (i_y iX9_matches).cls ≠ "java/lang/invoke/MethodHandle" ∧ (i_y iX9_matches).cls ≠ "java/lang/invoke/VarHandle" ∧ (parseMethodDescriptor (i_y iX9_matches).desc).map (fun d => d.parameters.length) = some 4 := by decide +kernel
theorem hhX9_matches : q_head iX9_matches ∈ q_big := by
  rw [q_head_code (y := iX9_matches) rfl]
  exact k7_112
def iX9_isTrade : q_I := (yX9_isTrade, cX9_isTrade, 6, (some .boolean), RX9, [], 2, 46, 0, 0)
theorem hdX9_isTrade : (i_y iX9_isTrade).cls ≠ "java/lang/invoke/MethodHandle" ∧ (i_y iX9_isTrade).cls ≠ "java/lang/invoke/VarHandle" ∧ (parseMethodDescriptor (i_y iX9_isTrade).desc).map (fun d => d.parameters.length) = some 4 := by decide +kernel
theorem hhX9_isTrade : q_head iX9_isTrade ∈ q_big := by
  rw [q_head_code (y := iX9_isTrade) rfl]
  exact k7_89
def iX9_trades : q_I := (yX9_trades, cX9_trades, 11, (some .int), RX9, [], 6, 139, 0, 0)
theorem hdX9_trades : (i_y iX9_trades).cls ≠ "java/lang/invoke/MethodHandle" ∧ (i_y iX9_trades).cls ≠ "java/lang/invoke/VarHandle" ∧ (parseMethodDescriptor (i_y iX9_trades).desc).map (fun d => d.parameters.length) = some 4 := by decide +kernel
theorem hhX9_trades : q_head iX9_trades ∈ q_big := by
  rw [q_head_code (y := iX9_trades) rfl]
  exact k7_97
def iX9_trade : q_I := (yX9_trade, cX9_trade, 7, (some .int), RX9, [], 7, 169, 0, 0)
theorem hdX9_trade : (i_y iX9_trade).cls ≠ "java/lang/invoke/MethodHandle" ∧ (i_y iX9_trade).cls ≠ "java/lang/invoke/VarHandle" ∧ (parseMethodDescriptor (i_y iX9_trade).desc).map (fun d => d.parameters.length) = some 4 := by decide +kernel
theorem hhX9_trade : q_head iX9_trade ∈ q_big := by
  rw [q_head_code (y := iX9_trade) rfl]
  exact k7_85
def iX9_nextYear : q_I := (yX9_nextYear, cX9_nextYear, 6, (some .long), RX9, [], 7, 156, 0, 0)
theorem hdX9_nextYear : (i_y iX9_nextYear).cls ≠ "java/lang/invoke/MethodHandle" ∧ (i_y iX9_nextYear).cls ≠ "java/lang/invoke/VarHandle" ∧ (parseMethodDescriptor (i_y iX9_nextYear).desc).map (fun d => d.parameters.length) = some 0 := by decide +kernel
theorem hhX9_nextYear : q_head iX9_nextYear ∈ q_big := by
  rw [q_head_code (y := iX9_nextYear) rfl]
  exact k7_127
def iX9_year : q_I := (yX9_year, cX9_year, 1, (some .int), RX9, [], 1, 21, 0, 0)
theorem hdX9_year : (i_y iX9_year).cls ≠ "java/lang/invoke/MethodHandle" ∧ (i_y iX9_year).cls ≠ "java/lang/invoke/VarHandle" ∧ (parseMethodDescriptor (i_y iX9_year).desc).map (fun d => d.parameters.length) = some 0 := by decide +kernel
theorem hhX9_year : q_head iX9_year ∈ q_big := by
  rw [q_head_code (y := iX9_year) rfl]
  exact k7_155
def iX9_cap : q_I := (yX9_cap, cX9_cap, 2, (some .int), RX9, [], 2, 46, 0, 0)
theorem hdX9_cap : (i_y iX9_cap).cls ≠ "java/lang/invoke/MethodHandle" ∧ (i_y iX9_cap).cls ≠ "java/lang/invoke/VarHandle" ∧ (parseMethodDescriptor (i_y iX9_cap).desc).map (fun d => d.parameters.length) = some 1 := by decide +kernel
theorem hhX9_cap : q_head iX9_cap ∈ q_big := by
  rw [q_head_code (y := iX9_cap) rfl]
  exact k7_159
def iX9_taxLine : q_I := (yX9_taxLine, cX9_taxLine, 2, (some .int), RX9, [], 2, 46, 0, 0)
theorem hdX9_taxLine : (i_y iX9_taxLine).cls ≠ "java/lang/invoke/MethodHandle" ∧ (i_y iX9_taxLine).cls ≠ "java/lang/invoke/VarHandle" ∧ (parseMethodDescriptor (i_y iX9_taxLine).desc).map (fun d => d.parameters.length) = some 1 := by decide +kernel
theorem hhX9_taxLine : q_head iX9_taxLine ∈ q_big := by
  rw [q_head_code (y := iX9_taxLine) rfl]
  exact k7_167
def iX9_offer : q_I := (yX9_offer, cX9_offer, 2, (some .int), RX9, [], 1, 25, 0, 0)
theorem hdX9_offer : (i_y iX9_offer).cls ≠ "java/lang/invoke/MethodHandle" ∧ (i_y iX9_offer).cls ≠ "java/lang/invoke/VarHandle" ∧ (parseMethodDescriptor (i_y iX9_offer).desc).map (fun d => d.parameters.length) = some 1 := by decide +kernel
theorem hhX9_offer : q_head iX9_offer ∈ q_big := by
  rw [q_head_code (y := iX9_offer) rfl]
  exact k7_171
def iX9_charge : q_I := (yX9_charge, cX9_charge, 3, (some .int), RX9, [], 5, 113, 0, 0)
theorem hdX9_charge : (i_y iX9_charge).cls ≠ "java/lang/invoke/MethodHandle" ∧ (i_y iX9_charge).cls ≠ "java/lang/invoke/VarHandle" ∧ (parseMethodDescriptor (i_y iX9_charge).desc).map (fun d => d.parameters.length) = some 2 := by decide +kernel
theorem hhX9_charge : q_head iX9_charge ∈ q_big := by
  rw [q_head_code (y := iX9_charge) rfl]
  exact k7_176
def iX9_deadMoney : q_I := (yX9_deadMoney, cX9_deadMoney, 3, (some .int), RX9, [], 2, 46, 0, 0)
theorem hdX9_deadMoney : (i_y iX9_deadMoney).cls ≠ "java/lang/invoke/MethodHandle" ∧ (i_y iX9_deadMoney).cls ≠ "java/lang/invoke/VarHandle" ∧ (parseMethodDescriptor (i_y iX9_deadMoney).desc).map (fun d => d.parameters.length) = some 2 := by decide +kernel
theorem hhX9_deadMoney : q_head iX9_deadMoney ∈ q_big := by
  rw [q_head_code (y := iX9_deadMoney) rfl]
  exact k7_180
def iX9_room : q_I := (yX9_room, cX9_room, 2, (some .int), RX9, [], 6, 134, 0, 0)
theorem hdX9_room : (i_y iX9_room).cls ≠ "java/lang/invoke/MethodHandle" ∧ (i_y iX9_room).cls ≠ "java/lang/invoke/VarHandle" ∧ (parseMethodDescriptor (i_y iX9_room).desc).map (fun d => d.parameters.length) = some 1 := by decide +kernel
theorem hhX9_room : q_head iX9_room ∈ q_big := by
  rw [q_head_code (y := iX9_room) rfl]
  exact k7_184
def iX9_tax : q_I := (yX9_tax, cX9_tax, 2, (some .long), RX9, [], 7, 156, 0, 0)
theorem hdX9_tax : (i_y iX9_tax).cls ≠ "java/lang/invoke/MethodHandle" ∧ (i_y iX9_tax).cls ≠ "java/lang/invoke/VarHandle" ∧ (parseMethodDescriptor (i_y iX9_tax).desc).map (fun d => d.parameters.length) = some 1 := by decide +kernel
theorem hhX9_tax : q_head iX9_tax ∈ q_big := by
  rw [q_head_code (y := iX9_tax) rfl]
  exact k7_188
def iX9_paid : q_I := (yX9_paid, cX9_paid, 2, (some .long), RX9, [], 2, 46, 0, 0)
theorem hdX9_paid : (i_y iX9_paid).cls ≠ "java/lang/invoke/MethodHandle" ∧ (i_y iX9_paid).cls ≠ "java/lang/invoke/VarHandle" ∧ (parseMethodDescriptor (i_y iX9_paid).desc).map (fun d => d.parameters.length) = some 1 := by decide +kernel
theorem hhX9_paid : q_head iX9_paid ∈ q_big := by
  rw [q_head_code (y := iX9_paid) rfl]
  exact k7_192
def iX9_taxedYears : q_I := (yX9_taxedYears, cX9_taxedYears, 2, (some .int), RX9, [], 2, 46, 0, 0)
theorem hdX9_taxedYears : (i_y iX9_taxedYears).cls ≠ "java/lang/invoke/MethodHandle" ∧ (i_y iX9_taxedYears).cls ≠ "java/lang/invoke/VarHandle" ∧ (parseMethodDescriptor (i_y iX9_taxedYears).desc).map (fun d => d.parameters.length) = some 1 := by decide +kernel
theorem hhX9_taxedYears : q_head iX9_taxedYears ∈ q_big := by
  rw [q_head_code (y := iX9_taxedYears) rfl]
  exact k7_196
def iX9_midLevel : q_I := (yX9_midLevel, cX9_midLevel, 2, (some .int), RX9, [], 2, 46, 0, 0)
theorem hdX9_midLevel : (i_y iX9_midLevel).cls ≠ "java/lang/invoke/MethodHandle" ∧ (i_y iX9_midLevel).cls ≠ "java/lang/invoke/VarHandle" ∧ (parseMethodDescriptor (i_y iX9_midLevel).desc).map (fun d => d.parameters.length) = some 1 := by decide +kernel
theorem hhX9_midLevel : q_head iX9_midLevel ∈ q_big := by
  rw [q_head_code (y := iX9_midLevel) rfl]
  exact k7_200
def iX9_roster : q_I := (yX9_roster, cX9_roster, 2, (some .int), RX9, [], 2, 46, 0, 0)
theorem hdX9_roster : (i_y iX9_roster).cls ≠ "java/lang/invoke/MethodHandle" ∧ (i_y iX9_roster).cls ≠ "java/lang/invoke/VarHandle" ∧ (parseMethodDescriptor (i_y iX9_roster).desc).map (fun d => d.parameters.length) = some 1 := by decide +kernel
theorem hhX9_roster : q_head iX9_roster ∈ q_big := by
  rw [q_head_code (y := iX9_roster) rfl]
  exact k7_204
def iX9_measure : q_I := (yX9_measure, cX9_measure, 3, (some .long), RX9, [], 7, 156, 0, 0)
theorem hdX9_measure : (i_y iX9_measure).cls ≠ "java/lang/invoke/MethodHandle" ∧ (i_y iX9_measure).cls ≠ "java/lang/invoke/VarHandle" ∧ (parseMethodDescriptor (i_y iX9_measure).desc).map (fun d => d.parameters.length) = some 2 := by decide +kernel
theorem hhX9_measure : q_head iX9_measure ∈ q_big := by
  rw [q_head_code (y := iX9_measure) rfl]
  exact k7_212
def iX9_teamRank : q_I := (yX9_teamRank, cX9_teamRank, 8, (some .int), RX9, [], 8, 178, 0, 0)
theorem hdX9_teamRank : (i_y iX9_teamRank).cls ≠ "java/lang/invoke/MethodHandle" ∧ (i_y iX9_teamRank).cls ≠ "java/lang/invoke/VarHandle" ∧ (parseMethodDescriptor (i_y iX9_teamRank).desc).map (fun d => d.parameters.length) = some 2 := by decide +kernel
theorem hhX9_teamRank : q_head iX9_teamRank ∈ q_big := by
  rw [q_head_code (y := iX9_teamRank) rfl]
  exact k7_208
def iX9_playerValue : q_I := (yX9_playerValue, cX9_playerValue, 4, (some .int), RX9, [], 5, 112, 0, 0)
theorem hdX9_playerValue : (i_y iX9_playerValue).cls ≠ "java/lang/invoke/MethodHandle" ∧ (i_y iX9_playerValue).cls ≠ "java/lang/invoke/VarHandle" ∧ (parseMethodDescriptor (i_y iX9_playerValue).desc).map (fun d => d.parameters.length) = some 2 := by decide +kernel
theorem hhX9_playerValue : q_head iX9_playerValue ∈ q_big := by
  rw [q_head_code (y := iX9_playerValue) rfl]
  exact k7_216
def iX9_salary : q_I := (yX9_salary, cX9_salary, 3, (some .int), RX9, [], 4, 89, 0, 0)
theorem hdX9_salary : (i_y iX9_salary).cls ≠ "java/lang/invoke/MethodHandle" ∧ (i_y iX9_salary).cls ≠ "java/lang/invoke/VarHandle" ∧ (parseMethodDescriptor (i_y iX9_salary).desc).map (fun d => d.parameters.length) = some 2 := by decide +kernel
theorem hhX9_salary : q_head iX9_salary ∈ q_big := by
  rw [q_head_code (y := iX9_salary) rfl]
  exact k7_221
def iX9_share : q_I := (yX9_share, cX9_share, 3, (some .int), RX9, [], 4, 89, 0, 0)
theorem hdX9_share : (i_y iX9_share).cls ≠ "java/lang/invoke/MethodHandle" ∧ (i_y iX9_share).cls ≠ "java/lang/invoke/VarHandle" ∧ (parseMethodDescriptor (i_y iX9_share).desc).map (fun d => d.parameters.length) = some 2 := by decide +kernel
theorem hhX9_share : q_head iX9_share ∈ q_big := by
  rw [q_head_code (y := iX9_share) rfl]
  exact k7_225
def iX9_costNow : q_I := (yX9_costNow, cX9_costNow, 2, (some .int), RX9, [], 4, 89, 0, 0)
theorem hdX9_costNow : (i_y iX9_costNow).cls ≠ "java/lang/invoke/MethodHandle" ∧ (i_y iX9_costNow).cls ≠ "java/lang/invoke/VarHandle" ∧ (parseMethodDescriptor (i_y iX9_costNow).desc).map (fun d => d.parameters.length) = some 1 := by decide +kernel
theorem hhX9_costNow : q_head iX9_costNow ∈ q_big := by
  rw [q_head_code (y := iX9_costNow) rfl]
  exact k7_233
def iX9_playerRank : q_I := (yX9_playerRank, cX9_playerRank, 6, (some .int), RX9, [], 5, 110, 0, 0)
theorem hdX9_playerRank : (i_y iX9_playerRank).cls ≠ "java/lang/invoke/MethodHandle" ∧ (i_y iX9_playerRank).cls ≠ "java/lang/invoke/VarHandle" ∧ (parseMethodDescriptor (i_y iX9_playerRank).desc).map (fun d => d.parameters.length) = some 1 := by decide +kernel
theorem hhX9_playerRank : q_head iX9_playerRank ∈ q_big := by
  rw [q_head_code (y := iX9_playerRank) rfl]
  exact k7_229
def iX9_meanSalary : q_I := (yX9_meanSalary, cX9_meanSalary, 3, (some .double), RX9, [], 5, 112, 0, 0)
theorem hdX9_meanSalary : (i_y iX9_meanSalary).cls ≠ "java/lang/invoke/MethodHandle" ∧ (i_y iX9_meanSalary).cls ≠ "java/lang/invoke/VarHandle" ∧ (parseMethodDescriptor (i_y iX9_meanSalary).desc).map (fun d => d.parameters.length) = some 1 := by decide +kernel
theorem hhX9_meanSalary : q_head iX9_meanSalary ∈ q_big := by
  rw [q_head_code (y := iX9_meanSalary) rfl]
  exact k7_237
def iX9_signCode : q_I := (yX9_signCode, cX9_signCode, 4, (some .int), RX9, [], 8, 180, 0, 0)
theorem hdX9_signCode : (i_y iX9_signCode).cls ≠ "java/lang/invoke/MethodHandle" ∧ (i_y iX9_signCode).cls ≠ "java/lang/invoke/VarHandle" ∧ (parseMethodDescriptor (i_y iX9_signCode).desc).map (fun d => d.parameters.length) = some 3 := by decide +kernel
theorem hhX9_signCode : q_head iX9_signCode ∈ q_big := by
  rw [q_head_code (y := iX9_signCode) rfl]
  exact k8_1
def iX9_bestRule : q_I := (yX9_bestRule, cX9_bestRule, 4, (some .int), RX9, [], 8, 180, 0, 0)
theorem hdX9_bestRule : (i_y iX9_bestRule).cls ≠ "java/lang/invoke/MethodHandle" ∧ (i_y iX9_bestRule).cls ≠ "java/lang/invoke/VarHandle" ∧ (parseMethodDescriptor (i_y iX9_bestRule).desc).map (fun d => d.parameters.length) = some 2 := by decide +kernel
theorem hhX9_bestRule : q_head iX9_bestRule ∈ q_big := by
  rw [q_head_code (y := iX9_bestRule) rfl]
  exact k8_5
def iX9_greatestBase : q_I := (yX9_greatestBase, cX9_greatestBase, 9, (some .int), RX9, [], 7, 157, 0, 0)
theorem hdX9_greatestBase : (i_y iX9_greatestBase).cls ≠ "java/lang/invoke/MethodHandle" ∧ (i_y iX9_greatestBase).cls ≠ "java/lang/invoke/VarHandle" ∧ (parseMethodDescriptor (i_y iX9_greatestBase).desc).map (fun d => d.parameters.length) = some 3 := by decide +kernel
theorem hhX9_greatestBase : q_head iX9_greatestBase ∈ q_big := by
  rw [q_head_code (y := iX9_greatestBase) rfl]
  exact k8_9
def iX9_releaseCost : q_I := (yX9_releaseCost, cX9_releaseCost, 5, (some .int), RX9, [], 6, 139, 0, 0)
theorem hdX9_releaseCost : (i_y iX9_releaseCost).cls ≠ "java/lang/invoke/MethodHandle" ∧ (i_y iX9_releaseCost).cls ≠ "java/lang/invoke/VarHandle" ∧ (parseMethodDescriptor (i_y iX9_releaseCost).desc).map (fun d => d.parameters.length) = some 3 := by decide +kernel
theorem hhX9_releaseCost : q_head iX9_releaseCost ∈ q_big := by
  rw [q_head_code (y := iX9_releaseCost) rfl]
  exact k8_14
def iX9_gainOf : q_I := (yX9_gainOf, cX9_gainOf, 4, (some .int), RX9, [], 6, 139, 0, 0)
theorem hdX9_gainOf : (i_y iX9_gainOf).cls ≠ "java/lang/invoke/MethodHandle" ∧ (i_y iX9_gainOf).cls ≠ "java/lang/invoke/VarHandle" ∧ (parseMethodDescriptor (i_y iX9_gainOf).desc).map (fun d => d.parameters.length) = some 2 := by decide +kernel
theorem hhX9_gainOf : q_head iX9_gainOf ∈ q_big := by
  rw [q_head_code (y := iX9_gainOf) rfl]
  exact k8_22
def iX9_releaseGain : q_I := (yX9_releaseGain, cX9_releaseGain, 3, (some .int), RX9, [], 7, 162, 0, 0)
theorem hdX9_releaseGain : (i_y iX9_releaseGain).cls ≠ "java/lang/invoke/MethodHandle" ∧ (i_y iX9_releaseGain).cls ≠ "java/lang/invoke/VarHandle" ∧ (parseMethodDescriptor (i_y iX9_releaseGain).desc).map (fun d => d.parameters.length) = some 2 := by decide +kernel
theorem hhX9_releaseGain : q_head iX9_releaseGain ∈ q_big := by
  rw [q_head_code (y := iX9_releaseGain) rfl]
  exact k8_18
def iX9_bestReleases : q_I := (yX9_bestReleases, cX9_bestReleases, 13, (some .int), RX9, [], 7, 162, 0, 0)
theorem hdX9_bestReleases : (i_y iX9_bestReleases).cls ≠ "java/lang/invoke/MethodHandle" ∧ (i_y iX9_bestReleases).cls ≠ "java/lang/invoke/VarHandle" ∧ (parseMethodDescriptor (i_y iX9_bestReleases).desc).map (fun d => d.parameters.length) = some 1 := by decide +kernel
theorem hhX9_bestReleases : q_head iX9_bestReleases ∈ q_big := by
  rw [q_head_code (y := iX9_bestReleases) rfl]
  exact k8_30
def iX9_fewestReleases : q_I := (yX9_fewestReleases, cX9_fewestReleases, 3, (some .int), RX9, [], 8, 194, 0, 0)
theorem hdX9_fewestReleases : (i_y iX9_fewestReleases).cls ≠ "java/lang/invoke/MethodHandle" ∧ (i_y iX9_fewestReleases).cls ≠ "java/lang/invoke/VarHandle" ∧ (parseMethodDescriptor (i_y iX9_fewestReleases).desc).map (fun d => d.parameters.length) = some 1 := by decide +kernel
theorem hhX9_fewestReleases : q_head iX9_fewestReleases ∈ q_big := by
  rw [q_head_code (y := iX9_fewestReleases) rfl]
  exact k8_26
def iX9_releaseSet : q_I := (yX9_releaseSet, cX9_releaseSet, 3, (some .int), RX9, [], 8, 194, 0, 0)
theorem hdX9_releaseSet : (i_y iX9_releaseSet).cls ≠ "java/lang/invoke/MethodHandle" ∧ (i_y iX9_releaseSet).cls ≠ "java/lang/invoke/VarHandle" ∧ (parseMethodDescriptor (i_y iX9_releaseSet).desc).map (fun d => d.parameters.length) = some 1 := by decide +kernel
theorem hhX9_releaseSet : q_head iX9_releaseSet ∈ q_big := by
  rw [q_head_code (y := iX9_releaseSet) rfl]
  exact k8_34
def iX9_tradeCode : q_I := (yX9_tradeCode, cX9_tradeCode, 6, (some .int), RX9, [], 7, 169, 0, 0)
theorem hdX9_tradeCode : (i_y iX9_tradeCode).cls ≠ "java/lang/invoke/MethodHandle" ∧ (i_y iX9_tradeCode).cls ≠ "java/lang/invoke/VarHandle" ∧ (parseMethodDescriptor (i_y iX9_tradeCode).desc).map (fun d => d.parameters.length) = some 4 := by decide +kernel
theorem hhX9_tradeCode : q_head iX9_tradeCode ∈ q_big := by
  rw [q_head_code (y := iX9_tradeCode) rfl]
  exact k8_38
def iX9_trySwaps : q_I := (yX9_trySwaps, cX9_trySwaps, 12, none, RX9, [], 7, 169, 0, 0)
theorem hdX9_trySwaps : (i_y iX9_trySwaps).cls ≠ "java/lang/invoke/MethodHandle" ∧ (i_y iX9_trySwaps).cls ≠ "java/lang/invoke/VarHandle" ∧ (parseMethodDescriptor (i_y iX9_trySwaps).desc).map (fun d => d.parameters.length) = some 2 := by decide +kernel
theorem hhX9_trySwaps : q_head iX9_trySwaps ∈ q_big := by
  rw [q_head_code (y := iX9_trySwaps) rfl]
  exact k8_50
def iX9_areTwo : q_I := (yX9_areTwo, cX9_areTwo, 3, (some .boolean), RX9, [], 2, 46, 0, 0)
theorem hdX9_areTwo : (i_y iX9_areTwo).cls ≠ "java/lang/invoke/MethodHandle" ∧ (i_y iX9_areTwo).cls ≠ "java/lang/invoke/VarHandle" ∧ (parseMethodDescriptor (i_y iX9_areTwo).desc).map (fun d => d.parameters.length) = some 2 := by decide +kernel
theorem hhX9_areTwo : q_head iX9_areTwo ∈ q_big := by
  rw [q_head_code (y := iX9_areTwo) rfl]
  exact k8_46
def iX9_swapCount : q_I := (yX9_swapCount, cX9_swapCount, 3, (some .int), RX9, [], 8, 200, 0, 0)
theorem hdX9_swapCount : (i_y iX9_swapCount).cls ≠ "java/lang/invoke/MethodHandle" ∧ (i_y iX9_swapCount).cls ≠ "java/lang/invoke/VarHandle" ∧ (parseMethodDescriptor (i_y iX9_swapCount).desc).map (fun d => d.parameters.length) = some 2 := by decide +kernel
theorem hhX9_swapCount : q_head iX9_swapCount ∈ q_big := by
  rw [q_head_code (y := iX9_swapCount) rfl]
  exact k8_42
def iX9_bestSwap : q_I := (yX9_bestSwap, cX9_bestSwap, 3, (some .int), RX9, [], 8, 200, 0, 0)
theorem hdX9_bestSwap : (i_y iX9_bestSwap).cls ≠ "java/lang/invoke/MethodHandle" ∧ (i_y iX9_bestSwap).cls ≠ "java/lang/invoke/VarHandle" ∧ (parseMethodDescriptor (i_y iX9_bestSwap).desc).map (fun d => d.parameters.length) = some 2 := by decide +kernel
theorem hhX9_bestSwap : q_head iX9_bestSwap ∈ q_big := by
  rw [q_head_code (y := iX9_bestSwap) rfl]
  exact k8_54
def iX9_taxAhead : q_I := (yX9_taxAhead, cX9_taxAhead, 8, (some .long), RX9, [], 6, 135, 0, 0)
theorem hdX9_taxAhead : (i_y iX9_taxAhead).cls ≠ "java/lang/invoke/MethodHandle" ∧ (i_y iX9_taxAhead).cls ≠ "java/lang/invoke/VarHandle" ∧ (parseMethodDescriptor (i_y iX9_taxAhead).desc).map (fun d => d.parameters.length) = some 2 := by decide +kernel
theorem hhX9_taxAhead : q_head iX9_taxAhead ∈ q_big := by
  rw [q_head_code (y := iX9_taxAhead) rfl]
  exact k8_58
def iJ6_bitCount_0f7a4 : q_I := (yJ6_bitCount_0f7a4, cJ6_bitCount_0f7a4, 1, (some .int), RJ6, [], 0, 0, 0, 0)
theorem hdJ6_bitCount_0f7a4 : (i_y iJ6_bitCount_0f7a4).cls ≠ "java/lang/invoke/MethodHandle" ∧ (i_y iJ6_bitCount_0f7a4).cls ≠ "java/lang/invoke/VarHandle" ∧ (parseMethodDescriptor (i_y iJ6_bitCount_0f7a4).desc).map (fun d => d.parameters.length) = some 1 := by decide +kernel
theorem hhJ6_bitCount_0f7a4 : q_head iJ6_bitCount_0f7a4 ∈ q_big := by
  rw [q_head_code (y := iJ6_bitCount_0f7a4) rfl]
  exact k2_225
def iJ0_length_8abf5 : q_I := (yJ0_length_8abf5, cJ0_length_8abf5, 1, (some .int), RJ0, [], 1, 20, 0, 0)
theorem hdJ0_length_8abf5 : (i_y iJ0_length_8abf5).cls ≠ "java/lang/invoke/MethodHandle" ∧ (i_y iJ0_length_8abf5).cls ≠ "java/lang/invoke/VarHandle" ∧ (parseMethodDescriptor (i_y iJ0_length_8abf5).desc).map (fun d => d.parameters.length) = some 0 := by decide +kernel
theorem hhJ0_length_8abf5 : q_head iJ0_length_8abf5 ∈ q_big := by
  rw [q_head_code (y := iJ0_length_8abf5) rfl]
  exact k2_131
def iJ0_charAt_5068e : q_I := (yJ0_charAt_5068e, cJ0_charAt_5068e, 2, (some .char), RJ0, [], 3, 64, 0, 0)
theorem hdJ0_charAt_5068e : (i_y iJ0_charAt_5068e).cls ≠ "java/lang/invoke/MethodHandle" ∧ (i_y iJ0_charAt_5068e).cls ≠ "java/lang/invoke/VarHandle" ∧ (parseMethodDescriptor (i_y iJ0_charAt_5068e).desc).map (fun d => d.parameters.length) = some 1 := by decide +kernel
theorem hhJ0_charAt_5068e : q_head iJ0_charAt_5068e ∈ q_big := by
  rw [q_head_code (y := iJ0_charAt_5068e) rfl]
  exact k2_141
def iJ0_coder_7d493 : q_I := (yJ0_coder_7d493, cJ0_coder_7d493, 1, (some .byte), RJ0, [], 0, 0, 0, 0)
theorem hdJ0_coder_7d493 : (i_y iJ0_coder_7d493).cls ≠ "java/lang/invoke/MethodHandle" ∧ (i_y iJ0_coder_7d493).cls ≠ "java/lang/invoke/VarHandle" ∧ (parseMethodDescriptor (i_y iJ0_coder_7d493).desc).map (fun d => d.parameters.length) = some 0 := by decide +kernel
theorem hhJ0_coder_7d493 : q_head iJ0_coder_7d493 ∈ q_big := by
  rw [q_head_code (y := iJ0_coder_7d493) rfl]
  exact k2_135
def iJ0_isLatin1_aae02 : q_I := (yJ0_isLatin1_aae02, cJ0_isLatin1_aae02, 1, (some .boolean), RJ0, [], 0, 0, 0, 0)
theorem hdJ0_isLatin1_aae02 : (i_y iJ0_isLatin1_aae02).cls ≠ "java/lang/invoke/MethodHandle" ∧ (i_y iJ0_isLatin1_aae02).cls ≠ "java/lang/invoke/VarHandle" ∧ (parseMethodDescriptor (i_y iJ0_isLatin1_aae02).desc).map (fun d => d.parameters.length) = some 0 := by decide +kernel
theorem hhJ0_isLatin1_aae02 : q_head iJ0_isLatin1_aae02 ∈ q_big := by
  rw [q_head_code (y := iJ0_isLatin1_aae02) rfl]
  exact k2_145
def iJ0_checkIndex_df160 : q_I := (yJ0_checkIndex_df160, cJ0_checkIndex_df160, 2, none, RJ0, [], 1, 22, 0, 0)
theorem hdJ0_checkIndex_df160 : (i_y iJ0_checkIndex_df160).cls ≠ "java/lang/invoke/MethodHandle" ∧ (i_y iJ0_checkIndex_df160).cls ≠ "java/lang/invoke/VarHandle" ∧ (parseMethodDescriptor (i_y iJ0_checkIndex_df160).desc).map (fun d => d.parameters.length) = some 2 := by decide +kernel
theorem hhJ0_checkIndex_df160 : q_head iJ0_checkIndex_df160 ∈ q_big := by
  rw [q_head_code (y := iJ0_checkIndex_df160) rfl]
  exact k2_151
def iJ1_charAt_3b067 : q_I := (yJ1_charAt_3b067, cJ1_charAt_3b067, 2, (some .char), RJ1, [], 2, 43, 0, 0)
theorem hdJ1_charAt_3b067 : (i_y iJ1_charAt_3b067).cls ≠ "java/lang/invoke/MethodHandle" ∧ (i_y iJ1_charAt_3b067).cls ≠ "java/lang/invoke/VarHandle" ∧ (parseMethodDescriptor (i_y iJ1_charAt_3b067).desc).map (fun d => d.parameters.length) = some 2 := by decide +kernel
theorem hhJ1_charAt_3b067 : q_head iJ1_charAt_3b067 ∈ q_big := by
  rw [q_head_code (y := iJ1_charAt_3b067) rfl]
  exact k2_148
def iJ3_checkIndex_8e157 : q_I := (yJ3_checkIndex_8e157, cJ3_checkIndex_8e157, 3, (some .int), RJ3, [], 0, 0, 0, 0)
theorem hdJ3_checkIndex_8e157 : (i_y iJ3_checkIndex_8e157).cls ≠ "java/lang/invoke/MethodHandle" ∧ (i_y iJ3_checkIndex_8e157).cls ≠ "java/lang/invoke/VarHandle" ∧ (parseMethodDescriptor (i_y iJ3_checkIndex_8e157).desc).map (fun d => d.parameters.length) = some 3 := by decide +kernel
theorem hhJ3_checkIndex_8e157 : q_head iJ3_checkIndex_8e157 ∈ q_big := by
  rw [q_head_code (y := iJ3_checkIndex_8e157) rfl]
  exact k2_156
def iL_append : q_I := (yL_append, cL_append, 8, (some .int), RL, [(0, 16, 19, 13)], 7, 115, 1, 6)
theorem hdL_append : (i_y iL_append).cls ≠ "java/lang/invoke/MethodHandle" ∧ (i_y iL_append).cls ≠ "java/lang/invoke/VarHandle" ∧ (parseMethodDescriptor (i_y iL_append).desc).map (fun d => d.parameters.length) = some 7 := by decide +kernel
theorem hhL_append : q_head iL_append ∈ q_big := by
  rw [q_head_with (y := iL_append) (by decide)]
  exact k3_18
def iL_truncate : q_I := (yL_truncate, cL_truncate, 4, (some .int), RL, [(0, 9, 12, 19)], 8, 133, 1, 6)
theorem hdL_truncate : (i_y iL_truncate).cls ≠ "java/lang/invoke/MethodHandle" ∧ (i_y iL_truncate).cls ≠ "java/lang/invoke/VarHandle" ∧ (parseMethodDescriptor (i_y iL_truncate).desc).map (fun d => d.parameters.length) = some 3 := by decide +kernel
theorem hhL_truncate : q_head iL_truncate ∈ q_big := by
  rw [q_head_with (y := iL_truncate) (by decide)]
  exact k3_98
def iL_makeOffer : q_I := (yL_makeOffer, cL_makeOffer, 8, (some .int), RL, [(0, 16, 19, 13), (0, 16, 23, 19)], 8, 137, 6, 36)
theorem hdL_makeOffer : (i_y iL_makeOffer).cls ≠ "java/lang/invoke/MethodHandle" ∧ (i_y iL_makeOffer).cls ≠ "java/lang/invoke/VarHandle" ∧ (parseMethodDescriptor (i_y iL_makeOffer).desc).map (fun d => d.parameters.length) = some 7 := by decide +kernel
theorem hhL_makeOffer : q_head iL_makeOffer ∈ q_big := by
  rw [q_head_with (y := iL_makeOffer) (by decide)]
  exact k3_125
def iL_sign : q_I := (yL_sign, cL_sign, 6, (some .int), RL, [(0, 12, 15, 13), (0, 12, 19, 19)], 9, 160, 4, 24)
theorem hdL_sign : (i_y iL_sign).cls ≠ "java/lang/invoke/MethodHandle" ∧ (i_y iL_sign).cls ≠ "java/lang/invoke/VarHandle" ∧ (parseMethodDescriptor (i_y iL_sign).desc).map (fun d => d.parameters.length) = some 5 := by decide +kernel
theorem hhL_sign : q_head iL_sign ∈ q_big := by
  rw [q_head_with (y := iL_sign) (by decide)]
  exact k3_168
def iL_release : q_I := (yL_release, cL_release, 5, (some .int), RL, [(0, 10, 13, 13), (0, 10, 17, 19)], 9, 155, 2, 12)
theorem hdL_release : (i_y iL_release).cls ≠ "java/lang/invoke/MethodHandle" ∧ (i_y iL_release).cls ≠ "java/lang/invoke/VarHandle" ∧ (parseMethodDescriptor (i_y iL_release).desc).map (fun d => d.parameters.length) = some 4 := by decide +kernel
theorem hhL_release : q_head iL_release ∈ q_big := by
  rw [q_head_with (y := iL_release) (by decide)]
  exact k3_227
def iL_trade : q_I := (yL_trade, cL_trade, 7, (some .int), RL, [(0, 14, 17, 13), (0, 14, 21, 19)], 11, 204, 6, 36)
theorem hdL_trade : (i_y iL_trade).cls ≠ "java/lang/invoke/MethodHandle" ∧ (i_y iL_trade).cls ≠ "java/lang/invoke/VarHandle" ∧ (parseMethodDescriptor (i_y iL_trade).desc).map (fun d => d.parameters.length) = some 6 := by decide +kernel
theorem hhL_trade : q_head iL_trade ∈ q_big := by
  rw [q_head_with (y := iL_trade) (by decide)]
  exact k4_25
def iL_nextYear : q_I := (yL_nextYear, cL_nextYear, 3, (some .int), RL, [(0, 7, 10, 13)], 8, 144, 1, 6)
theorem hdL_nextYear : (i_y iL_nextYear).cls ≠ "java/lang/invoke/MethodHandle" ∧ (i_y iL_nextYear).cls ≠ "java/lang/invoke/VarHandle" ∧ (parseMethodDescriptor (i_y iL_nextYear).desc).map (fun d => d.parameters.length) = some 2 := by decide +kernel
theorem hhL_nextYear : q_head iL_nextYear ∈ q_big := by
  rw [q_head_with (y := iL_nextYear) (by decide)]
  exact k4_77
def iL_year : q_I := (yL_year, cL_year, 3, (some .int), RL, [(0, 8, 11, 13)], 8, 130, 1, 6)
theorem hdL_year : (i_y iL_year).cls ≠ "java/lang/invoke/MethodHandle" ∧ (i_y iL_year).cls ≠ "java/lang/invoke/VarHandle" ∧ (parseMethodDescriptor (i_y iL_year).desc).map (fun d => d.parameters.length) = some 2 := by decide +kernel
theorem hhL_year : q_head iL_year ∈ q_big := by
  rw [q_head_with (y := iL_year) (by decide)]
  exact k4_121
def iL_cap : q_I := (yL_cap, cL_cap, 4, (some .int), RL, [(0, 9, 12, 13), (0, 9, 15, 19)], 8, 133, 2, 12)
theorem hdL_cap : (i_y iL_cap).cls ≠ "java/lang/invoke/MethodHandle" ∧ (i_y iL_cap).cls ≠ "java/lang/invoke/VarHandle" ∧ (parseMethodDescriptor (i_y iL_cap).desc).map (fun d => d.parameters.length) = some 3 := by decide +kernel
theorem hhL_cap : q_head iL_cap ∈ q_big := by
  rw [q_head_with (y := iL_cap) (by decide)]
  exact k4_128
def iL_taxLine : q_I := (yL_taxLine, cL_taxLine, 4, (some .int), RL, [(0, 9, 12, 13), (0, 9, 15, 19)], 8, 133, 2, 12)
theorem hdL_taxLine : (i_y iL_taxLine).cls ≠ "java/lang/invoke/MethodHandle" ∧ (i_y iL_taxLine).cls ≠ "java/lang/invoke/VarHandle" ∧ (parseMethodDescriptor (i_y iL_taxLine).desc).map (fun d => d.parameters.length) = some 3 := by decide +kernel
theorem hhL_taxLine : q_head iL_taxLine ∈ q_big := by
  rw [q_head_with (y := iL_taxLine) (by decide)]
  exact k4_135
def iL_offer : q_I := (yL_offer, cL_offer, 4, (some .int), RL, [(0, 9, 12, 13), (0, 9, 15, 19)], 8, 133, 2, 12)
theorem hdL_offer : (i_y iL_offer).cls ≠ "java/lang/invoke/MethodHandle" ∧ (i_y iL_offer).cls ≠ "java/lang/invoke/VarHandle" ∧ (parseMethodDescriptor (i_y iL_offer).desc).map (fun d => d.parameters.length) = some 3 := by decide +kernel
theorem hhL_offer : q_head iL_offer ∈ q_big := by
  rw [q_head_with (y := iL_offer) (by decide)]
  exact k4_142
def iL_charge : q_I := (yL_charge, cL_charge, 5, (some .int), RL, [(0, 10, 13, 13), (0, 10, 17, 19)], 9, 155, 3, 18)
theorem hdL_charge : (i_y iL_charge).cls ≠ "java/lang/invoke/MethodHandle" ∧ (i_y iL_charge).cls ≠ "java/lang/invoke/VarHandle" ∧ (parseMethodDescriptor (i_y iL_charge).desc).map (fun d => d.parameters.length) = some 4 := by decide +kernel
theorem hhL_charge : q_head iL_charge ∈ q_big := by
  rw [q_head_with (y := iL_charge) (by decide)]
  exact k4_149
def iL_deadMoney : q_I := (yL_deadMoney, cL_deadMoney, 5, (some .int), RL, [(0, 10, 13, 13), (0, 10, 17, 19)], 9, 155, 3, 18)
theorem hdL_deadMoney : (i_y iL_deadMoney).cls ≠ "java/lang/invoke/MethodHandle" ∧ (i_y iL_deadMoney).cls ≠ "java/lang/invoke/VarHandle" ∧ (parseMethodDescriptor (i_y iL_deadMoney).desc).map (fun d => d.parameters.length) = some 4 := by decide +kernel
theorem hhL_deadMoney : q_head iL_deadMoney ∈ q_big := by
  rw [q_head_with (y := iL_deadMoney) (by decide)]
  exact k4_156
def iL_room : q_I := (yL_room, cL_room, 4, (some .int), RL, [(0, 9, 12, 13), (0, 9, 15, 19)], 9, 154, 2, 12)
theorem hdL_room : (i_y iL_room).cls ≠ "java/lang/invoke/MethodHandle" ∧ (i_y iL_room).cls ≠ "java/lang/invoke/VarHandle" ∧ (parseMethodDescriptor (i_y iL_room).desc).map (fun d => d.parameters.length) = some 3 := by decide +kernel
theorem hhL_room : q_head iL_room ∈ q_big := by
  rw [q_head_with (y := iL_room) (by decide)]
  exact k4_164
def iL_tax : q_I := (yL_tax, cL_tax, 4, (some .int), RL, [(0, 8, 11, 13), (0, 8, 14, 19)], 9, 154, 2, 12)
theorem hdL_tax : (i_y iL_tax).cls ≠ "java/lang/invoke/MethodHandle" ∧ (i_y iL_tax).cls ≠ "java/lang/invoke/VarHandle" ∧ (parseMethodDescriptor (i_y iL_tax).desc).map (fun d => d.parameters.length) = some 3 := by decide +kernel
theorem hhL_tax : q_head iL_tax ∈ q_big := by
  rw [q_head_with (y := iL_tax) (by decide)]
  exact k4_171
def iL_paid : q_I := (yL_paid, cL_paid, 4, (some .int), RL, [(0, 8, 11, 13), (0, 8, 14, 19)], 9, 154, 2, 12)
theorem hdL_paid : (i_y iL_paid).cls ≠ "java/lang/invoke/MethodHandle" ∧ (i_y iL_paid).cls ≠ "java/lang/invoke/VarHandle" ∧ (parseMethodDescriptor (i_y iL_paid).desc).map (fun d => d.parameters.length) = some 3 := by decide +kernel
theorem hhL_paid : q_head iL_paid ∈ q_big := by
  rw [q_head_with (y := iL_paid) (by decide)]
  exact k4_178
def iL_taxedYears : q_I := (yL_taxedYears, cL_taxedYears, 4, (some .int), RL, [(0, 9, 12, 13), (0, 9, 15, 19)], 9, 154, 2, 12)
theorem hdL_taxedYears : (i_y iL_taxedYears).cls ≠ "java/lang/invoke/MethodHandle" ∧ (i_y iL_taxedYears).cls ≠ "java/lang/invoke/VarHandle" ∧ (parseMethodDescriptor (i_y iL_taxedYears).desc).map (fun d => d.parameters.length) = some 3 := by decide +kernel
theorem hhL_taxedYears : q_head iL_taxedYears ∈ q_big := by
  rw [q_head_with (y := iL_taxedYears) (by decide)]
  exact k4_185
def iL_midLevel : q_I := (yL_midLevel, cL_midLevel, 4, (some .int), RL, [(0, 9, 12, 13), (0, 9, 15, 19)], 9, 154, 2, 12)
theorem hdL_midLevel : (i_y iL_midLevel).cls ≠ "java/lang/invoke/MethodHandle" ∧ (i_y iL_midLevel).cls ≠ "java/lang/invoke/VarHandle" ∧ (parseMethodDescriptor (i_y iL_midLevel).desc).map (fun d => d.parameters.length) = some 3 := by decide +kernel
theorem hhL_midLevel : q_head iL_midLevel ∈ q_big := by
  rw [q_head_with (y := iL_midLevel) (by decide)]
  exact k4_192
def iL_roster : q_I := (yL_roster, cL_roster, 4, (some .int), RL, [(0, 9, 12, 13), (0, 9, 15, 19)], 9, 154, 2, 12)
theorem hdL_roster : (i_y iL_roster).cls ≠ "java/lang/invoke/MethodHandle" ∧ (i_y iL_roster).cls ≠ "java/lang/invoke/VarHandle" ∧ (parseMethodDescriptor (i_y iL_roster).desc).map (fun d => d.parameters.length) = some 3 := by decide +kernel
theorem hhL_roster : q_head iL_roster ∈ q_big := by
  rw [q_head_with (y := iL_roster) (by decide)]
  exact k4_199
def iL_teamRank : q_I := (yL_teamRank, cL_teamRank, 5, (some .int), RL, [(0, 10, 13, 13), (0, 10, 17, 19), (0, 10, 21, 82)], 8, 170, 4, 24)
theorem hdL_teamRank : (i_y iL_teamRank).cls ≠ "java/lang/invoke/MethodHandle" ∧ (i_y iL_teamRank).cls ≠ "java/lang/invoke/VarHandle" ∧ (parseMethodDescriptor (i_y iL_teamRank).desc).map (fun d => d.parameters.length) = some 4 := by decide +kernel
theorem hhL_teamRank : q_head iL_teamRank ∈ q_big := by
  rw [q_head_with (y := iL_teamRank) (by decide)]
  exact k4_206
def iL_playerValue : q_I := (yL_playerValue, cL_playerValue, 5, (some .int), RL, [(0, 10, 13, 13), (0, 10, 17, 19)], 9, 156, 3, 18)
theorem hdL_playerValue : (i_y iL_playerValue).cls ≠ "java/lang/invoke/MethodHandle" ∧ (i_y iL_playerValue).cls ≠ "java/lang/invoke/VarHandle" ∧ (parseMethodDescriptor (i_y iL_playerValue).desc).map (fun d => d.parameters.length) = some 4 := by decide +kernel
theorem hhL_playerValue : q_head iL_playerValue ∈ q_big := by
  rw [q_head_with (y := iL_playerValue) (by decide)]
  exact k5_2
def iL_salary : q_I := (yL_salary, cL_salary, 5, (some .int), RL, [(0, 10, 13, 13), (0, 10, 17, 19)], 9, 155, 3, 18)
theorem hdL_salary : (i_y iL_salary).cls ≠ "java/lang/invoke/MethodHandle" ∧ (i_y iL_salary).cls ≠ "java/lang/invoke/VarHandle" ∧ (parseMethodDescriptor (i_y iL_salary).desc).map (fun d => d.parameters.length) = some 4 := by decide +kernel
theorem hhL_salary : q_head iL_salary ∈ q_big := by
  rw [q_head_with (y := iL_salary) (by decide)]
  exact k5_14
def iL_share : q_I := (yL_share, cL_share, 5, (some .int), RL, [(0, 10, 13, 13), (0, 10, 17, 19)], 9, 155, 3, 18)
theorem hdL_share : (i_y iL_share).cls ≠ "java/lang/invoke/MethodHandle" ∧ (i_y iL_share).cls ≠ "java/lang/invoke/VarHandle" ∧ (parseMethodDescriptor (i_y iL_share).desc).map (fun d => d.parameters.length) = some 4 := by decide +kernel
theorem hhL_share : q_head iL_share ∈ q_big := by
  rw [q_head_with (y := iL_share) (by decide)]
  exact k5_22
def iL_playerRank : q_I := (yL_playerRank, cL_playerRank, 4, (some .int), RL, [(0, 9, 12, 13), (0, 9, 15, 19), (0, 9, 18, 82)], 8, 132, 3, 18)
theorem hdL_playerRank : (i_y iL_playerRank).cls ≠ "java/lang/invoke/MethodHandle" ∧ (i_y iL_playerRank).cls ≠ "java/lang/invoke/VarHandle" ∧ (parseMethodDescriptor (i_y iL_playerRank).desc).map (fun d => d.parameters.length) = some 3 := by decide +kernel
theorem hhL_playerRank : q_head iL_playerRank ∈ q_big := by
  rw [q_head_with (y := iL_playerRank) (by decide)]
  exact k5_33
def iL_meanSalary : q_I := (yL_meanSalary, cL_meanSalary, 4, (some .int), RL, [(0, 8, 11, 13), (0, 8, 14, 19), (0, 8, 17, 100)], 9, 156, 3, 18)
theorem hdL_meanSalary : (i_y iL_meanSalary).cls ≠ "java/lang/invoke/MethodHandle" ∧ (i_y iL_meanSalary).cls ≠ "java/lang/invoke/VarHandle" ∧ (parseMethodDescriptor (i_y iL_meanSalary).desc).map (fun d => d.parameters.length) = some 3 := by decide +kernel
theorem hhL_meanSalary : q_head iL_meanSalary ∈ q_big := by
  rw [q_head_with (y := iL_meanSalary) (by decide)]
  exact k5_46
def iL_signCode : q_I := (yL_signCode, cL_signCode, 6, (some .int), RL, [(0, 12, 15, 13), (0, 12, 19, 19)], 9, 159, 4, 24)
theorem hdL_signCode : (i_y iL_signCode).cls ≠ "java/lang/invoke/MethodHandle" ∧ (i_y iL_signCode).cls ≠ "java/lang/invoke/VarHandle" ∧ (parseMethodDescriptor (i_y iL_signCode).desc).map (fun d => d.parameters.length) = some 5 := by decide +kernel
theorem hhL_signCode : q_head iL_signCode ∈ q_big := by
  rw [q_head_with (y := iL_signCode) (by decide)]
  exact k5_75
def iL_bestRule : q_I := (yL_bestRule, cL_bestRule, 5, (some .int), RL, [(0, 10, 13, 13), (0, 10, 17, 19)], 9, 159, 3, 18)
theorem hdL_bestRule : (i_y iL_bestRule).cls ≠ "java/lang/invoke/MethodHandle" ∧ (i_y iL_bestRule).cls ≠ "java/lang/invoke/VarHandle" ∧ (parseMethodDescriptor (i_y iL_bestRule).desc).map (fun d => d.parameters.length) = some 4 := by decide +kernel
theorem hhL_bestRule : q_head iL_bestRule ∈ q_big := by
  rw [q_head_with (y := iL_bestRule) (by decide)]
  exact k5_82
def iL_greatestBase : q_I := (yL_greatestBase, cL_greatestBase, 6, (some .int), RL, [(0, 12, 15, 13), (0, 12, 19, 19)], 9, 157, 4, 24)
theorem hdL_greatestBase : (i_y iL_greatestBase).cls ≠ "java/lang/invoke/MethodHandle" ∧ (i_y iL_greatestBase).cls ≠ "java/lang/invoke/VarHandle" ∧ (parseMethodDescriptor (i_y iL_greatestBase).desc).map (fun d => d.parameters.length) = some 5 := by decide +kernel
theorem hhL_greatestBase : q_head iL_greatestBase ∈ q_big := by
  rw [q_head_with (y := iL_greatestBase) (by decide)]
  exact k5_89
def iL_releaseCost : q_I := (yL_releaseCost, cL_releaseCost, 6, (some .int), RL, [(0, 12, 15, 13), (0, 12, 19, 19)], 9, 157, 3, 18)
theorem hdL_releaseCost : (i_y iL_releaseCost).cls ≠ "java/lang/invoke/MethodHandle" ∧ (i_y iL_releaseCost).cls ≠ "java/lang/invoke/VarHandle" ∧ (parseMethodDescriptor (i_y iL_releaseCost).desc).map (fun d => d.parameters.length) = some 5 := by decide +kernel
theorem hhL_releaseCost : q_head iL_releaseCost ∈ q_big := by
  rw [q_head_with (y := iL_releaseCost) (by decide)]
  exact k5_97
def iL_releaseGain : q_I := (yL_releaseGain, cL_releaseGain, 5, (some .int), RL, [(0, 10, 13, 13), (0, 10, 17, 19)], 9, 156, 2, 12)
theorem hdL_releaseGain : (i_y iL_releaseGain).cls ≠ "java/lang/invoke/MethodHandle" ∧ (i_y iL_releaseGain).cls ≠ "java/lang/invoke/VarHandle" ∧ (parseMethodDescriptor (i_y iL_releaseGain).desc).map (fun d => d.parameters.length) = some 4 := by decide +kernel
theorem hhL_releaseGain : q_head iL_releaseGain ∈ q_big := by
  rw [q_head_with (y := iL_releaseGain) (by decide)]
  exact k5_105
def iL_fewestReleases : q_I := (yL_fewestReleases, cL_fewestReleases, 4, (some .int), RL, [(0, 9, 12, 13), (0, 9, 15, 19)], 9, 159, 2, 12)
theorem hdL_fewestReleases : (i_y iL_fewestReleases).cls ≠ "java/lang/invoke/MethodHandle" ∧ (i_y iL_fewestReleases).cls ≠ "java/lang/invoke/VarHandle" ∧ (parseMethodDescriptor (i_y iL_fewestReleases).desc).map (fun d => d.parameters.length) = some 3 := by decide +kernel
theorem hhL_fewestReleases : q_head iL_fewestReleases ∈ q_big := by
  rw [q_head_with (y := iL_fewestReleases) (by decide)]
  exact k5_118
def iL_releaseSet : q_I := (yL_releaseSet, cL_releaseSet, 4, (some .int), RL, [(0, 9, 12, 13), (0, 9, 15, 19)], 9, 159, 2, 12)
theorem hdL_releaseSet : (i_y iL_releaseSet).cls ≠ "java/lang/invoke/MethodHandle" ∧ (i_y iL_releaseSet).cls ≠ "java/lang/invoke/VarHandle" ∧ (parseMethodDescriptor (i_y iL_releaseSet).desc).map (fun d => d.parameters.length) = some 3 := by decide +kernel
theorem hhL_releaseSet : q_head iL_releaseSet ∈ q_big := by
  rw [q_head_with (y := iL_releaseSet) (by decide)]
  exact k5_144
def iL_tradeCode : q_I := (yL_tradeCode, cL_tradeCode, 7, (some .int), RL, [(0, 14, 17, 13), (0, 14, 21, 19)], 11, 203, 6, 36)
theorem hdL_tradeCode : (i_y iL_tradeCode).cls ≠ "java/lang/invoke/MethodHandle" ∧ (i_y iL_tradeCode).cls ≠ "java/lang/invoke/VarHandle" ∧ (parseMethodDescriptor (i_y iL_tradeCode).desc).map (fun d => d.parameters.length) = some 6 := by decide +kernel
theorem hhL_tradeCode : q_head iL_tradeCode ∈ q_big := by
  rw [q_head_with (y := iL_tradeCode) (by decide)]
  exact k5_165
def iL_swapCount : q_I := (yL_swapCount, cL_swapCount, 5, (some .int), RL, [(0, 10, 13, 13), (0, 10, 17, 19)], 10, 182, 4, 24)
theorem hdL_swapCount : (i_y iL_swapCount).cls ≠ "java/lang/invoke/MethodHandle" ∧ (i_y iL_swapCount).cls ≠ "java/lang/invoke/VarHandle" ∧ (parseMethodDescriptor (i_y iL_swapCount).desc).map (fun d => d.parameters.length) = some 4 := by decide +kernel
theorem hhL_swapCount : q_head iL_swapCount ∈ q_big := by
  rw [q_head_with (y := iL_swapCount) (by decide)]
  exact k5_172
def iL_bestSwap : q_I := (yL_bestSwap, cL_bestSwap, 5, (some .int), RL, [(0, 10, 13, 13), (0, 10, 17, 19)], 10, 186, 4, 24)
theorem hdL_bestSwap : (i_y iL_bestSwap).cls ≠ "java/lang/invoke/MethodHandle" ∧ (i_y iL_bestSwap).cls ≠ "java/lang/invoke/VarHandle" ∧ (parseMethodDescriptor (i_y iL_bestSwap).desc).map (fun d => d.parameters.length) = some 4 := by decide +kernel
theorem hhL_bestSwap : q_head iL_bestSwap ∈ q_big := by
  rw [q_head_with (y := iL_bestSwap) (by decide)]
  exact k5_184
def iL_taxAhead : q_I := (yL_taxAhead, cL_taxAhead, 5, (some .int), RL, [(0, 9, 12, 13), (0, 9, 16, 19)], 9, 161, 3, 18)
theorem hdL_taxAhead : (i_y iL_taxAhead).cls ≠ "java/lang/invoke/MethodHandle" ∧ (i_y iL_taxAhead).cls ≠ "java/lang/invoke/VarHandle" ∧ (parseMethodDescriptor (i_y iL_taxAhead).desc).map (fun d => d.parameters.length) = some 4 := by decide +kernel
theorem hhL_taxAhead : q_head iL_taxAhead ∈ q_big := by
  rw [q_head_with (y := iL_taxAhead) (by decide)]
  exact k5_191
def iL_undo : q_I := (yL_undo, cL_undo, 3, (some .int), RL, [(0, 8, 11, 13)], 8, 130, 1, 6)
theorem hdL_undo : (i_y iL_undo).cls ≠ "java/lang/invoke/MethodHandle" ∧ (i_y iL_undo).cls ≠ "java/lang/invoke/VarHandle" ∧ (parseMethodDescriptor (i_y iL_undo).desc).map (fun d => d.parameters.length) = some 2 := by decide +kernel
theorem hhL_undo : q_head iL_undo ∈ q_big := by
  rw [q_head_with (y := iL_undo) (by decide)]
  exact k5_198
def iL_law : q_I := ((x : MethodName), code, 9, (some .boolean), RL, [], 12, 230, 855, 12372)
