/-! java/lang/String, as far as the five words of a league text need it -/
section CXS
variable {V : q_En} {y y' : q_I} {pc : Nat} {ls : List (Option Value)} {st : List Value} {h : q_H} {z : Option Nat} {bc bs : Nat} {Kr : q_KR} {Kx : q_KX}
theorem q_sgetc {i ix : Nat} (hi : i < 5) (d : decode (i_b y) pc = .ok (.getfield ix, 3)) (hlink : Cond.fieldLink (i_o y) ix "java/lang/String" "coder" "B" ∈ q_big) (kk : QW V y (pc + 3) ls (.int 0 :: st) h z bc bs Kr Kx) : QW V y pc ls (.ref (e_K V i) :: st) h z bc bs Kr Kx :=
  fun p e R s m args below meth c H locs cells slots l0 Q C hR hL hS hc hs hF => vk_getf C.x C.b ((C.g.2.2.2.1.1 i hi).2.1) hS C.own (C.w _ hlink) (fun _ hx => hx) d (kk p e R s m args below meth c H locs cells slots l0 Q C hR hL hS hc hs hF)
theorem q_sgetv {i ix : Nat} (hi : i < 5) (d : decode (i_b y) pc = .ok (.getfield ix, 3)) (hlink : Cond.fieldLink (i_o y) ix "java/lang/String" "value" "[B" ∈ q_big) (kk : QW V y (pc + 3) ls (.ref (e_U V i) :: st) h z bc bs Kr Kx) : QW V y pc ls (.ref (e_K V i) :: st) h z bc bs Kr Kx :=
  fun p e R s m args below meth c H locs cells slots l0 Q C hR hL hS hc hs hF => vk_getf C.x C.b ((C.g.2.2.2.1.1 i hi).2.2.1) hS C.own (C.w _ hlink) (fun _ hx => hx) d (kk p e R s m args below meth c H locs cells slots l0 Q C hR hL hS hc hs hF)
theorem q_sgetz {ix : Nat} (d : decode (i_b y) pc = .ok (.getstatic ix, 3)) (hlink : Cond.fieldLink (i_o y) ix "java/lang/String" "COMPACT_STRINGS" "Z" ∈ q_big) (kk : QW V y (pc + 3) ls (.int 1 :: st) h z bc bs Kr Kx) : QW V y pc ls st h z bc bs Kr Kx :=
  fun p e R s m args below meth c H locs cells slots l0 Q C hR hL hS hc hs hF => va_gets C.x C.b C.g.2.2.2.2.2.2.2.1 hS C.own (C.w _ hlink) (fun _ hx => hx) d (kk p e R s m args below meth c H locs cells slots l0 Q C hR hL hS hc hs hF)
theorem q_sgetq {ix : Nat} (d : decode (i_b y) pc = .ok (.getstatic ix, 3)) (hlink : Cond.fieldLink (i_o y) ix "jdk/internal/util/Preconditions" "SIOOBE_FORMATTER" "Ljava/util/function/BiFunction;" ∈ q_big) (k0 : QW V y (pc + 3) ls (.null :: st) h z bc bs Kr Kx) (k1 : ∀ t : Nat, QW V y (pc + 3) ls (.ref t :: st) h z bc bs Kr Kx) : QW V y pc ls st h z bc bs Kr Kx := by
  intro p e R s m args below meth c H locs cells slots l0 Q C hR hL hS hc hs hF
  rcases C.g.2.2.2.2.2.2.2.2.1 with g | ⟨t, g⟩
  · exact va_gets C.x C.b g hS C.own (C.w _ hlink) (fun _ hx => hx) d (k0 p e R s m args below meth c H locs cells slots l0 Q C hR hL hS hc hs hF)
  · exact va_gets C.x C.b g hS C.own (C.w _ hlink) (fun _ hx => hx) d (k1 t p e R s m args below meth c H locs cells slots l0 Q C hR hL hS hc hs hF)
def q_sn (i : Nat) : Nat := q_len.getD i 0
def q_sc (i j : Nat) : Int32 := (q_byt.getD i []).getD j 0
theorem q_slenU {i : Nat} (hi : i < 5) (d : decode (i_b y) pc = .ok (.arraylength, 1)) (kk : QW V y (pc + 1) ls (.int (nI (q_sn i)) :: st) h z bc bs Kr Kx) : QW V y pc ls (.ref (e_U V i) :: st) h z bc bs Kr Kx :=
  fun p e R s m args below meth c H locs cells slots l0 Q C hR hL hS hc hs hF => va_tlen C.x C.b ((C.g.2.2.2.1.1 i hi).2.2.2) hS rfl d (kk p e R s m args below meth c H locs cells slots l0 Q C hR hL hS hc hs hF)
theorem q_sbald {i j : Nat} {x : Int32} (hi : i < 5) (hx : x = nI j) (hj : j < q_sn i) (d : decode (i_b y) pc = .ok (.baload, 1)) (kk : QW V y (pc + 1) ls (.int (q_sc i j) :: st) h z bc bs Kr Kx) : QW V y pc ls (.int x :: .ref (e_U V i) :: st) h z bc bs Kr Kx := by
  subst hx
  have hn : q_sn i < 2147483648 := by
    have : ∀ i, i < 5 → q_sn i < 9 := by decide
    have := this i hi
    omega
  obtain ⟨q1, q2⟩ := q_ix hj hn
  exact fun p e R s m args below meth c H locs cells slots l0 Q C hR hL hS hc hs hF => va_tb C.x C.b ((C.g.2.2.2.1.1 i hi).2.2.2) hS q1 (by rw [q2]; rfl) d (kk p e R s m args below meth c H locs cells slots l0 Q C hR hL hS hc hs hF)
/-- a call on a word -/
theorem q_callW {ix n i : Nat} {As rest : List Value} (hi : i < 5) (d : decode (i_b y) pc = .ok (.invokevirtual ix, 3)) (k1 : Cond.methodLink (i_o y) ix (i_y y') ∈ q_big) (k2 : Cond.instanceMethod (i_y y') ∈ q_big) (k3 : Cond.selects (i_y y').cls (i_y y') (i_y y') ∈ q_big) (k4 : Cond.initialized (i_y y').cls ∈ q_big) (k5 : q_head y' ∈ q_big) (ht : i_h y' = [])
    (hd : (i_y y').cls ≠ "java/lang/invoke/MethodHandle" ∧ (i_y y').cls ≠ "java/lang/invoke/VarHandle" ∧ (parseMethodDescriptor (i_y y').desc).map (fun d => d.parameters.length) = some n) (hcl : (i_y y').cls = "java/lang/String") (hn : As.length = n) (hf : i_f y' + 1 ≤ i_f y) (hl : 8 + (i_n y' + 11) + i_l y' ≤ i_l y) (hW : (rest.map fun v => v.category).sum ≤ 8) (hty : i_h y = [])
    (hm : QM V y' (.ref (e_K V i) :: As) h z (fun v h' z' => QW V y (pc + 3) ls (v.toList ++ rest) h' z' bc bs Kr Kx) Kx) : QW V y pc ls (As.reverse ++ .ref (e_K V i) :: rest) h z (bc + i_c y') (bs + i_s y') Kr Kx := by
  intro p e R s m args below meth c H locs cells slots l0 Q C hR hL hS hc hs hF
  have hin : ∀ w ∈ wsV (i_o y) ix (i_y y').cls (i_y y') (q_ws y'), w ∈ q_big := fun w hw => by
    rcases List.mem_append.mp hw with hw | hw
    · simp only [List.mem_cons, List.not_mem_nil, or_false] at hw
      rcases hw with rfl | rfl | rfl | rfl <;> assumption
    · exact q_ws_in k5 w hw
  have hrv := vk_recv C.g.2.2.2.1 hi hS
  rw [← hcl] at hrv
  refine q_after (rest := rest) C hL hS hc hs hF hty ?_
  exact vx_runV (As := As) (rest := rest) (g := F0 m pc l0 (As.reverse ++ .ref (e_K V i) :: rest)) ⟨C.x, C.b, C.n, C.own, C.w⟩ hm (cwV n C.w (q_good hin) (q_ws_code ht) rfl rfl ⟨rfl, hd⟩ ⟨Nat.le_trans hf C.f, Nat.le_trans hl C.l⟩)
    ⟨q_blind, hrv, q_pre C.g hR hS⟩ rfl hn hL.1.1 rfl (lv_room hW) d ⟨by omega, by omega⟩
theorem wJ0_length_8abf5_1 {a0 : Option Value} {i : Nat} (hi : i < 5) (kk : QW V iJ0_length_8abf5 4 [a0] (.ref (e_U V i) :: st) h z bc bs Kr Kx) : QW V iJ0_length_8abf5 1 [a0] (.ref (e_K V i) :: st) h z bc bs Kr Kx := q_sgetv hi dJ0_length_8abf5_1 k8_78 kk
theorem wJ0_length_8abf5_4 {a0 : Option Value} {i : Nat} (hi : i < 5) (kk : QW V iJ0_length_8abf5 5 [a0] (.int (nI (q_sn i)) :: st) h z bc bs Kr Kx) : QW V iJ0_length_8abf5 4 [a0] (.ref (e_U V i) :: st) h z bc bs Kr Kx := q_slenU hi dJ0_length_8abf5_4 kk
theorem wJ0_length_8abf5_6 {a0 : Option Value} {i : Nat}  (hi : i < 5) (hm : QMi V iJ0_coder_7d493 [.ref (e_K V i)] h z (fun r h' z' => QW V iJ0_length_8abf5 9 [a0] (.int r :: st) h' z' bc bs Kr Kx) Kx) (hW : (st.map fun v => v.category).sum ≤ 8 := by exact Nat.le_of_ble_eq_true rfl) : QW V iJ0_length_8abf5 6 [a0] (.ref (e_K V i) :: st) h z bc bs Kr Kx := q_callW (y' := iJ0_coder_7d493) (As := []) (rest := st) hi dJ0_length_8abf5_6 k2_132 k2_133 k2_134 k1_17 hhJ0_coder_7d493 rfl hdJ0_coder_7d493 rfl rfl (Nat.le_of_ble_eq_true rfl) (Nat.le_of_ble_eq_true rfl) hW rfl (QMi.run hm)
theorem wJ0_charAt_5068e_1 {a0 a1 : Option Value} {i : Nat}  (hi : i < 5) (hm : QMi V iJ0_isLatin1_aae02 [.ref (e_K V i)] h z (fun r h' z' => QW V iJ0_charAt_5068e 4 [a0, a1] (.int r :: st) h' z' bc bs Kr Kx) Kx) (hW : (st.map fun v => v.category).sum ≤ 8 := by exact Nat.le_of_ble_eq_true rfl) : QW V iJ0_charAt_5068e 1 [a0, a1] (.ref (e_K V i) :: st) h z bc bs Kr Kx := q_callW (y' := iJ0_isLatin1_aae02) (As := []) (rest := st) hi dJ0_charAt_5068e_1 k2_142 k2_143 k2_144 k1_17 hhJ0_isLatin1_aae02 rfl hdJ0_isLatin1_aae02 rfl rfl (Nat.le_of_ble_eq_true rfl) (Nat.le_of_ble_eq_true rfl) hW rfl (QMi.run hm)
theorem wJ0_charAt_5068e_8 {a0 a1 : Option Value} {i : Nat} (hi : i < 5) (kk : QW V iJ0_charAt_5068e 11 [a0, a1] (.ref (e_U V i) :: st) h z bc bs Kr Kx) : QW V iJ0_charAt_5068e 8 [a0, a1] (.ref (e_K V i) :: st) h z bc bs Kr Kx := q_sgetv hi dJ0_charAt_5068e_8 k8_78 kk
theorem wJ0_coder_7d493_0 {a0 : Option Value}   (kk : QW V iJ0_coder_7d493 3 [a0] (.int 1 :: st) h z bc bs Kr Kx) : QW V iJ0_coder_7d493 0 [a0] (st) h z bc bs Kr Kx := q_sgetz  dJ0_coder_7d493_0 k2_136 kk
theorem wJ0_coder_7d493_7 {a0 : Option Value} {i : Nat} (hi : i < 5) (kk : QW V iJ0_coder_7d493 10 [a0] (.int 0 :: st) h z bc bs Kr Kx) : QW V iJ0_coder_7d493 7 [a0] (.ref (e_K V i) :: st) h z bc bs Kr Kx := q_sgetc hi dJ0_coder_7d493_7 k8_79 kk
theorem wJ0_isLatin1_aae02_0 {a0 : Option Value}   (kk : QW V iJ0_isLatin1_aae02 3 [a0] (.int 1 :: st) h z bc bs Kr Kx) : QW V iJ0_isLatin1_aae02 0 [a0] (st) h z bc bs Kr Kx := q_sgetz  dJ0_isLatin1_aae02_0 k2_136 kk
theorem wJ0_isLatin1_aae02_7 {a0 : Option Value} {i : Nat} (hi : i < 5) (kk : QW V iJ0_isLatin1_aae02 10 [a0] (.int 0 :: st) h z bc bs Kr Kx) : QW V iJ0_isLatin1_aae02 7 [a0] (.ref (e_K V i) :: st) h z bc bs Kr Kx := q_sgetc hi dJ0_isLatin1_aae02_7 k8_79 kk
theorem wJ1_charAt_3b067_2 {a0 a1 : Option Value} {i : Nat} (hi : i < 5) (kk : QW V iJ1_charAt_3b067 3 [a0, a1] (.int (nI (q_sn i)) :: st) h z bc bs Kr Kx) : QW V iJ1_charAt_3b067 2 [a0, a1] (.ref (e_U V i) :: st) h z bc bs Kr Kx := q_slenU hi dJ1_charAt_3b067_2 kk
theorem wJ1_charAt_3b067_8s {a0 a1 : Option Value} {i j : Nat} {x : Int32} (hi : i < 5) (hx : x = nI j) (hj : j < q_sn i) (kk : QW V iJ1_charAt_3b067 9 [a0, a1] (.int (q_sc i j) :: st) h z bc bs Kr Kx) : QW V iJ1_charAt_3b067 8 [a0, a1] (.int x :: .ref (e_U V i) :: st) h z bc bs Kr Kx := q_sbald hi hx hj dJ1_charAt_3b067_8 kk
theorem wX4_isWord_25 {a0 a1 a2 : Option Value} {i : Nat}  (hi : i < 5) (hm : QMi V iJ0_length_8abf5 [.ref (e_K V i)] h z (fun r h' z' => QW V iX4_isWord 28 [a0, a1, a2] (.int r :: st) h' z' bc bs Kr Kx) Kx) (hW : (st.map fun v => v.category).sum ≤ 8 := by exact Nat.le_of_ble_eq_true rfl) : QW V iX4_isWord 25 [a0, a1, a2] (.ref (e_K V i) :: st) h z bc bs Kr Kx := q_callW (y' := iJ0_length_8abf5) (As := []) (rest := st) hi dX4_isWord_25 k2_128 k2_129 k2_130 k1_17 hhJ0_length_8abf5 rfl hdJ0_length_8abf5 rfl rfl (Nat.le_of_ble_eq_true rfl) (Nat.le_of_ble_eq_true rfl) hW rfl (QMi.run hm)
theorem wX4_isWord_59 {a0 a1 a2 : Option Value} {i : Nat} {x0 : Int32} (hi : i < 5) (hm : QMi V iJ0_charAt_5068e [.ref (e_K V i), .int x0] h z (fun r h' z' => QW V iX4_isWord 62 [a0, a1, a2] (.int r :: st) h' z' bc bs Kr Kx) Kx) (hW : (st.map fun v => v.category).sum ≤ 8 := by exact Nat.le_of_ble_eq_true rfl) : QW V iX4_isWord 59 [a0, a1, a2] (.int x0 :: .ref (e_K V i) :: st) h z bc bs Kr Kx := q_callW (y' := iJ0_charAt_5068e) (As := [.int x0]) (rest := st) hi dX4_isWord_59 k2_138 k2_139 k2_140 k1_17 hhJ0_charAt_5068e rfl hdJ0_charAt_5068e rfl rfl (Nat.le_of_ble_eq_true rfl) (Nat.le_of_ble_eq_true rfl) hW rfl (QMi.run hm)
theorem wX9_isWord_25 {a0 a1 a2 : Option Value} {i : Nat}  (hi : i < 5) (hm : QMi V iJ0_length_8abf5 [.ref (e_K V i)] h z (fun r h' z' => QW V iX9_isWord 28 [a0, a1, a2] (.int r :: st) h' z' bc bs Kr Kx) Kx) (hW : (st.map fun v => v.category).sum ≤ 8 := by exact Nat.le_of_ble_eq_true rfl) : QW V iX9_isWord 25 [a0, a1, a2] (.ref (e_K V i) :: st) h z bc bs Kr Kx := q_callW (y' := iJ0_length_8abf5) (As := []) (rest := st) hi dX9_isWord_25 k6_140 k2_129 k2_130 k1_17 hhJ0_length_8abf5 rfl hdJ0_length_8abf5 rfl rfl (Nat.le_of_ble_eq_true rfl) (Nat.le_of_ble_eq_true rfl) hW rfl (QMi.run hm)
theorem wX9_isWord_37 {a0 a1 a2 : Option Value} {i : Nat}  (hi : i < 5) (hm : QMi V iJ0_length_8abf5 [.ref (e_K V i)] h z (fun r h' z' => QW V iX9_isWord 40 [a0, a1, a2] (.int r :: st) h' z' bc bs Kr Kx) Kx) (hW : (st.map fun v => v.category).sum ≤ 8 := by exact Nat.le_of_ble_eq_true rfl) : QW V iX9_isWord 37 [a0, a1, a2] (.ref (e_K V i) :: st) h z bc bs Kr Kx := q_callW (y' := iJ0_length_8abf5) (As := []) (rest := st) hi dX9_isWord_37 k6_140 k2_129 k2_130 k1_17 hhJ0_length_8abf5 rfl hdJ0_length_8abf5 rfl rfl (Nat.le_of_ble_eq_true rfl) (Nat.le_of_ble_eq_true rfl) hW rfl (QMi.run hm)
theorem wX9_isWord_56 {a0 a1 a2 : Option Value} {i : Nat} {x0 : Int32} (hi : i < 5) (hm : QMi V iJ0_charAt_5068e [.ref (e_K V i), .int x0] h z (fun r h' z' => QW V iX9_isWord 59 [a0, a1, a2] (.int r :: st) h' z' bc bs Kr Kx) Kx) (hW : (st.map fun v => v.category).sum ≤ 8 := by exact Nat.le_of_ble_eq_true rfl) : QW V iX9_isWord 56 [a0, a1, a2] (.int x0 :: .ref (e_K V i) :: st) h z bc bs Kr Kx := q_callW (y' := iJ0_charAt_5068e) (As := [.int x0]) (rest := st) hi dX9_isWord_56 k6_141 k2_139 k2_140 k1_17 hhJ0_charAt_5068e rfl hdJ0_charAt_5068e rfl rfl (Nat.le_of_ble_eq_true rfl) (Nat.le_of_ble_eq_true rfl) hW rfl (QMi.run hm)
theorem mJ0_coder_7d493 {i : Nat} {P : Int32 → q_H → Option Nat → Prop} (hi : i < 5) (hk : P 0 h z) : QMi V iJ0_coder_7d493 [.ref (e_K V i)] h z P Kx := by
  refine eJ0_coder_7d493 ?_
  refine wJ0_coder_7d493_0 ?_
  refine wJ0_coder_7d493_3 (fun c3 => absurd c3 (by decide)) (fun c3 => ?_)
  refine wJ0_coder_7d493_6 ?_
  refine wJ0_coder_7d493_7 hi ?_
  refine wJ0_coder_7d493_10 ?_
  refine wJ0_coder_7d493_14  ?_
  exact hk
theorem mJ0_isLatin1_aae02 {i : Nat} {P : Int32 → q_H → Option Nat → Prop} (hi : i < 5) (hk : P 1 h z) : QMi V iJ0_isLatin1_aae02 [.ref (e_K V i)] h z P Kx := by
  refine eJ0_isLatin1_aae02 ?_
  refine wJ0_isLatin1_aae02_0 ?_
  refine wJ0_isLatin1_aae02_3 (fun c3 => absurd c3 (by decide)) (fun c3 => ?_)
  refine wJ0_isLatin1_aae02_6 ?_
  refine wJ0_isLatin1_aae02_7 hi ?_
  refine wJ0_isLatin1_aae02_10 (fun c10 => absurd rfl c10) (fun c10 => ?_)
  refine wJ0_isLatin1_aae02_13 ?_
  refine wJ0_isLatin1_aae02_14 ?_
  refine wJ0_isLatin1_aae02_18  ?_
  exact hk
theorem q_sn_s : ∀ i, i < 5 → nI (q_sn i) >>> ((0 : Int32) &&& 31) = nI (q_sn i) := by decide
theorem mJ0_length_8abf5 {i : Nat} {P : Int32 → q_H → Option Nat → Prop} (hi : i < 5) (hk : P (nI (q_sn i)) h z) : QMi V iJ0_length_8abf5 [.ref (e_K V i)] h z P Kx := by
  refine eJ0_length_8abf5 ?_
  refine wJ0_length_8abf5_0 ?_
  refine wJ0_length_8abf5_1 hi ?_
  refine wJ0_length_8abf5_4 hi ?_
  refine wJ0_length_8abf5_5 ?_
  refine wJ0_length_8abf5_6 hi (mJ0_coder_7d493 hi ?_)
  refine wJ0_length_8abf5_9 ?_
  refine wJ0_length_8abf5_10  ?_
  exact q_cv (q_sn_s i hi) hk
theorem mJ3_checkIndex_8e157r {j n t : Nat} {P : Int32 → q_H → Option Nat → Prop} (hj : j < n) (hn : n < 2147483648) (hk : P (nI j) h z) : QMi V iJ3_checkIndex_8e157 [.int (nI j), .int (nI n), .ref t] h z P Kx := by
  refine eJ3_checkIndex_8e157 ?_
  refine wJ3_checkIndex_8e157_0 ?_
  refine wJ3_checkIndex_8e157_1 (fun c1 => absurd c1 (by rw [Int32.not_lt]; exact nI_le (a := 0) (Nat.zero_le _) (by omega))) (fun c1 => ?_)
  refine wJ3_checkIndex_8e157_4 ?_
  refine wJ3_checkIndex_8e157_5 ?_
  refine wJ3_checkIndex_8e157_6 (fun c6 => ?_) (fun c6 => absurd (by rw [← Int32.not_le]; exact nI_ge hj hn) c6)
  refine wJ3_checkIndex_8e157_16 ?_
  refine wJ3_checkIndex_8e157_17  ?_
  exact hk
theorem eJ3_checkIndex_8e157n {x0 x1 : Int32} {P : Int32 → q_H → Option Nat → Prop} (kk : QW V iJ3_checkIndex_8e157 0 [some (.int x0), some (.int x1), some .null] [] h z 0 0 (q_Ki P) Kx) : QMi V iJ3_checkIndex_8e157 [.int x0, .int x1, .null] h z P Kx := q_enter rfl (by decide +kernel) rfl (Nat.le_of_ble_eq_true rfl) kk
theorem mJ3_checkIndex_8e157n {j n  : Nat} {P : Int32 → q_H → Option Nat → Prop} (hj : j < n) (hn : n < 2147483648) (hk : P (nI j) h z) : QMi V iJ3_checkIndex_8e157 [.int (nI j), .int (nI n), .null] h z P Kx := by
  refine eJ3_checkIndex_8e157n ?_
  refine wJ3_checkIndex_8e157_0 ?_
  refine wJ3_checkIndex_8e157_1 (fun c1 => absurd c1 (by rw [Int32.not_lt]; exact nI_le (a := 0) (Nat.zero_le _) (by omega))) (fun c1 => ?_)
  refine wJ3_checkIndex_8e157_4 ?_
  refine wJ3_checkIndex_8e157_5 ?_
  refine wJ3_checkIndex_8e157_6 (fun c6 => ?_) (fun c6 => absurd (by rw [← Int32.not_le]; exact nI_ge hj hn) c6)
  refine wJ3_checkIndex_8e157_16 ?_
  refine wJ3_checkIndex_8e157_17  ?_
  exact hk
theorem wJ0_checkIndex_df160_5n {a0 a1 : Option Value} {x0 : Int32} {x1 : Int32} (hm : QMi V iJ3_checkIndex_8e157 [.int x0, .int x1, .null] h z (fun r h' z' => QW V iJ0_checkIndex_df160 8 [a0, a1] (.int r :: st) h' z' bc bs Kr Kx) Kx) (hW : (st.map fun v => v.category).sum ≤ 8 := by exact Nat.le_of_ble_eq_true rfl) : QW V iJ0_checkIndex_df160 5 [a0, a1] (.null :: .int x1 :: .int x0 :: st) h z bc bs Kr Kx := q_callS (y' := iJ3_checkIndex_8e157) (As := [.int x0, .int x1, .null]) (rest := st) dJ0_checkIndex_df160_5 k2_154 k2_155 k1_19 hhJ3_checkIndex_8e157 rfl hdJ3_checkIndex_8e157 rfl (Nat.le_of_ble_eq_true rfl) (Nat.le_of_ble_eq_true rfl) hW rfl (QMi.run hm)
theorem mJ0_checkIndex_df160 {j n : Nat} {P : q_H → Option Nat → Prop} (hj : j < n) (hn : n < 2147483648) (hk : P h z) : QMv V iJ0_checkIndex_df160 [.int (nI j), .int (nI n)] h z P Kx := by
  refine eJ0_checkIndex_df160 ?_
  refine wJ0_checkIndex_df160_0 ?_
  refine wJ0_checkIndex_df160_1 ?_
  refine q_sgetq dJ0_checkIndex_df160_2 k2_152 ?_ (fun t => ?_)
  · refine wJ0_checkIndex_df160_5n (mJ3_checkIndex_8e157n hj hn ?_)
    refine wJ0_checkIndex_df160_8 ?_
    refine wJ0_checkIndex_df160_9  ?_
    exact hk
  · refine wJ0_checkIndex_df160_5 (mJ3_checkIndex_8e157r hj hn ?_)
    refine wJ0_checkIndex_df160_8 ?_
    refine wJ0_checkIndex_df160_9  ?_
    exact hk
theorem q_sc_c : ∀ i, i < 5 → ∀ j, j < q_sn i → (((q_sc i j &&& 255).toUInt32 % 65536).toInt32) = q_sc i j := by decide
theorem q_sc_n : ∀ i, i < 5 → ∀ j, j < q_sn i → narrow .char (.int (q_sc i j)) = .int (q_sc i j) := by decide
theorem q_sn_9 : ∀ i, i < 5 → q_sn i < 9 := by decide
theorem mJ1_charAt_3b067 {i j : Nat} {P : Int32 → q_H → Option Nat → Prop} (hi : i < 5) (hj : j < q_sn i) (hk : P (q_sc i j) h z) : QMi V iJ1_charAt_3b067 [.ref (e_U V i), .int (nI j)] h z P Kx := by
  have hn := q_sn_9 i hi
  refine eJ1_charAt_3b067 ?_
  refine wJ1_charAt_3b067_0 ?_
  refine wJ1_charAt_3b067_1 ?_
  refine wJ1_charAt_3b067_2 hi ?_
  refine wJ1_charAt_3b067_3 (mJ0_checkIndex_df160 hj (by omega) ?_)
  refine wJ1_charAt_3b067_6 ?_
  refine wJ1_charAt_3b067_7 ?_
  refine wJ1_charAt_3b067_8s hi rfl hj ?_
  refine wJ1_charAt_3b067_9 ?_
  refine wJ1_charAt_3b067_12 ?_
  refine wJ1_charAt_3b067_13 ?_
  rw [q_sc_c i hi j hj]
  exact wJ1_charAt_3b067_14 hk (q_sc_n i hi j hj)
theorem mJ0_charAt_5068e {i j : Nat} {P : Int32 → q_H → Option Nat → Prop} (hi : i < 5) (hj : j < q_sn i) (hk : P (q_sc i j) h z) : QMi V iJ0_charAt_5068e [.ref (e_K V i), .int (nI j)] h z P Kx := by
  refine eJ0_charAt_5068e ?_
  refine wJ0_charAt_5068e_0 ?_
  refine wJ0_charAt_5068e_1 hi (mJ0_isLatin1_aae02 hi ?_)
  refine wJ0_charAt_5068e_4 (fun c4 => absurd c4 (by decide)) (fun c4 => ?_)
  refine wJ0_charAt_5068e_7 ?_
  refine wJ0_charAt_5068e_8 hi ?_
  refine wJ0_charAt_5068e_11 ?_
  refine wJ0_charAt_5068e_12 (mJ1_charAt_3b067 hi hj ?_)
  exact wJ0_charAt_5068e_15 hk (q_sc_n i hi j hj)
end CXS
