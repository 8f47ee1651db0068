section QXL
variable {V : q_En} {st : List Value} {h : q_H} {z : Option Nat} {bc bs : Nat} {Kr : q_KR} {Kx : q_KX} {a0 a1 a2 a3 a4 a5 a6 a7 a8 a9 a10 a11 a12 a13 a14 a15 : Option Value}

theorem eL_append {x0 : Nat} {x1 : Int32} {x2 : Int32} {x3 : Int32} {x4 : Int32} {x5 : Int32} {x6 : Nat} {P : Int32 → q_H → Option Nat → Prop} (kk : QW V iL_append 0 [some (.ref x0), some (.int x1), some (.int x2), some (.int x3), some (.int x4), some (.int x5), some (.ref x6), none] [] h z 1 6 (q_Ki P) Kx) : QMi V iL_append [.ref x0, .int x1, .int x2, .int x3, .int x4, .int x5, .ref x6] h z P Kx := q_enterH (by decide) (by decide +kernel) rfl (Nat.le_of_ble_eq_true rfl) kk
theorem dL_append_0 : decode (i_b iL_append) 0 = .ok (.aload 6, 2) := by decide +kernel
theorem wL_append_0 {x : Nat} (kk : QW V iL_append 2 [a0, a1, a2, a3, a4, a5, some (.ref x), a7] (.ref x :: st) h z bc bs Kr Kx) : QW V iL_append 0 [a0, a1, a2, a3, a4, a5, some (.ref x), a7] (st) h z bc bs Kr Kx := q_aload dL_append_0 rfl kk
theorem dL_append_2 : decode (i_b iL_append) 2 = .ok (.iconst 0, 1) := by decide +kernel
theorem wL_append_2  (kk : QW V iL_append 3 [a0, a1, a2, a3, a4, a5, a6, a7] (.int (0) :: st) h z bc bs Kr Kx) : QW V iL_append 2 [a0, a1, a2, a3, a4, a5, a6, a7] (st) h z bc bs Kr Kx := q_iconst dL_append_2 (by decide) kk
theorem dL_append_3 : decode (i_b iL_append) 3 = .ok (.aload_n 0, 1) := by decide +kernel
theorem wL_append_3 {x : Nat} (kk : QW V iL_append 4 [some (.ref x), a1, a2, a3, a4, a5, a6, a7] (.ref x :: st) h z bc bs Kr Kx) : QW V iL_append 3 [some (.ref x), a1, a2, a3, a4, a5, a6, a7] (st) h z bc bs Kr Kx := q_aload_n dL_append_3 rfl rfl kk
theorem dL_append_4 : decode (i_b iL_append) 4 = .ok (.iload_n 1, 1) := by decide +kernel
theorem wL_append_4 {x : Int32} (kk : QW V iL_append 5 [a0, some (.int x), a2, a3, a4, a5, a6, a7] (.int x :: st) h z bc bs Kr Kx) : QW V iL_append 4 [a0, some (.int x), a2, a3, a4, a5, a6, a7] (st) h z bc bs Kr Kx := q_iload_n dL_append_4 rfl rfl kk
theorem dL_append_5 : decode (i_b iL_append) 5 = .ok (.iload_n 2, 1) := by decide +kernel
theorem wL_append_5 {x : Int32} (kk : QW V iL_append 6 [a0, a1, some (.int x), a3, a4, a5, a6, a7] (.int x :: st) h z bc bs Kr Kx) : QW V iL_append 5 [a0, a1, some (.int x), a3, a4, a5, a6, a7] (st) h z bc bs Kr Kx := q_iload_n dL_append_5 rfl rfl kk
theorem dL_append_6 : decode (i_b iL_append) 6 = .ok (.iload_n 3, 1) := by decide +kernel
theorem wL_append_6 {x : Int32} (kk : QW V iL_append 7 [a0, a1, a2, some (.int x), a4, a5, a6, a7] (.int x :: st) h z bc bs Kr Kx) : QW V iL_append 6 [a0, a1, a2, some (.int x), a4, a5, a6, a7] (st) h z bc bs Kr Kx := q_iload_n dL_append_6 rfl rfl kk
theorem dL_append_7 : decode (i_b iL_append) 7 = .ok (.iload 4, 2) := by decide +kernel
theorem wL_append_7 {x : Int32} (kk : QW V iL_append 9 [a0, a1, a2, a3, some (.int x), a5, a6, a7] (.int x :: st) h z bc bs Kr Kx) : QW V iL_append 7 [a0, a1, a2, a3, some (.int x), a5, a6, a7] (st) h z bc bs Kr Kx := q_iload dL_append_7 rfl kk
theorem dL_append_9 : decode (i_b iL_append) 9 = .ok (.iload 5, 2) := by decide +kernel
theorem wL_append_9 {x : Int32} (kk : QW V iL_append 11 [a0, a1, a2, a3, a4, some (.int x), a6, a7] (.int x :: st) h z bc bs Kr Kx) : QW V iL_append 9 [a0, a1, a2, a3, a4, some (.int x), a6, a7] (st) h z bc bs Kr Kx := q_iload dL_append_9 rfl kk
theorem dL_append_11 : decode (i_b iL_append) 11 = .ok (.invokevirtual 7, 3) := by decide +kernel
theorem wL_append_11 {a : Nat} {fs : List Value} {x0 : Int32} {x1 : Int32} {x2 : Int32} {x3 : Int32} {x4 : Int32} (hb : h a = some (.inr (9, fs))) (hm : QMi V iX8_append [.ref a, .int x0, .int x1, .int x2, .int x3, .int x4] h z (fun r h' z' => QW V iL_append 14 [a0, a1, a2, a3, a4, a5, a6, a7] (.int r :: st) h' z' bc bs Kr Kx) (fun E h2 => (E = "java/lang/IllegalStateException" ∧ ∀ q : Nat, QW V iL_append 19 [a0, a1, a2, a3, a4, a5, a6, a7] [.ref q] h2 none bc bs Kr Kx))) (hW : (st.map fun v => v.category).sum ≤ 8 := by exact Nat.le_of_ble_eq_true rfl) : QW V iL_append 11 [a0, a1, a2, a3, a4, a5, a6, a7] (.int x4 :: .int x3 :: .int x2 :: .int x1 :: .int x0 :: .ref a :: st) h z (bc + 1) (bs + 6) Kr Kx := by
  refine q_callVX (y' := iX8_append) (As := [.int x0, .int x1, .int x2, .int x3, .int x4]) (rest := st) dL_append_11 k3_20 k3_21 k3_22 k1_1 hhX8_append rfl hdX8_append rfl rfl (Nat.le_of_ble_eq_true rfl) (Nat.le_of_ble_eq_true rfl) hW hb (fun E h2 => (E = "java/lang/IllegalStateException" ∧ ∀ q : Nat, QW V iL_append 19 [a0, a1, a2, a3, a4, a5, a6, a7] [.ref q] h2 none bc bs Kr Kx)) (fun E h2 hK => ?_) (QMi.run hm)
  obtain ⟨rfl, hq⟩ := hK
  exact ⟨[], [], (0, 16, 19, 13), rfl, (fun q hq => nomatch hq), by decide, by decide, k3_19, by decide +kernel, hq⟩
theorem dL_append_14 : decode (i_b iL_append) 14 = .ok (.i2l, 1) := by decide +kernel
theorem wL_append_14 {x : Int32} (kk : QW V iL_append 15 [a0, a1, a2, a3, a4, a5, a6, a7] (.long (x.toInt64) :: st) h z bc bs Kr Kx) : QW V iL_append 14 [a0, a1, a2, a3, a4, a5, a6, a7] (.int x :: st) h z bc bs Kr Kx := q_i2l dL_append_14 kk
theorem dL_append_15 : decode (i_b iL_append) 15 = .ok (.lastore, 1) := by decide +kernel
theorem wL_append_15 {a n j : Nat} {f : Nat → Int64} {i : Int32} {x : Int64} (ha : h a = some (.inl (2, n, .inr (.inl f)))) (hi : i = nI j) (hj : j < n) (hn : n < 2147483648) (kk : QW V iL_append 16 [a0, a1, a2, a3, a4, a5, a6, a7] (st) (q_up h a (.inl (2, n, .inr (.inl (vp_updL f j x))))) z bc bs Kr Kx) : QW V iL_append 15 [a0, a1, a2, a3, a4, a5, a6, a7] (.long x :: .int i :: .ref a :: st) h z bc bs Kr Kx := q_last dL_append_15 ha hi hj hn kk
theorem wL_append_15u {a n j : Nat} {f : Nat → Int64} {i : Int32} {x : Int64} (hi : i = nI j) (hj : j < n) (hn : n < 2147483648) (kk : QW V iL_append 16 [a0, a1, a2, a3, a4, a5, a6, a7] (st) (q_up h a (.inl (2, n, .inr (.inl (vp_updL f j x))))) z bc bs Kr Kx) : QW V iL_append 15 [a0, a1, a2, a3, a4, a5, a6, a7] (.long x :: .int i :: .ref a :: st) (q_up h a (.inl (2, n, .inr (.inl f)))) z bc bs Kr Kx := wL_append_15 q_up_s hi hj hn (by rw [q_up_u]; exact kk)
theorem dL_append_16 : decode (i_b iL_append) 16 = .ok (.goto 7, 3) := by decide +kernel
theorem wL_append_16  (kk : QW V iL_append 23 [a0, a1, a2, a3, a4, a5, a6, a7] (st) h z bc bs Kr Kx) : QW V iL_append 16 [a0, a1, a2, a3, a4, a5, a6, a7] (st) h z bc bs Kr Kx := q_goto dL_append_16 (by decide) kk
theorem dL_append_19 : decode (i_b iL_append) 19 = .ok (.astore 7, 2) := by decide +kernel
theorem wL_append_19 {x : Nat} (kk : QW V iL_append 21 [a0, a1, a2, a3, a4, a5, a6, some (.ref x)] (st) h z bc bs Kr Kx) (hp : q_n2 a6 = true := by rfl) : QW V iL_append 19 [a0, a1, a2, a3, a4, a5, a6, a7] (.ref x :: st) h z bc bs Kr Kx := q_astore dL_append_19 (Nat.le_of_ble_eq_true rfl) hp kk
theorem dL_append_21 : decode (i_b iL_append) 21 = .ok (.iconst 1, 1) := by decide +kernel
theorem wL_append_21  (kk : QW V iL_append 22 [a0, a1, a2, a3, a4, a5, a6, a7] (.int (1) :: st) h z bc bs Kr Kx) : QW V iL_append 21 [a0, a1, a2, a3, a4, a5, a6, a7] (st) h z bc bs Kr Kx := q_iconst dL_append_21 (by decide) kk
theorem dL_append_22 : decode (i_b iL_append) 22 = .ok (.ireturn, 1) := by decide +kernel
theorem wL_append_22 {x : Int32} {P : Int32 → q_H → Option Nat → Prop} (hk : P x h z) : QW V iL_append 22 [a0, a1, a2, a3, a4, a5, a6, a7] [.int x] h z bc bs (q_Ki P) Kx := q_iret dL_append_22 rfl rfl ⟨x, rfl, hk⟩
theorem dL_append_23 : decode (i_b iL_append) 23 = .ok (.iconst 0, 1) := by decide +kernel
theorem wL_append_23  (kk : QW V iL_append 24 [a0, a1, a2, a3, a4, a5, a6, a7] (.int (0) :: st) h z bc bs Kr Kx) : QW V iL_append 23 [a0, a1, a2, a3, a4, a5, a6, a7] (st) h z bc bs Kr Kx := q_iconst dL_append_23 (by decide) kk
theorem dL_append_24 : decode (i_b iL_append) 24 = .ok (.ireturn, 1) := by decide +kernel
theorem wL_append_24 {x : Int32} {P : Int32 → q_H → Option Nat → Prop} (hk : P x h z) : QW V iL_append 24 [a0, a1, a2, a3, a4, a5, a6, a7] [.int x] h z bc bs (q_Ki P) Kx := q_iret dL_append_24 rfl rfl ⟨x, rfl, hk⟩
theorem eL_truncate {x0 : Nat} {x1 : Int32} {x2 : Nat} {P : Int32 → q_H → Option Nat → Prop} (kk : QW V iL_truncate 0 [some (.ref x0), some (.int x1), some (.ref x2), none] [] h z 1 6 (q_Ki P) Kx) : QMi V iL_truncate [.ref x0, .int x1, .ref x2] h z P Kx := q_enterH (by decide) (by decide +kernel) rfl (Nat.le_of_ble_eq_true rfl) kk
theorem dL_truncate_0 : decode (i_b iL_truncate) 0 = .ok (.aload_n 2, 1) := by decide +kernel
theorem wL_truncate_0 {x : Nat} (kk : QW V iL_truncate 1 [a0, a1, some (.ref x), a3] (.ref x :: st) h z bc bs Kr Kx) : QW V iL_truncate 0 [a0, a1, some (.ref x), a3] (st) h z bc bs Kr Kx := q_aload_n dL_truncate_0 rfl rfl kk
theorem dL_truncate_1 : decode (i_b iL_truncate) 1 = .ok (.iconst 0, 1) := by decide +kernel
theorem wL_truncate_1  (kk : QW V iL_truncate 2 [a0, a1, a2, a3] (.int (0) :: st) h z bc bs Kr Kx) : QW V iL_truncate 1 [a0, a1, a2, a3] (st) h z bc bs Kr Kx := q_iconst dL_truncate_1 (by decide) kk
theorem dL_truncate_2 : decode (i_b iL_truncate) 2 = .ok (.aload_n 0, 1) := by decide +kernel
theorem wL_truncate_2 {x : Nat} (kk : QW V iL_truncate 3 [some (.ref x), a1, a2, a3] (.ref x :: st) h z bc bs Kr Kx) : QW V iL_truncate 2 [some (.ref x), a1, a2, a3] (st) h z bc bs Kr Kx := q_aload_n dL_truncate_2 rfl rfl kk
theorem dL_truncate_3 : decode (i_b iL_truncate) 3 = .ok (.iload_n 1, 1) := by decide +kernel
theorem wL_truncate_3 {x : Int32} (kk : QW V iL_truncate 4 [a0, some (.int x), a2, a3] (.int x :: st) h z bc bs Kr Kx) : QW V iL_truncate 3 [a0, some (.int x), a2, a3] (st) h z bc bs Kr Kx := q_iload_n dL_truncate_3 rfl rfl kk
theorem dL_truncate_4 : decode (i_b iL_truncate) 4 = .ok (.invokevirtual 15, 3) := by decide +kernel
theorem wL_truncate_4 {a : Nat} {fs : List Value} {x0 : Int32} (hb : h a = some (.inr (9, fs))) (hm : QMi V iX8_truncate [.ref a, .int x0] h z (fun r h' z' => QW V iL_truncate 7 [a0, a1, a2, a3] (.int r :: st) h' z' bc bs Kr Kx) (fun E h2 => (E = "java/lang/IllegalArgumentException" ∧ ∀ q : Nat, QW V iL_truncate 12 [a0, a1, a2, a3] [.ref q] h2 none bc bs Kr Kx))) (hW : (st.map fun v => v.category).sum ≤ 8 := by exact Nat.le_of_ble_eq_true rfl) : QW V iL_truncate 4 [a0, a1, a2, a3] (.int x0 :: .ref a :: st) h z (bc + 1) (bs + 6) Kr Kx := by
  refine q_callVX (y' := iX8_truncate) (As := [.int x0]) (rest := st) dL_truncate_4 k3_100 k3_101 k3_102 k1_1 hhX8_truncate rfl hdX8_truncate rfl rfl (Nat.le_of_ble_eq_true rfl) (Nat.le_of_ble_eq_true rfl) hW hb (fun E h2 => (E = "java/lang/IllegalArgumentException" ∧ ∀ q : Nat, QW V iL_truncate 12 [a0, a1, a2, a3] [.ref q] h2 none bc bs Kr Kx)) (fun E h2 hK => ?_) (QMi.run hm)
  obtain ⟨rfl, hq⟩ := hK
  exact ⟨[], [], (0, 9, 12, 19), rfl, (fun q hq => nomatch hq), by decide, by decide, k3_99, by decide +kernel, hq⟩
theorem dL_truncate_7 : decode (i_b iL_truncate) 7 = .ok (.i2l, 1) := by decide +kernel
theorem wL_truncate_7 {x : Int32} (kk : QW V iL_truncate 8 [a0, a1, a2, a3] (.long (x.toInt64) :: st) h z bc bs Kr Kx) : QW V iL_truncate 7 [a0, a1, a2, a3] (.int x :: st) h z bc bs Kr Kx := q_i2l dL_truncate_7 kk
theorem dL_truncate_8 : decode (i_b iL_truncate) 8 = .ok (.lastore, 1) := by decide +kernel
theorem wL_truncate_8 {a n j : Nat} {f : Nat → Int64} {i : Int32} {x : Int64} (ha : h a = some (.inl (2, n, .inr (.inl f)))) (hi : i = nI j) (hj : j < n) (hn : n < 2147483648) (kk : QW V iL_truncate 9 [a0, a1, a2, a3] (st) (q_up h a (.inl (2, n, .inr (.inl (vp_updL f j x))))) z bc bs Kr Kx) : QW V iL_truncate 8 [a0, a1, a2, a3] (.long x :: .int i :: .ref a :: st) h z bc bs Kr Kx := q_last dL_truncate_8 ha hi hj hn kk
theorem wL_truncate_8u {a n j : Nat} {f : Nat → Int64} {i : Int32} {x : Int64} (hi : i = nI j) (hj : j < n) (hn : n < 2147483648) (kk : QW V iL_truncate 9 [a0, a1, a2, a3] (st) (q_up h a (.inl (2, n, .inr (.inl (vp_updL f j x))))) z bc bs Kr Kx) : QW V iL_truncate 8 [a0, a1, a2, a3] (.long x :: .int i :: .ref a :: st) (q_up h a (.inl (2, n, .inr (.inl f)))) z bc bs Kr Kx := wL_truncate_8 q_up_s hi hj hn (by rw [q_up_u]; exact kk)
theorem dL_truncate_9 : decode (i_b iL_truncate) 9 = .ok (.goto 6, 3) := by decide +kernel
theorem wL_truncate_9  (kk : QW V iL_truncate 15 [a0, a1, a2, a3] (st) h z bc bs Kr Kx) : QW V iL_truncate 9 [a0, a1, a2, a3] (st) h z bc bs Kr Kx := q_goto dL_truncate_9 (by decide) kk
theorem dL_truncate_12 : decode (i_b iL_truncate) 12 = .ok (.astore_n 3, 1) := by decide +kernel
theorem wL_truncate_12 {x : Nat} (kk : QW V iL_truncate 13 [a0, a1, a2, some (.ref x)] (st) h z bc bs Kr Kx) (hp : q_n2 a2 = true := by rfl) : QW V iL_truncate 12 [a0, a1, a2, a3] (.ref x :: st) h z bc bs Kr Kx := q_astore_n dL_truncate_12 rfl (Nat.le_of_ble_eq_true rfl) hp kk
theorem dL_truncate_13 : decode (i_b iL_truncate) 13 = .ok (.iconst 1, 1) := by decide +kernel
theorem wL_truncate_13  (kk : QW V iL_truncate 14 [a0, a1, a2, a3] (.int (1) :: st) h z bc bs Kr Kx) : QW V iL_truncate 13 [a0, a1, a2, a3] (st) h z bc bs Kr Kx := q_iconst dL_truncate_13 (by decide) kk
theorem dL_truncate_14 : decode (i_b iL_truncate) 14 = .ok (.ireturn, 1) := by decide +kernel
theorem wL_truncate_14 {x : Int32} {P : Int32 → q_H → Option Nat → Prop} (hk : P x h z) : QW V iL_truncate 14 [a0, a1, a2, a3] [.int x] h z bc bs (q_Ki P) Kx := q_iret dL_truncate_14 rfl rfl ⟨x, rfl, hk⟩
theorem dL_truncate_15 : decode (i_b iL_truncate) 15 = .ok (.iconst 0, 1) := by decide +kernel
theorem wL_truncate_15  (kk : QW V iL_truncate 16 [a0, a1, a2, a3] (.int (0) :: st) h z bc bs Kr Kx) : QW V iL_truncate 15 [a0, a1, a2, a3] (st) h z bc bs Kr Kx := q_iconst dL_truncate_15 (by decide) kk
theorem dL_truncate_16 : decode (i_b iL_truncate) 16 = .ok (.ireturn, 1) := by decide +kernel
theorem wL_truncate_16 {x : Int32} {P : Int32 → q_H → Option Nat → Prop} (hk : P x h z) : QW V iL_truncate 16 [a0, a1, a2, a3] [.int x] h z bc bs (q_Ki P) Kx := q_iret dL_truncate_16 rfl rfl ⟨x, rfl, hk⟩
theorem eL_makeOffer {x0 : Nat} {x1 : Int32} {x2 : Int32} {x3 : Int32} {x4 : Int32} {x5 : Int32} {x6 : Nat} {P : Int32 → q_H → Option Nat → Prop} (kk : QW V iL_makeOffer 0 [some (.ref x0), some (.int x1), some (.int x2), some (.int x3), some (.int x4), some (.int x5), some (.ref x6), none] [] h z 6 36 (q_Ki P) Kx) : QMi V iL_makeOffer [.ref x0, .int x1, .int x2, .int x3, .int x4, .int x5, .ref x6] h z P Kx := q_enterH (by decide) (by decide +kernel) rfl (Nat.le_of_ble_eq_true rfl) kk
theorem dL_makeOffer_0 : decode (i_b iL_makeOffer) 0 = .ok (.aload 6, 2) := by decide +kernel
theorem wL_makeOffer_0 {x : Nat} (kk : QW V iL_makeOffer 2 [a0, a1, a2, a3, a4, a5, some (.ref x), a7] (.ref x :: st) h z bc bs Kr Kx) : QW V iL_makeOffer 0 [a0, a1, a2, a3, a4, a5, some (.ref x), a7] (st) h z bc bs Kr Kx := q_aload dL_makeOffer_0 rfl kk
theorem dL_makeOffer_2 : decode (i_b iL_makeOffer) 2 = .ok (.iconst 0, 1) := by decide +kernel
theorem wL_makeOffer_2  (kk : QW V iL_makeOffer 3 [a0, a1, a2, a3, a4, a5, a6, a7] (.int (0) :: st) h z bc bs Kr Kx) : QW V iL_makeOffer 2 [a0, a1, a2, a3, a4, a5, a6, a7] (st) h z bc bs Kr Kx := q_iconst dL_makeOffer_2 (by decide) kk
theorem dL_makeOffer_3 : decode (i_b iL_makeOffer) 3 = .ok (.aload_n 0, 1) := by decide +kernel
theorem wL_makeOffer_3 {x : Nat} (kk : QW V iL_makeOffer 4 [some (.ref x), a1, a2, a3, a4, a5, a6, a7] (.ref x :: st) h z bc bs Kr Kx) : QW V iL_makeOffer 3 [some (.ref x), a1, a2, a3, a4, a5, a6, a7] (st) h z bc bs Kr Kx := q_aload_n dL_makeOffer_3 rfl rfl kk
theorem dL_makeOffer_4 : decode (i_b iL_makeOffer) 4 = .ok (.iload_n 1, 1) := by decide +kernel
theorem wL_makeOffer_4 {x : Int32} (kk : QW V iL_makeOffer 5 [a0, some (.int x), a2, a3, a4, a5, a6, a7] (.int x :: st) h z bc bs Kr Kx) : QW V iL_makeOffer 4 [a0, some (.int x), a2, a3, a4, a5, a6, a7] (st) h z bc bs Kr Kx := q_iload_n dL_makeOffer_4 rfl rfl kk
theorem dL_makeOffer_5 : decode (i_b iL_makeOffer) 5 = .ok (.iload_n 2, 1) := by decide +kernel
theorem wL_makeOffer_5 {x : Int32} (kk : QW V iL_makeOffer 6 [a0, a1, some (.int x), a3, a4, a5, a6, a7] (.int x :: st) h z bc bs Kr Kx) : QW V iL_makeOffer 5 [a0, a1, some (.int x), a3, a4, a5, a6, a7] (st) h z bc bs Kr Kx := q_iload_n dL_makeOffer_5 rfl rfl kk
theorem dL_makeOffer_6 : decode (i_b iL_makeOffer) 6 = .ok (.iload_n 3, 1) := by decide +kernel
theorem wL_makeOffer_6 {x : Int32} (kk : QW V iL_makeOffer 7 [a0, a1, a2, some (.int x), a4, a5, a6, a7] (.int x :: st) h z bc bs Kr Kx) : QW V iL_makeOffer 6 [a0, a1, a2, some (.int x), a4, a5, a6, a7] (st) h z bc bs Kr Kx := q_iload_n dL_makeOffer_6 rfl rfl kk
theorem dL_makeOffer_7 : decode (i_b iL_makeOffer) 7 = .ok (.iload 4, 2) := by decide +kernel
theorem wL_makeOffer_7 {x : Int32} (kk : QW V iL_makeOffer 9 [a0, a1, a2, a3, some (.int x), a5, a6, a7] (.int x :: st) h z bc bs Kr Kx) : QW V iL_makeOffer 7 [a0, a1, a2, a3, some (.int x), a5, a6, a7] (st) h z bc bs Kr Kx := q_iload dL_makeOffer_7 rfl kk
theorem dL_makeOffer_9 : decode (i_b iL_makeOffer) 9 = .ok (.iload 5, 2) := by decide +kernel
theorem wL_makeOffer_9 {x : Int32} (kk : QW V iL_makeOffer 11 [a0, a1, a2, a3, a4, some (.int x), a6, a7] (.int x :: st) h z bc bs Kr Kx) : QW V iL_makeOffer 9 [a0, a1, a2, a3, a4, some (.int x), a6, a7] (st) h z bc bs Kr Kx := q_iload dL_makeOffer_9 rfl kk
theorem dL_makeOffer_11 : decode (i_b iL_makeOffer) 11 = .ok (.invokevirtual 21, 3) := by decide +kernel
theorem wL_makeOffer_11 {a : Nat} {fs : List Value} {x0 : Int32} {x1 : Int32} {x2 : Int32} {x3 : Int32} {x4 : Int32} (hb : h a = some (.inr (9, fs))) (hm : QMi V iX8_makeOffer [.ref a, .int x0, .int x1, .int x2, .int x3, .int x4] h z (fun r h' z' => QW V iL_makeOffer 14 [a0, a1, a2, a3, a4, a5, a6, a7] (.int r :: st) h' z' bc bs Kr Kx) (fun E h2 => (E = "java/lang/IllegalStateException" ∧ ∀ q : Nat, QW V iL_makeOffer 19 [a0, a1, a2, a3, a4, a5, a6, a7] [.ref q] h2 none bc bs Kr Kx) ∨ (E = "java/lang/IllegalArgumentException" ∧ ∀ q : Nat, QW V iL_makeOffer 23 [a0, a1, a2, a3, a4, a5, a6, a7] [.ref q] h2 none bc bs Kr Kx))) (hW : (st.map fun v => v.category).sum ≤ 8 := by exact Nat.le_of_ble_eq_true rfl) : QW V iL_makeOffer 11 [a0, a1, a2, a3, a4, a5, a6, a7] (.int x4 :: .int x3 :: .int x2 :: .int x1 :: .int x0 :: .ref a :: st) h z (bc + 6) (bs + 36) Kr Kx := by
  refine q_callVX (y' := iX8_makeOffer) (As := [.int x0, .int x1, .int x2, .int x3, .int x4]) (rest := st) dL_makeOffer_11 k3_126 k3_127 k3_128 k1_1 hhX8_makeOffer rfl hdX8_makeOffer rfl rfl (Nat.le_of_ble_eq_true rfl) (Nat.le_of_ble_eq_true rfl) hW hb (fun E h2 => (E = "java/lang/IllegalStateException" ∧ ∀ q : Nat, QW V iL_makeOffer 19 [a0, a1, a2, a3, a4, a5, a6, a7] [.ref q] h2 none bc bs Kr Kx) ∨ (E = "java/lang/IllegalArgumentException" ∧ ∀ q : Nat, QW V iL_makeOffer 23 [a0, a1, a2, a3, a4, a5, a6, a7] [.ref q] h2 none bc bs Kr Kx)) (fun E h2 hK => ?_) (QMi.run hm)
  rcases hK with ⟨rfl, hq⟩ | ⟨rfl, hq⟩
  · exact ⟨[], [(0, 16, 23, 19)], (0, 16, 19, 13), rfl, (fun q hq => nomatch hq), by decide, by decide, k3_19, by decide +kernel, hq⟩
  · exact ⟨[(0, 16, 19, 13)], [], (0, 16, 23, 19), rfl, (by intro q hq; simp only [List.mem_cons, List.not_mem_nil, or_false] at hq; subst hq; exact ⟨by decide, "java/lang/IllegalStateException", k3_19, by decide +kernel⟩), by decide, by decide, k3_99, by decide +kernel, hq⟩
theorem dL_makeOffer_14 : decode (i_b iL_makeOffer) 14 = .ok (.i2l, 1) := by decide +kernel
theorem wL_makeOffer_14 {x : Int32} (kk : QW V iL_makeOffer 15 [a0, a1, a2, a3, a4, a5, a6, a7] (.long (x.toInt64) :: st) h z bc bs Kr Kx) : QW V iL_makeOffer 14 [a0, a1, a2, a3, a4, a5, a6, a7] (.int x :: st) h z bc bs Kr Kx := q_i2l dL_makeOffer_14 kk
theorem dL_makeOffer_15 : decode (i_b iL_makeOffer) 15 = .ok (.lastore, 1) := by decide +kernel
theorem wL_makeOffer_15 {a n j : Nat} {f : Nat → Int64} {i : Int32} {x : Int64} (ha : h a = some (.inl (2, n, .inr (.inl f)))) (hi : i = nI j) (hj : j < n) (hn : n < 2147483648) (kk : QW V iL_makeOffer 16 [a0, a1, a2, a3, a4, a5, a6, a7] (st) (q_up h a (.inl (2, n, .inr (.inl (vp_updL f j x))))) z bc bs Kr Kx) : QW V iL_makeOffer 15 [a0, a1, a2, a3, a4, a5, a6, a7] (.long x :: .int i :: .ref a :: st) h z bc bs Kr Kx := q_last dL_makeOffer_15 ha hi hj hn kk
theorem wL_makeOffer_15u {a n j : Nat} {f : Nat → Int64} {i : Int32} {x : Int64} (hi : i = nI j) (hj : j < n) (hn : n < 2147483648) (kk : QW V iL_makeOffer 16 [a0, a1, a2, a3, a4, a5, a6, a7] (st) (q_up h a (.inl (2, n, .inr (.inl (vp_updL f j x))))) z bc bs Kr Kx) : QW V iL_makeOffer 15 [a0, a1, a2, a3, a4, a5, a6, a7] (.long x :: .int i :: .ref a :: st) (q_up h a (.inl (2, n, .inr (.inl f)))) z bc bs Kr Kx := wL_makeOffer_15 q_up_s hi hj hn (by rw [q_up_u]; exact kk)
theorem dL_makeOffer_16 : decode (i_b iL_makeOffer) 16 = .ok (.goto 11, 3) := by decide +kernel
theorem wL_makeOffer_16  (kk : QW V iL_makeOffer 27 [a0, a1, a2, a3, a4, a5, a6, a7] (st) h z bc bs Kr Kx) : QW V iL_makeOffer 16 [a0, a1, a2, a3, a4, a5, a6, a7] (st) h z bc bs Kr Kx := q_goto dL_makeOffer_16 (by decide) kk
theorem dL_makeOffer_19 : decode (i_b iL_makeOffer) 19 = .ok (.astore 7, 2) := by decide +kernel
theorem wL_makeOffer_19 {x : Nat} (kk : QW V iL_makeOffer 21 [a0, a1, a2, a3, a4, a5, a6, some (.ref x)] (st) h z bc bs Kr Kx) (hp : q_n2 a6 = true := by rfl) : QW V iL_makeOffer 19 [a0, a1, a2, a3, a4, a5, a6, a7] (.ref x :: st) h z bc bs Kr Kx := q_astore dL_makeOffer_19 (Nat.le_of_ble_eq_true rfl) hp kk
theorem dL_makeOffer_21 : decode (i_b iL_makeOffer) 21 = .ok (.iconst 1, 1) := by decide +kernel
theorem wL_makeOffer_21  (kk : QW V iL_makeOffer 22 [a0, a1, a2, a3, a4, a5, a6, a7] (.int (1) :: st) h z bc bs Kr Kx) : QW V iL_makeOffer 21 [a0, a1, a2, a3, a4, a5, a6, a7] (st) h z bc bs Kr Kx := q_iconst dL_makeOffer_21 (by decide) kk
theorem dL_makeOffer_22 : decode (i_b iL_makeOffer) 22 = .ok (.ireturn, 1) := by decide +kernel
theorem wL_makeOffer_22 {x : Int32} {P : Int32 → q_H → Option Nat → Prop} (hk : P x h z) : QW V iL_makeOffer 22 [a0, a1, a2, a3, a4, a5, a6, a7] [.int x] h z bc bs (q_Ki P) Kx := q_iret dL_makeOffer_22 rfl rfl ⟨x, rfl, hk⟩
theorem dL_makeOffer_23 : decode (i_b iL_makeOffer) 23 = .ok (.astore 7, 2) := by decide +kernel
theorem wL_makeOffer_23 {x : Nat} (kk : QW V iL_makeOffer 25 [a0, a1, a2, a3, a4, a5, a6, some (.ref x)] (st) h z bc bs Kr Kx) (hp : q_n2 a6 = true := by rfl) : QW V iL_makeOffer 23 [a0, a1, a2, a3, a4, a5, a6, a7] (.ref x :: st) h z bc bs Kr Kx := q_astore dL_makeOffer_23 (Nat.le_of_ble_eq_true rfl) hp kk
theorem dL_makeOffer_25 : decode (i_b iL_makeOffer) 25 = .ok (.iconst 2, 1) := by decide +kernel
theorem wL_makeOffer_25  (kk : QW V iL_makeOffer 26 [a0, a1, a2, a3, a4, a5, a6, a7] (.int (2) :: st) h z bc bs Kr Kx) : QW V iL_makeOffer 25 [a0, a1, a2, a3, a4, a5, a6, a7] (st) h z bc bs Kr Kx := q_iconst dL_makeOffer_25 (by decide) kk
theorem dL_makeOffer_26 : decode (i_b iL_makeOffer) 26 = .ok (.ireturn, 1) := by decide +kernel
theorem wL_makeOffer_26 {x : Int32} {P : Int32 → q_H → Option Nat → Prop} (hk : P x h z) : QW V iL_makeOffer 26 [a0, a1, a2, a3, a4, a5, a6, a7] [.int x] h z bc bs (q_Ki P) Kx := q_iret dL_makeOffer_26 rfl rfl ⟨x, rfl, hk⟩
theorem dL_makeOffer_27 : decode (i_b iL_makeOffer) 27 = .ok (.iconst 0, 1) := by decide +kernel
theorem wL_makeOffer_27  (kk : QW V iL_makeOffer 28 [a0, a1, a2, a3, a4, a5, a6, a7] (.int (0) :: st) h z bc bs Kr Kx) : QW V iL_makeOffer 27 [a0, a1, a2, a3, a4, a5, a6, a7] (st) h z bc bs Kr Kx := q_iconst dL_makeOffer_27 (by decide) kk
theorem dL_makeOffer_28 : decode (i_b iL_makeOffer) 28 = .ok (.ireturn, 1) := by decide +kernel
theorem wL_makeOffer_28 {x : Int32} {P : Int32 → q_H → Option Nat → Prop} (hk : P x h z) : QW V iL_makeOffer 28 [a0, a1, a2, a3, a4, a5, a6, a7] [.int x] h z bc bs (q_Ki P) Kx := q_iret dL_makeOffer_28 rfl rfl ⟨x, rfl, hk⟩
theorem eL_sign {x0 : Nat} {x1 : Int32} {x2 : Int32} {x3 : Int32} {x4 : Nat} {P : Int32 → q_H → Option Nat → Prop} (kk : QW V iL_sign 0 [some (.ref x0), some (.int x1), some (.int x2), some (.int x3), some (.ref x4), none] [] h z 4 24 (q_Ki P) Kx) : QMi V iL_sign [.ref x0, .int x1, .int x2, .int x3, .ref x4] h z P Kx := q_enterH (by decide) (by decide +kernel) rfl (Nat.le_of_ble_eq_true rfl) kk
theorem dL_sign_0 : decode (i_b iL_sign) 0 = .ok (.aload 4, 2) := by decide +kernel
theorem wL_sign_0 {x : Nat} (kk : QW V iL_sign 2 [a0, a1, a2, a3, some (.ref x), a5] (.ref x :: st) h z bc bs Kr Kx) : QW V iL_sign 0 [a0, a1, a2, a3, some (.ref x), a5] (st) h z bc bs Kr Kx := q_aload dL_sign_0 rfl kk
theorem dL_sign_2 : decode (i_b iL_sign) 2 = .ok (.iconst 0, 1) := by decide +kernel
theorem wL_sign_2  (kk : QW V iL_sign 3 [a0, a1, a2, a3, a4, a5] (.int (0) :: st) h z bc bs Kr Kx) : QW V iL_sign 2 [a0, a1, a2, a3, a4, a5] (st) h z bc bs Kr Kx := q_iconst dL_sign_2 (by decide) kk
theorem dL_sign_3 : decode (i_b iL_sign) 3 = .ok (.aload_n 0, 1) := by decide +kernel
theorem wL_sign_3 {x : Nat} (kk : QW V iL_sign 4 [some (.ref x), a1, a2, a3, a4, a5] (.ref x :: st) h z bc bs Kr Kx) : QW V iL_sign 3 [some (.ref x), a1, a2, a3, a4, a5] (st) h z bc bs Kr Kx := q_aload_n dL_sign_3 rfl rfl kk
theorem dL_sign_4 : decode (i_b iL_sign) 4 = .ok (.iload_n 1, 1) := by decide +kernel
theorem wL_sign_4 {x : Int32} (kk : QW V iL_sign 5 [a0, some (.int x), a2, a3, a4, a5] (.int x :: st) h z bc bs Kr Kx) : QW V iL_sign 4 [a0, some (.int x), a2, a3, a4, a5] (st) h z bc bs Kr Kx := q_iload_n dL_sign_4 rfl rfl kk
theorem dL_sign_5 : decode (i_b iL_sign) 5 = .ok (.iload_n 2, 1) := by decide +kernel
theorem wL_sign_5 {x : Int32} (kk : QW V iL_sign 6 [a0, a1, some (.int x), a3, a4, a5] (.int x :: st) h z bc bs Kr Kx) : QW V iL_sign 5 [a0, a1, some (.int x), a3, a4, a5] (st) h z bc bs Kr Kx := q_iload_n dL_sign_5 rfl rfl kk
theorem dL_sign_6 : decode (i_b iL_sign) 6 = .ok (.iload_n 3, 1) := by decide +kernel
theorem wL_sign_6 {x : Int32} (kk : QW V iL_sign 7 [a0, a1, a2, some (.int x), a4, a5] (.int x :: st) h z bc bs Kr Kx) : QW V iL_sign 6 [a0, a1, a2, some (.int x), a4, a5] (st) h z bc bs Kr Kx := q_iload_n dL_sign_6 rfl rfl kk
theorem dL_sign_7 : decode (i_b iL_sign) 7 = .ok (.invokevirtual 24, 3) := by decide +kernel
theorem wL_sign_7 {a : Nat} {fs : List Value} {x0 : Int32} {x1 : Int32} {x2 : Int32} (hb : h a = some (.inr (9, fs))) (hm : QMi V iX8_sign [.ref a, .int x0, .int x1, .int x2] h z (fun r h' z' => QW V iL_sign 10 [a0, a1, a2, a3, a4, a5] (.int r :: st) h' z' bc bs Kr Kx) (fun E h2 => (E = "java/lang/IllegalStateException" ∧ ∀ q : Nat, QW V iL_sign 15 [a0, a1, a2, a3, a4, a5] [.ref q] h2 none bc bs Kr Kx) ∨ (E = "java/lang/IllegalArgumentException" ∧ ∀ q : Nat, QW V iL_sign 19 [a0, a1, a2, a3, a4, a5] [.ref q] h2 none bc bs Kr Kx))) (hW : (st.map fun v => v.category).sum ≤ 8 := by exact Nat.le_of_ble_eq_true rfl) : QW V iL_sign 7 [a0, a1, a2, a3, a4, a5] (.int x2 :: .int x1 :: .int x0 :: .ref a :: st) h z (bc + 4) (bs + 24) Kr Kx := by
  refine q_callVX (y' := iX8_sign) (As := [.int x0, .int x1, .int x2]) (rest := st) dL_sign_7 k3_169 k3_170 k3_171 k1_1 hhX8_sign rfl hdX8_sign rfl rfl (Nat.le_of_ble_eq_true rfl) (Nat.le_of_ble_eq_true rfl) hW hb (fun E h2 => (E = "java/lang/IllegalStateException" ∧ ∀ q : Nat, QW V iL_sign 15 [a0, a1, a2, a3, a4, a5] [.ref q] h2 none bc bs Kr Kx) ∨ (E = "java/lang/IllegalArgumentException" ∧ ∀ q : Nat, QW V iL_sign 19 [a0, a1, a2, a3, a4, a5] [.ref q] h2 none bc bs Kr Kx)) (fun E h2 hK => ?_) (QMi.run hm)
  rcases hK with ⟨rfl, hq⟩ | ⟨rfl, hq⟩
  · exact ⟨[], [(0, 12, 19, 19)], (0, 12, 15, 13), rfl, (fun q hq => nomatch hq), by decide, by decide, k3_19, by decide +kernel, hq⟩
  · exact ⟨[(0, 12, 15, 13)], [], (0, 12, 19, 19), rfl, (by intro q hq; simp only [List.mem_cons, List.not_mem_nil, or_false] at hq; subst hq; exact ⟨by decide, "java/lang/IllegalStateException", k3_19, by decide +kernel⟩), by decide, by decide, k3_99, by decide +kernel, hq⟩
theorem dL_sign_10 : decode (i_b iL_sign) 10 = .ok (.i2l, 1) := by decide +kernel
theorem wL_sign_10 {x : Int32} (kk : QW V iL_sign 11 [a0, a1, a2, a3, a4, a5] (.long (x.toInt64) :: st) h z bc bs Kr Kx) : QW V iL_sign 10 [a0, a1, a2, a3, a4, a5] (.int x :: st) h z bc bs Kr Kx := q_i2l dL_sign_10 kk
theorem dL_sign_11 : decode (i_b iL_sign) 11 = .ok (.lastore, 1) := by decide +kernel
theorem wL_sign_11 {a n j : Nat} {f : Nat → Int64} {i : Int32} {x : Int64} (ha : h a = some (.inl (2, n, .inr (.inl f)))) (hi : i = nI j) (hj : j < n) (hn : n < 2147483648) (kk : QW V iL_sign 12 [a0, a1, a2, a3, a4, a5] (st) (q_up h a (.inl (2, n, .inr (.inl (vp_updL f j x))))) z bc bs Kr Kx) : QW V iL_sign 11 [a0, a1, a2, a3, a4, a5] (.long x :: .int i :: .ref a :: st) h z bc bs Kr Kx := q_last dL_sign_11 ha hi hj hn kk
theorem wL_sign_11u {a n j : Nat} {f : Nat → Int64} {i : Int32} {x : Int64} (hi : i = nI j) (hj : j < n) (hn : n < 2147483648) (kk : QW V iL_sign 12 [a0, a1, a2, a3, a4, a5] (st) (q_up h a (.inl (2, n, .inr (.inl (vp_updL f j x))))) z bc bs Kr Kx) : QW V iL_sign 11 [a0, a1, a2, a3, a4, a5] (.long x :: .int i :: .ref a :: st) (q_up h a (.inl (2, n, .inr (.inl f)))) z bc bs Kr Kx := wL_sign_11 q_up_s hi hj hn (by rw [q_up_u]; exact kk)
theorem dL_sign_12 : decode (i_b iL_sign) 12 = .ok (.goto 11, 3) := by decide +kernel
theorem wL_sign_12  (kk : QW V iL_sign 23 [a0, a1, a2, a3, a4, a5] (st) h z bc bs Kr Kx) : QW V iL_sign 12 [a0, a1, a2, a3, a4, a5] (st) h z bc bs Kr Kx := q_goto dL_sign_12 (by decide) kk
theorem dL_sign_15 : decode (i_b iL_sign) 15 = .ok (.astore 5, 2) := by decide +kernel
theorem wL_sign_15 {x : Nat} (kk : QW V iL_sign 17 [a0, a1, a2, a3, a4, some (.ref x)] (st) h z bc bs Kr Kx) (hp : q_n2 a4 = true := by rfl) : QW V iL_sign 15 [a0, a1, a2, a3, a4, a5] (.ref x :: st) h z bc bs Kr Kx := q_astore dL_sign_15 (Nat.le_of_ble_eq_true rfl) hp kk
theorem dL_sign_17 : decode (i_b iL_sign) 17 = .ok (.iconst 1, 1) := by decide +kernel
theorem wL_sign_17  (kk : QW V iL_sign 18 [a0, a1, a2, a3, a4, a5] (.int (1) :: st) h z bc bs Kr Kx) : QW V iL_sign 17 [a0, a1, a2, a3, a4, a5] (st) h z bc bs Kr Kx := q_iconst dL_sign_17 (by decide) kk
theorem dL_sign_18 : decode (i_b iL_sign) 18 = .ok (.ireturn, 1) := by decide +kernel
theorem wL_sign_18 {x : Int32} {P : Int32 → q_H → Option Nat → Prop} (hk : P x h z) : QW V iL_sign 18 [a0, a1, a2, a3, a4, a5] [.int x] h z bc bs (q_Ki P) Kx := q_iret dL_sign_18 rfl rfl ⟨x, rfl, hk⟩
theorem dL_sign_19 : decode (i_b iL_sign) 19 = .ok (.astore 5, 2) := by decide +kernel
theorem wL_sign_19 {x : Nat} (kk : QW V iL_sign 21 [a0, a1, a2, a3, a4, some (.ref x)] (st) h z bc bs Kr Kx) (hp : q_n2 a4 = true := by rfl) : QW V iL_sign 19 [a0, a1, a2, a3, a4, a5] (.ref x :: st) h z bc bs Kr Kx := q_astore dL_sign_19 (Nat.le_of_ble_eq_true rfl) hp kk
theorem dL_sign_21 : decode (i_b iL_sign) 21 = .ok (.iconst 2, 1) := by decide +kernel
theorem wL_sign_21  (kk : QW V iL_sign 22 [a0, a1, a2, a3, a4, a5] (.int (2) :: st) h z bc bs Kr Kx) : QW V iL_sign 21 [a0, a1, a2, a3, a4, a5] (st) h z bc bs Kr Kx := q_iconst dL_sign_21 (by decide) kk
theorem dL_sign_22 : decode (i_b iL_sign) 22 = .ok (.ireturn, 1) := by decide +kernel
theorem wL_sign_22 {x : Int32} {P : Int32 → q_H → Option Nat → Prop} (hk : P x h z) : QW V iL_sign 22 [a0, a1, a2, a3, a4, a5] [.int x] h z bc bs (q_Ki P) Kx := q_iret dL_sign_22 rfl rfl ⟨x, rfl, hk⟩
theorem dL_sign_23 : decode (i_b iL_sign) 23 = .ok (.iconst 0, 1) := by decide +kernel
theorem wL_sign_23  (kk : QW V iL_sign 24 [a0, a1, a2, a3, a4, a5] (.int (0) :: st) h z bc bs Kr Kx) : QW V iL_sign 23 [a0, a1, a2, a3, a4, a5] (st) h z bc bs Kr Kx := q_iconst dL_sign_23 (by decide) kk
theorem dL_sign_24 : decode (i_b iL_sign) 24 = .ok (.ireturn, 1) := by decide +kernel
theorem wL_sign_24 {x : Int32} {P : Int32 → q_H → Option Nat → Prop} (hk : P x h z) : QW V iL_sign 24 [a0, a1, a2, a3, a4, a5] [.int x] h z bc bs (q_Ki P) Kx := q_iret dL_sign_24 rfl rfl ⟨x, rfl, hk⟩
theorem eL_release {x0 : Nat} {x1 : Int32} {x2 : Int32} {x3 : Nat} {P : Int32 → q_H → Option Nat → Prop} (kk : QW V iL_release 0 [some (.ref x0), some (.int x1), some (.int x2), some (.ref x3), none] [] h z 2 12 (q_Ki P) Kx) : QMi V iL_release [.ref x0, .int x1, .int x2, .ref x3] h z P Kx := q_enterH (by decide) (by decide +kernel) rfl (Nat.le_of_ble_eq_true rfl) kk
theorem dL_release_0 : decode (i_b iL_release) 0 = .ok (.aload_n 3, 1) := by decide +kernel
theorem wL_release_0 {x : Nat} (kk : QW V iL_release 1 [a0, a1, a2, some (.ref x), a4] (.ref x :: st) h z bc bs Kr Kx) : QW V iL_release 0 [a0, a1, a2, some (.ref x), a4] (st) h z bc bs Kr Kx := q_aload_n dL_release_0 rfl rfl kk
theorem dL_release_1 : decode (i_b iL_release) 1 = .ok (.iconst 0, 1) := by decide +kernel
theorem wL_release_1  (kk : QW V iL_release 2 [a0, a1, a2, a3, a4] (.int (0) :: st) h z bc bs Kr Kx) : QW V iL_release 1 [a0, a1, a2, a3, a4] (st) h z bc bs Kr Kx := q_iconst dL_release_1 (by decide) kk
theorem dL_release_2 : decode (i_b iL_release) 2 = .ok (.aload_n 0, 1) := by decide +kernel
theorem wL_release_2 {x : Nat} (kk : QW V iL_release 3 [some (.ref x), a1, a2, a3, a4] (.ref x :: st) h z bc bs Kr Kx) : QW V iL_release 2 [some (.ref x), a1, a2, a3, a4] (st) h z bc bs Kr Kx := q_aload_n dL_release_2 rfl rfl kk
theorem dL_release_3 : decode (i_b iL_release) 3 = .ok (.iload_n 1, 1) := by decide +kernel
theorem wL_release_3 {x : Int32} (kk : QW V iL_release 4 [a0, some (.int x), a2, a3, a4] (.int x :: st) h z bc bs Kr Kx) : QW V iL_release 3 [a0, some (.int x), a2, a3, a4] (st) h z bc bs Kr Kx := q_iload_n dL_release_3 rfl rfl kk
theorem dL_release_4 : decode (i_b iL_release) 4 = .ok (.iload_n 2, 1) := by decide +kernel
theorem wL_release_4 {x : Int32} (kk : QW V iL_release 5 [a0, a1, some (.int x), a3, a4] (.int x :: st) h z bc bs Kr Kx) : QW V iL_release 4 [a0, a1, some (.int x), a3, a4] (st) h z bc bs Kr Kx := q_iload_n dL_release_4 rfl rfl kk
theorem dL_release_5 : decode (i_b iL_release) 5 = .ok (.invokevirtual 28, 3) := by decide +kernel
theorem wL_release_5 {a : Nat} {fs : List Value} {x0 : Int32} {x1 : Int32} (hb : h a = some (.inr (9, fs))) (hm : QMi V iX8_release [.ref a, .int x0, .int x1] h z (fun r h' z' => QW V iL_release 8 [a0, a1, a2, a3, a4] (.int r :: st) h' z' bc bs Kr Kx) (fun E h2 => (E = "java/lang/IllegalStateException" ∧ ∀ q : Nat, QW V iL_release 13 [a0, a1, a2, a3, a4] [.ref q] h2 none bc bs Kr Kx) ∨ (E = "java/lang/IllegalArgumentException" ∧ ∀ q : Nat, QW V iL_release 17 [a0, a1, a2, a3, a4] [.ref q] h2 none bc bs Kr Kx))) (hW : (st.map fun v => v.category).sum ≤ 8 := by exact Nat.le_of_ble_eq_true rfl) : QW V iL_release 5 [a0, a1, a2, a3, a4] (.int x1 :: .int x0 :: .ref a :: st) h z (bc + 2) (bs + 12) Kr Kx := by
  refine q_callVX (y' := iX8_release) (As := [.int x0, .int x1]) (rest := st) dL_release_5 k3_228 k3_229 k3_230 k1_1 hhX8_release rfl hdX8_release rfl rfl (Nat.le_of_ble_eq_true rfl) (Nat.le_of_ble_eq_true rfl) hW hb (fun E h2 => (E = "java/lang/IllegalStateException" ∧ ∀ q : Nat, QW V iL_release 13 [a0, a1, a2, a3, a4] [.ref q] h2 none bc bs Kr Kx) ∨ (E = "java/lang/IllegalArgumentException" ∧ ∀ q : Nat, QW V iL_release 17 [a0, a1, a2, a3, a4] [.ref q] h2 none bc bs Kr Kx)) (fun E h2 hK => ?_) (QMi.run hm)
  rcases hK with ⟨rfl, hq⟩ | ⟨rfl, hq⟩
  · exact ⟨[], [(0, 10, 17, 19)], (0, 10, 13, 13), rfl, (fun q hq => nomatch hq), by decide, by decide, k3_19, by decide +kernel, hq⟩
  · exact ⟨[(0, 10, 13, 13)], [], (0, 10, 17, 19), rfl, (by intro q hq; simp only [List.mem_cons, List.not_mem_nil, or_false] at hq; subst hq; exact ⟨by decide, "java/lang/IllegalStateException", k3_19, by decide +kernel⟩), by decide, by decide, k3_99, by decide +kernel, hq⟩
theorem dL_release_8 : decode (i_b iL_release) 8 = .ok (.i2l, 1) := by decide +kernel
theorem wL_release_8 {x : Int32} (kk : QW V iL_release 9 [a0, a1, a2, a3, a4] (.long (x.toInt64) :: st) h z bc bs Kr Kx) : QW V iL_release 8 [a0, a1, a2, a3, a4] (.int x :: st) h z bc bs Kr Kx := q_i2l dL_release_8 kk
theorem dL_release_9 : decode (i_b iL_release) 9 = .ok (.lastore, 1) := by decide +kernel
theorem wL_release_9 {a n j : Nat} {f : Nat → Int64} {i : Int32} {x : Int64} (ha : h a = some (.inl (2, n, .inr (.inl f)))) (hi : i = nI j) (hj : j < n) (hn : n < 2147483648) (kk : QW V iL_release 10 [a0, a1, a2, a3, a4] (st) (q_up h a (.inl (2, n, .inr (.inl (vp_updL f j x))))) z bc bs Kr Kx) : QW V iL_release 9 [a0, a1, a2, a3, a4] (.long x :: .int i :: .ref a :: st) h z bc bs Kr Kx := q_last dL_release_9 ha hi hj hn kk
theorem wL_release_9u {a n j : Nat} {f : Nat → Int64} {i : Int32} {x : Int64} (hi : i = nI j) (hj : j < n) (hn : n < 2147483648) (kk : QW V iL_release 10 [a0, a1, a2, a3, a4] (st) (q_up h a (.inl (2, n, .inr (.inl (vp_updL f j x))))) z bc bs Kr Kx) : QW V iL_release 9 [a0, a1, a2, a3, a4] (.long x :: .int i :: .ref a :: st) (q_up h a (.inl (2, n, .inr (.inl f)))) z bc bs Kr Kx := wL_release_9 q_up_s hi hj hn (by rw [q_up_u]; exact kk)
theorem dL_release_10 : decode (i_b iL_release) 10 = .ok (.goto 11, 3) := by decide +kernel
theorem wL_release_10  (kk : QW V iL_release 21 [a0, a1, a2, a3, a4] (st) h z bc bs Kr Kx) : QW V iL_release 10 [a0, a1, a2, a3, a4] (st) h z bc bs Kr Kx := q_goto dL_release_10 (by decide) kk
theorem dL_release_13 : decode (i_b iL_release) 13 = .ok (.astore 4, 2) := by decide +kernel
theorem wL_release_13 {x : Nat} (kk : QW V iL_release 15 [a0, a1, a2, a3, some (.ref x)] (st) h z bc bs Kr Kx) (hp : q_n2 a3 = true := by rfl) : QW V iL_release 13 [a0, a1, a2, a3, a4] (.ref x :: st) h z bc bs Kr Kx := q_astore dL_release_13 (Nat.le_of_ble_eq_true rfl) hp kk
theorem dL_release_15 : decode (i_b iL_release) 15 = .ok (.iconst 1, 1) := by decide +kernel
theorem wL_release_15  (kk : QW V iL_release 16 [a0, a1, a2, a3, a4] (.int (1) :: st) h z bc bs Kr Kx) : QW V iL_release 15 [a0, a1, a2, a3, a4] (st) h z bc bs Kr Kx := q_iconst dL_release_15 (by decide) kk
theorem dL_release_16 : decode (i_b iL_release) 16 = .ok (.ireturn, 1) := by decide +kernel
theorem wL_release_16 {x : Int32} {P : Int32 → q_H → Option Nat → Prop} (hk : P x h z) : QW V iL_release 16 [a0, a1, a2, a3, a4] [.int x] h z bc bs (q_Ki P) Kx := q_iret dL_release_16 rfl rfl ⟨x, rfl, hk⟩
theorem dL_release_17 : decode (i_b iL_release) 17 = .ok (.astore 4, 2) := by decide +kernel
theorem wL_release_17 {x : Nat} (kk : QW V iL_release 19 [a0, a1, a2, a3, some (.ref x)] (st) h z bc bs Kr Kx) (hp : q_n2 a3 = true := by rfl) : QW V iL_release 17 [a0, a1, a2, a3, a4] (.ref x :: st) h z bc bs Kr Kx := q_astore dL_release_17 (Nat.le_of_ble_eq_true rfl) hp kk
theorem dL_release_19 : decode (i_b iL_release) 19 = .ok (.iconst 2, 1) := by decide +kernel
theorem wL_release_19  (kk : QW V iL_release 20 [a0, a1, a2, a3, a4] (.int (2) :: st) h z bc bs Kr Kx) : QW V iL_release 19 [a0, a1, a2, a3, a4] (st) h z bc bs Kr Kx := q_iconst dL_release_19 (by decide) kk
theorem dL_release_20 : decode (i_b iL_release) 20 = .ok (.ireturn, 1) := by decide +kernel
theorem wL_release_20 {x : Int32} {P : Int32 → q_H → Option Nat → Prop} (hk : P x h z) : QW V iL_release 20 [a0, a1, a2, a3, a4] [.int x] h z bc bs (q_Ki P) Kx := q_iret dL_release_20 rfl rfl ⟨x, rfl, hk⟩
theorem dL_release_21 : decode (i_b iL_release) 21 = .ok (.iconst 0, 1) := by decide +kernel
theorem wL_release_21  (kk : QW V iL_release 22 [a0, a1, a2, a3, a4] (.int (0) :: st) h z bc bs Kr Kx) : QW V iL_release 21 [a0, a1, a2, a3, a4] (st) h z bc bs Kr Kx := q_iconst dL_release_21 (by decide) kk
theorem dL_release_22 : decode (i_b iL_release) 22 = .ok (.ireturn, 1) := by decide +kernel
theorem wL_release_22 {x : Int32} {P : Int32 → q_H → Option Nat → Prop} (hk : P x h z) : QW V iL_release 22 [a0, a1, a2, a3, a4] [.int x] h z bc bs (q_Ki P) Kx := q_iret dL_release_22 rfl rfl ⟨x, rfl, hk⟩
theorem eL_trade {x0 : Nat} {x1 : Int32} {x2 : Int32} {x3 : Int32} {x4 : Int32} {x5 : Nat} {P : Int32 → q_H → Option Nat → Prop} (kk : QW V iL_trade 0 [some (.ref x0), some (.int x1), some (.int x2), some (.int x3), some (.int x4), some (.ref x5), none] [] h z 6 36 (q_Ki P) Kx) : QMi V iL_trade [.ref x0, .int x1, .int x2, .int x3, .int x4, .ref x5] h z P Kx := q_enterH (by decide) (by decide +kernel) rfl (Nat.le_of_ble_eq_true rfl) kk
theorem dL_trade_0 : decode (i_b iL_trade) 0 = .ok (.aload 5, 2) := by decide +kernel
theorem wL_trade_0 {x : Nat} (kk : QW V iL_trade 2 [a0, a1, a2, a3, a4, some (.ref x), a6] (.ref x :: st) h z bc bs Kr Kx) : QW V iL_trade 0 [a0, a1, a2, a3, a4, some (.ref x), a6] (st) h z bc bs Kr Kx := q_aload dL_trade_0 rfl kk
theorem dL_trade_2 : decode (i_b iL_trade) 2 = .ok (.iconst 0, 1) := by decide +kernel
theorem wL_trade_2  (kk : QW V iL_trade 3 [a0, a1, a2, a3, a4, a5, a6] (.int (0) :: st) h z bc bs Kr Kx) : QW V iL_trade 2 [a0, a1, a2, a3, a4, a5, a6] (st) h z bc bs Kr Kx := q_iconst dL_trade_2 (by decide) kk
theorem dL_trade_3 : decode (i_b iL_trade) 3 = .ok (.aload_n 0, 1) := by decide +kernel
theorem wL_trade_3 {x : Nat} (kk : QW V iL_trade 4 [some (.ref x), a1, a2, a3, a4, a5, a6] (.ref x :: st) h z bc bs Kr Kx) : QW V iL_trade 3 [some (.ref x), a1, a2, a3, a4, a5, a6] (st) h z bc bs Kr Kx := q_aload_n dL_trade_3 rfl rfl kk
theorem dL_trade_4 : decode (i_b iL_trade) 4 = .ok (.iload_n 1, 1) := by decide +kernel
theorem wL_trade_4 {x : Int32} (kk : QW V iL_trade 5 [a0, some (.int x), a2, a3, a4, a5, a6] (.int x :: st) h z bc bs Kr Kx) : QW V iL_trade 4 [a0, some (.int x), a2, a3, a4, a5, a6] (st) h z bc bs Kr Kx := q_iload_n dL_trade_4 rfl rfl kk
theorem dL_trade_5 : decode (i_b iL_trade) 5 = .ok (.iload_n 2, 1) := by decide +kernel
theorem wL_trade_5 {x : Int32} (kk : QW V iL_trade 6 [a0, a1, some (.int x), a3, a4, a5, a6] (.int x :: st) h z bc bs Kr Kx) : QW V iL_trade 5 [a0, a1, some (.int x), a3, a4, a5, a6] (st) h z bc bs Kr Kx := q_iload_n dL_trade_5 rfl rfl kk
theorem dL_trade_6 : decode (i_b iL_trade) 6 = .ok (.iload_n 3, 1) := by decide +kernel
theorem wL_trade_6 {x : Int32} (kk : QW V iL_trade 7 [a0, a1, a2, some (.int x), a4, a5, a6] (.int x :: st) h z bc bs Kr Kx) : QW V iL_trade 6 [a0, a1, a2, some (.int x), a4, a5, a6] (st) h z bc bs Kr Kx := q_iload_n dL_trade_6 rfl rfl kk
theorem dL_trade_7 : decode (i_b iL_trade) 7 = .ok (.iload 4, 2) := by decide +kernel
theorem wL_trade_7 {x : Int32} (kk : QW V iL_trade 9 [a0, a1, a2, a3, some (.int x), a5, a6] (.int x :: st) h z bc bs Kr Kx) : QW V iL_trade 7 [a0, a1, a2, a3, some (.int x), a5, a6] (st) h z bc bs Kr Kx := q_iload dL_trade_7 rfl kk
theorem dL_trade_9 : decode (i_b iL_trade) 9 = .ok (.invokevirtual 32, 3) := by decide +kernel
theorem wL_trade_9 {a : Nat} {fs : List Value} {x0 : Int32} {x1 : Int32} {x2 : Int32} {x3 : Int32} (hb : h a = some (.inr (9, fs))) (hm : QMi V iX8_trade [.ref a, .int x0, .int x1, .int x2, .int x3] h z (fun r h' z' => QW V iL_trade 12 [a0, a1, a2, a3, a4, a5, a6] (.int r :: st) h' z' bc bs Kr Kx) (fun E h2 => (E = "java/lang/IllegalStateException" ∧ ∀ q : Nat, QW V iL_trade 17 [a0, a1, a2, a3, a4, a5, a6] [.ref q] h2 none bc bs Kr Kx) ∨ (E = "java/lang/IllegalArgumentException" ∧ ∀ q : Nat, QW V iL_trade 21 [a0, a1, a2, a3, a4, a5, a6] [.ref q] h2 none bc bs Kr Kx))) (hW : (st.map fun v => v.category).sum ≤ 8 := by exact Nat.le_of_ble_eq_true rfl) : QW V iL_trade 9 [a0, a1, a2, a3, a4, a5, a6] (.int x3 :: .int x2 :: .int x1 :: .int x0 :: .ref a :: st) h z (bc + 6) (bs + 36) Kr Kx := by
  refine q_callVX (y' := iX8_trade) (As := [.int x0, .int x1, .int x2, .int x3]) (rest := st) dL_trade_9 k4_26 k4_27 k4_28 k1_1 hhX8_trade rfl hdX8_trade rfl rfl (Nat.le_of_ble_eq_true rfl) (Nat.le_of_ble_eq_true rfl) hW hb (fun E h2 => (E = "java/lang/IllegalStateException" ∧ ∀ q : Nat, QW V iL_trade 17 [a0, a1, a2, a3, a4, a5, a6] [.ref q] h2 none bc bs Kr Kx) ∨ (E = "java/lang/IllegalArgumentException" ∧ ∀ q : Nat, QW V iL_trade 21 [a0, a1, a2, a3, a4, a5, a6] [.ref q] h2 none bc bs Kr Kx)) (fun E h2 hK => ?_) (QMi.run hm)
  rcases hK with ⟨rfl, hq⟩ | ⟨rfl, hq⟩
  · exact ⟨[], [(0, 14, 21, 19)], (0, 14, 17, 13), rfl, (fun q hq => nomatch hq), by decide, by decide, k3_19, by decide +kernel, hq⟩
  · exact ⟨[(0, 14, 17, 13)], [], (0, 14, 21, 19), rfl, (by intro q hq; simp only [List.mem_cons, List.not_mem_nil, or_false] at hq; subst hq; exact ⟨by decide, "java/lang/IllegalStateException", k3_19, by decide +kernel⟩), by decide, by decide, k3_99, by decide +kernel, hq⟩
theorem dL_trade_12 : decode (i_b iL_trade) 12 = .ok (.i2l, 1) := by decide +kernel
theorem wL_trade_12 {x : Int32} (kk : QW V iL_trade 13 [a0, a1, a2, a3, a4, a5, a6] (.long (x.toInt64) :: st) h z bc bs Kr Kx) : QW V iL_trade 12 [a0, a1, a2, a3, a4, a5, a6] (.int x :: st) h z bc bs Kr Kx := q_i2l dL_trade_12 kk
theorem dL_trade_13 : decode (i_b iL_trade) 13 = .ok (.lastore, 1) := by decide +kernel
theorem wL_trade_13 {a n j : Nat} {f : Nat → Int64} {i : Int32} {x : Int64} (ha : h a = some (.inl (2, n, .inr (.inl f)))) (hi : i = nI j) (hj : j < n) (hn : n < 2147483648) (kk : QW V iL_trade 14 [a0, a1, a2, a3, a4, a5, a6] (st) (q_up h a (.inl (2, n, .inr (.inl (vp_updL f j x))))) z bc bs Kr Kx) : QW V iL_trade 13 [a0, a1, a2, a3, a4, a5, a6] (.long x :: .int i :: .ref a :: st) h z bc bs Kr Kx := q_last dL_trade_13 ha hi hj hn kk
theorem wL_trade_13u {a n j : Nat} {f : Nat → Int64} {i : Int32} {x : Int64} (hi : i = nI j) (hj : j < n) (hn : n < 2147483648) (kk : QW V iL_trade 14 [a0, a1, a2, a3, a4, a5, a6] (st) (q_up h a (.inl (2, n, .inr (.inl (vp_updL f j x))))) z bc bs Kr Kx) : QW V iL_trade 13 [a0, a1, a2, a3, a4, a5, a6] (.long x :: .int i :: .ref a :: st) (q_up h a (.inl (2, n, .inr (.inl f)))) z bc bs Kr Kx := wL_trade_13 q_up_s hi hj hn (by rw [q_up_u]; exact kk)
theorem dL_trade_14 : decode (i_b iL_trade) 14 = .ok (.goto 11, 3) := by decide +kernel
theorem wL_trade_14  (kk : QW V iL_trade 25 [a0, a1, a2, a3, a4, a5, a6] (st) h z bc bs Kr Kx) : QW V iL_trade 14 [a0, a1, a2, a3, a4, a5, a6] (st) h z bc bs Kr Kx := q_goto dL_trade_14 (by decide) kk
theorem dL_trade_17 : decode (i_b iL_trade) 17 = .ok (.astore 6, 2) := by decide +kernel
theorem wL_trade_17 {x : Nat} (kk : QW V iL_trade 19 [a0, a1, a2, a3, a4, a5, some (.ref x)] (st) h z bc bs Kr Kx) (hp : q_n2 a5 = true := by rfl) : QW V iL_trade 17 [a0, a1, a2, a3, a4, a5, a6] (.ref x :: st) h z bc bs Kr Kx := q_astore dL_trade_17 (Nat.le_of_ble_eq_true rfl) hp kk
theorem dL_trade_19 : decode (i_b iL_trade) 19 = .ok (.iconst 1, 1) := by decide +kernel
theorem wL_trade_19  (kk : QW V iL_trade 20 [a0, a1, a2, a3, a4, a5, a6] (.int (1) :: st) h z bc bs Kr Kx) : QW V iL_trade 19 [a0, a1, a2, a3, a4, a5, a6] (st) h z bc bs Kr Kx := q_iconst dL_trade_19 (by decide) kk
theorem dL_trade_20 : decode (i_b iL_trade) 20 = .ok (.ireturn, 1) := by decide +kernel
theorem wL_trade_20 {x : Int32} {P : Int32 → q_H → Option Nat → Prop} (hk : P x h z) : QW V iL_trade 20 [a0, a1, a2, a3, a4, a5, a6] [.int x] h z bc bs (q_Ki P) Kx := q_iret dL_trade_20 rfl rfl ⟨x, rfl, hk⟩
theorem dL_trade_21 : decode (i_b iL_trade) 21 = .ok (.astore 6, 2) := by decide +kernel
theorem wL_trade_21 {x : Nat} (kk : QW V iL_trade 23 [a0, a1, a2, a3, a4, a5, some (.ref x)] (st) h z bc bs Kr Kx) (hp : q_n2 a5 = true := by rfl) : QW V iL_trade 21 [a0, a1, a2, a3, a4, a5, a6] (.ref x :: st) h z bc bs Kr Kx := q_astore dL_trade_21 (Nat.le_of_ble_eq_true rfl) hp kk
theorem dL_trade_23 : decode (i_b iL_trade) 23 = .ok (.iconst 2, 1) := by decide +kernel
theorem wL_trade_23  (kk : QW V iL_trade 24 [a0, a1, a2, a3, a4, a5, a6] (.int (2) :: st) h z bc bs Kr Kx) : QW V iL_trade 23 [a0, a1, a2, a3, a4, a5, a6] (st) h z bc bs Kr Kx := q_iconst dL_trade_23 (by decide) kk
theorem dL_trade_24 : decode (i_b iL_trade) 24 = .ok (.ireturn, 1) := by decide +kernel
theorem wL_trade_24 {x : Int32} {P : Int32 → q_H → Option Nat → Prop} (hk : P x h z) : QW V iL_trade 24 [a0, a1, a2, a3, a4, a5, a6] [.int x] h z bc bs (q_Ki P) Kx := q_iret dL_trade_24 rfl rfl ⟨x, rfl, hk⟩
theorem dL_trade_25 : decode (i_b iL_trade) 25 = .ok (.iconst 0, 1) := by decide +kernel
theorem wL_trade_25  (kk : QW V iL_trade 26 [a0, a1, a2, a3, a4, a5, a6] (.int (0) :: st) h z bc bs Kr Kx) : QW V iL_trade 25 [a0, a1, a2, a3, a4, a5, a6] (st) h z bc bs Kr Kx := q_iconst dL_trade_25 (by decide) kk
theorem dL_trade_26 : decode (i_b iL_trade) 26 = .ok (.ireturn, 1) := by decide +kernel
theorem wL_trade_26 {x : Int32} {P : Int32 → q_H → Option Nat → Prop} (hk : P x h z) : QW V iL_trade 26 [a0, a1, a2, a3, a4, a5, a6] [.int x] h z bc bs (q_Ki P) Kx := q_iret dL_trade_26 rfl rfl ⟨x, rfl, hk⟩
theorem eL_nextYear {x0 : Nat} {x1 : Nat} {P : Int32 → q_H → Option Nat → Prop} (kk : QW V iL_nextYear 0 [some (.ref x0), some (.ref x1), none] [] h z 1 6 (q_Ki P) Kx) : QMi V iL_nextYear [.ref x0, .ref x1] h z P Kx := q_enterH (by decide) (by decide +kernel) rfl (Nat.le_of_ble_eq_true rfl) kk
theorem dL_nextYear_0 : decode (i_b iL_nextYear) 0 = .ok (.aload_n 1, 1) := by decide +kernel
theorem wL_nextYear_0 {x : Nat} (kk : QW V iL_nextYear 1 [a0, some (.ref x), a2] (.ref x :: st) h z bc bs Kr Kx) : QW V iL_nextYear 0 [a0, some (.ref x), a2] (st) h z bc bs Kr Kx := q_aload_n dL_nextYear_0 rfl rfl kk
theorem dL_nextYear_1 : decode (i_b iL_nextYear) 1 = .ok (.iconst 0, 1) := by decide +kernel
theorem wL_nextYear_1  (kk : QW V iL_nextYear 2 [a0, a1, a2] (.int (0) :: st) h z bc bs Kr Kx) : QW V iL_nextYear 1 [a0, a1, a2] (st) h z bc bs Kr Kx := q_iconst dL_nextYear_1 (by decide) kk
theorem dL_nextYear_2 : decode (i_b iL_nextYear) 2 = .ok (.aload_n 0, 1) := by decide +kernel
theorem wL_nextYear_2 {x : Nat} (kk : QW V iL_nextYear 3 [some (.ref x), a1, a2] (.ref x :: st) h z bc bs Kr Kx) : QW V iL_nextYear 2 [some (.ref x), a1, a2] (st) h z bc bs Kr Kx := q_aload_n dL_nextYear_2 rfl rfl kk
theorem dL_nextYear_3 : decode (i_b iL_nextYear) 3 = .ok (.invokevirtual 36, 3) := by decide +kernel
theorem wL_nextYear_3 {a : Nat} {fs : List Value}  (hb : h a = some (.inr (9, fs))) (hm : QMl V iX8_nextYear [.ref a] h z (fun r h' z' => QW V iL_nextYear 6 [a0, a1, a2] (.long r :: st) h' z' bc bs Kr Kx) (fun E h2 => (E = "java/lang/IllegalStateException" ∧ ∀ q : Nat, QW V iL_nextYear 10 [a0, a1, a2] [.ref q] h2 none bc bs Kr Kx))) (hW : (st.map fun v => v.category).sum ≤ 8 := by exact Nat.le_of_ble_eq_true rfl) : QW V iL_nextYear 3 [a0, a1, a2] (.ref a :: st) h z (bc + 1) (bs + 6) Kr Kx := by
  refine q_callVX (y' := iX8_nextYear) (As := []) (rest := st) dL_nextYear_3 k4_78 k4_79 k4_80 k1_1 hhX8_nextYear rfl hdX8_nextYear rfl rfl (Nat.le_of_ble_eq_true rfl) (Nat.le_of_ble_eq_true rfl) hW hb (fun E h2 => (E = "java/lang/IllegalStateException" ∧ ∀ q : Nat, QW V iL_nextYear 10 [a0, a1, a2] [.ref q] h2 none bc bs Kr Kx)) (fun E h2 hK => ?_) (QMl.run hm)
  obtain ⟨rfl, hq⟩ := hK
  exact ⟨[], [], (0, 7, 10, 13), rfl, (fun q hq => nomatch hq), by decide, by decide, k3_19, by decide +kernel, hq⟩
theorem dL_nextYear_6 : decode (i_b iL_nextYear) 6 = .ok (.lastore, 1) := by decide +kernel
theorem wL_nextYear_6 {a n j : Nat} {f : Nat → Int64} {i : Int32} {x : Int64} (ha : h a = some (.inl (2, n, .inr (.inl f)))) (hi : i = nI j) (hj : j < n) (hn : n < 2147483648) (kk : QW V iL_nextYear 7 [a0, a1, a2] (st) (q_up h a (.inl (2, n, .inr (.inl (vp_updL f j x))))) z bc bs Kr Kx) : QW V iL_nextYear 6 [a0, a1, a2] (.long x :: .int i :: .ref a :: st) h z bc bs Kr Kx := q_last dL_nextYear_6 ha hi hj hn kk
theorem wL_nextYear_6u {a n j : Nat} {f : Nat → Int64} {i : Int32} {x : Int64} (hi : i = nI j) (hj : j < n) (hn : n < 2147483648) (kk : QW V iL_nextYear 7 [a0, a1, a2] (st) (q_up h a (.inl (2, n, .inr (.inl (vp_updL f j x))))) z bc bs Kr Kx) : QW V iL_nextYear 6 [a0, a1, a2] (.long x :: .int i :: .ref a :: st) (q_up h a (.inl (2, n, .inr (.inl f)))) z bc bs Kr Kx := wL_nextYear_6 q_up_s hi hj hn (by rw [q_up_u]; exact kk)
theorem dL_nextYear_7 : decode (i_b iL_nextYear) 7 = .ok (.goto 6, 3) := by decide +kernel
theorem wL_nextYear_7  (kk : QW V iL_nextYear 13 [a0, a1, a2] (st) h z bc bs Kr Kx) : QW V iL_nextYear 7 [a0, a1, a2] (st) h z bc bs Kr Kx := q_goto dL_nextYear_7 (by decide) kk
theorem dL_nextYear_10 : decode (i_b iL_nextYear) 10 = .ok (.astore_n 2, 1) := by decide +kernel
theorem wL_nextYear_10 {x : Nat} (kk : QW V iL_nextYear 11 [a0, a1, some (.ref x)] (st) h z bc bs Kr Kx) (hp : q_n2 a1 = true := by rfl) : QW V iL_nextYear 10 [a0, a1, a2] (.ref x :: st) h z bc bs Kr Kx := q_astore_n dL_nextYear_10 rfl (Nat.le_of_ble_eq_true rfl) hp kk
theorem dL_nextYear_11 : decode (i_b iL_nextYear) 11 = .ok (.iconst 1, 1) := by decide +kernel
theorem wL_nextYear_11  (kk : QW V iL_nextYear 12 [a0, a1, a2] (.int (1) :: st) h z bc bs Kr Kx) : QW V iL_nextYear 11 [a0, a1, a2] (st) h z bc bs Kr Kx := q_iconst dL_nextYear_11 (by decide) kk
theorem dL_nextYear_12 : decode (i_b iL_nextYear) 12 = .ok (.ireturn, 1) := by decide +kernel
theorem wL_nextYear_12 {x : Int32} {P : Int32 → q_H → Option Nat → Prop} (hk : P x h z) : QW V iL_nextYear 12 [a0, a1, a2] [.int x] h z bc bs (q_Ki P) Kx := q_iret dL_nextYear_12 rfl rfl ⟨x, rfl, hk⟩
theorem dL_nextYear_13 : decode (i_b iL_nextYear) 13 = .ok (.iconst 0, 1) := by decide +kernel
theorem wL_nextYear_13  (kk : QW V iL_nextYear 14 [a0, a1, a2] (.int (0) :: st) h z bc bs Kr Kx) : QW V iL_nextYear 13 [a0, a1, a2] (st) h z bc bs Kr Kx := q_iconst dL_nextYear_13 (by decide) kk
theorem dL_nextYear_14 : decode (i_b iL_nextYear) 14 = .ok (.ireturn, 1) := by decide +kernel
theorem wL_nextYear_14 {x : Int32} {P : Int32 → q_H → Option Nat → Prop} (hk : P x h z) : QW V iL_nextYear 14 [a0, a1, a2] [.int x] h z bc bs (q_Ki P) Kx := q_iret dL_nextYear_14 rfl rfl ⟨x, rfl, hk⟩
theorem eL_year {x0 : Nat} {x1 : Nat} {P : Int32 → q_H → Option Nat → Prop} (kk : QW V iL_year 0 [some (.ref x0), some (.ref x1), none] [] h z 1 6 (q_Ki P) Kx) : QMi V iL_year [.ref x0, .ref x1] h z P Kx := q_enterH (by decide) (by decide +kernel) rfl (Nat.le_of_ble_eq_true rfl) kk
theorem dL_year_0 : decode (i_b iL_year) 0 = .ok (.aload_n 1, 1) := by decide +kernel
theorem wL_year_0 {x : Nat} (kk : QW V iL_year 1 [a0, some (.ref x), a2] (.ref x :: st) h z bc bs Kr Kx) : QW V iL_year 0 [a0, some (.ref x), a2] (st) h z bc bs Kr Kx := q_aload_n dL_year_0 rfl rfl kk
theorem dL_year_1 : decode (i_b iL_year) 1 = .ok (.iconst 0, 1) := by decide +kernel
theorem wL_year_1  (kk : QW V iL_year 2 [a0, a1, a2] (.int (0) :: st) h z bc bs Kr Kx) : QW V iL_year 1 [a0, a1, a2] (st) h z bc bs Kr Kx := q_iconst dL_year_1 (by decide) kk
theorem dL_year_2 : decode (i_b iL_year) 2 = .ok (.aload_n 0, 1) := by decide +kernel
theorem wL_year_2 {x : Nat} (kk : QW V iL_year 3 [some (.ref x), a1, a2] (.ref x :: st) h z bc bs Kr Kx) : QW V iL_year 2 [some (.ref x), a1, a2] (st) h z bc bs Kr Kx := q_aload_n dL_year_2 rfl rfl kk
theorem dL_year_3 : decode (i_b iL_year) 3 = .ok (.invokevirtual 40, 3) := by decide +kernel
theorem wL_year_3 {a : Nat} {fs : List Value}  (hb : h a = some (.inr (9, fs))) (hm : QMi V iX8_year [.ref a] h z (fun r h' z' => QW V iL_year 6 [a0, a1, a2] (.int r :: st) h' z' bc bs Kr Kx) (fun E h2 => (E = "java/lang/IllegalStateException" ∧ ∀ q : Nat, QW V iL_year 11 [a0, a1, a2] [.ref q] h2 none bc bs Kr Kx))) (hW : (st.map fun v => v.category).sum ≤ 8 := by exact Nat.le_of_ble_eq_true rfl) : QW V iL_year 3 [a0, a1, a2] (.ref a :: st) h z (bc + 1) (bs + 6) Kr Kx := by
  refine q_callVX (y' := iX8_year) (As := []) (rest := st) dL_year_3 k4_122 k4_123 k4_124 k1_1 hhX8_year rfl hdX8_year rfl rfl (Nat.le_of_ble_eq_true rfl) (Nat.le_of_ble_eq_true rfl) hW hb (fun E h2 => (E = "java/lang/IllegalStateException" ∧ ∀ q : Nat, QW V iL_year 11 [a0, a1, a2] [.ref q] h2 none bc bs Kr Kx)) (fun E h2 hK => ?_) (QMi.run hm)
  obtain ⟨rfl, hq⟩ := hK
  exact ⟨[], [], (0, 8, 11, 13), rfl, (fun q hq => nomatch hq), by decide, by decide, k3_19, by decide +kernel, hq⟩
theorem dL_year_6 : decode (i_b iL_year) 6 = .ok (.i2l, 1) := by decide +kernel
theorem wL_year_6 {x : Int32} (kk : QW V iL_year 7 [a0, a1, a2] (.long (x.toInt64) :: st) h z bc bs Kr Kx) : QW V iL_year 6 [a0, a1, a2] (.int x :: st) h z bc bs Kr Kx := q_i2l dL_year_6 kk
theorem dL_year_7 : decode (i_b iL_year) 7 = .ok (.lastore, 1) := by decide +kernel
theorem wL_year_7 {a n j : Nat} {f : Nat → Int64} {i : Int32} {x : Int64} (ha : h a = some (.inl (2, n, .inr (.inl f)))) (hi : i = nI j) (hj : j < n) (hn : n < 2147483648) (kk : QW V iL_year 8 [a0, a1, a2] (st) (q_up h a (.inl (2, n, .inr (.inl (vp_updL f j x))))) z bc bs Kr Kx) : QW V iL_year 7 [a0, a1, a2] (.long x :: .int i :: .ref a :: st) h z bc bs Kr Kx := q_last dL_year_7 ha hi hj hn kk
theorem wL_year_7u {a n j : Nat} {f : Nat → Int64} {i : Int32} {x : Int64} (hi : i = nI j) (hj : j < n) (hn : n < 2147483648) (kk : QW V iL_year 8 [a0, a1, a2] (st) (q_up h a (.inl (2, n, .inr (.inl (vp_updL f j x))))) z bc bs Kr Kx) : QW V iL_year 7 [a0, a1, a2] (.long x :: .int i :: .ref a :: st) (q_up h a (.inl (2, n, .inr (.inl f)))) z bc bs Kr Kx := wL_year_7 q_up_s hi hj hn (by rw [q_up_u]; exact kk)
theorem dL_year_8 : decode (i_b iL_year) 8 = .ok (.goto 6, 3) := by decide +kernel
theorem wL_year_8  (kk : QW V iL_year 14 [a0, a1, a2] (st) h z bc bs Kr Kx) : QW V iL_year 8 [a0, a1, a2] (st) h z bc bs Kr Kx := q_goto dL_year_8 (by decide) kk
theorem dL_year_11 : decode (i_b iL_year) 11 = .ok (.astore_n 2, 1) := by decide +kernel
theorem wL_year_11 {x : Nat} (kk : QW V iL_year 12 [a0, a1, some (.ref x)] (st) h z bc bs Kr Kx) (hp : q_n2 a1 = true := by rfl) : QW V iL_year 11 [a0, a1, a2] (.ref x :: st) h z bc bs Kr Kx := q_astore_n dL_year_11 rfl (Nat.le_of_ble_eq_true rfl) hp kk
theorem dL_year_12 : decode (i_b iL_year) 12 = .ok (.iconst 1, 1) := by decide +kernel
theorem wL_year_12  (kk : QW V iL_year 13 [a0, a1, a2] (.int (1) :: st) h z bc bs Kr Kx) : QW V iL_year 12 [a0, a1, a2] (st) h z bc bs Kr Kx := q_iconst dL_year_12 (by decide) kk
theorem dL_year_13 : decode (i_b iL_year) 13 = .ok (.ireturn, 1) := by decide +kernel
theorem wL_year_13 {x : Int32} {P : Int32 → q_H → Option Nat → Prop} (hk : P x h z) : QW V iL_year 13 [a0, a1, a2] [.int x] h z bc bs (q_Ki P) Kx := q_iret dL_year_13 rfl rfl ⟨x, rfl, hk⟩
theorem dL_year_14 : decode (i_b iL_year) 14 = .ok (.iconst 0, 1) := by decide +kernel
theorem wL_year_14  (kk : QW V iL_year 15 [a0, a1, a2] (.int (0) :: st) h z bc bs Kr Kx) : QW V iL_year 14 [a0, a1, a2] (st) h z bc bs Kr Kx := q_iconst dL_year_14 (by decide) kk
theorem dL_year_15 : decode (i_b iL_year) 15 = .ok (.ireturn, 1) := by decide +kernel
theorem wL_year_15 {x : Int32} {P : Int32 → q_H → Option Nat → Prop} (hk : P x h z) : QW V iL_year 15 [a0, a1, a2] [.int x] h z bc bs (q_Ki P) Kx := q_iret dL_year_15 rfl rfl ⟨x, rfl, hk⟩
theorem eL_cap {x0 : Nat} {x1 : Int32} {x2 : Nat} {P : Int32 → q_H → Option Nat → Prop} (kk : QW V iL_cap 0 [some (.ref x0), some (.int x1), some (.ref x2), none] [] h z 2 12 (q_Ki P) Kx) : QMi V iL_cap [.ref x0, .int x1, .ref x2] h z P Kx := q_enterH (by decide) (by decide +kernel) rfl (Nat.le_of_ble_eq_true rfl) kk
theorem dL_cap_0 : decode (i_b iL_cap) 0 = .ok (.aload_n 2, 1) := by decide +kernel
theorem wL_cap_0 {x : Nat} (kk : QW V iL_cap 1 [a0, a1, some (.ref x), a3] (.ref x :: st) h z bc bs Kr Kx) : QW V iL_cap 0 [a0, a1, some (.ref x), a3] (st) h z bc bs Kr Kx := q_aload_n dL_cap_0 rfl rfl kk
theorem dL_cap_1 : decode (i_b iL_cap) 1 = .ok (.iconst 0, 1) := by decide +kernel
theorem wL_cap_1  (kk : QW V iL_cap 2 [a0, a1, a2, a3] (.int (0) :: st) h z bc bs Kr Kx) : QW V iL_cap 1 [a0, a1, a2, a3] (st) h z bc bs Kr Kx := q_iconst dL_cap_1 (by decide) kk
theorem dL_cap_2 : decode (i_b iL_cap) 2 = .ok (.aload_n 0, 1) := by decide +kernel
theorem wL_cap_2 {x : Nat} (kk : QW V iL_cap 3 [some (.ref x), a1, a2, a3] (.ref x :: st) h z bc bs Kr Kx) : QW V iL_cap 2 [some (.ref x), a1, a2, a3] (st) h z bc bs Kr Kx := q_aload_n dL_cap_2 rfl rfl kk
theorem dL_cap_3 : decode (i_b iL_cap) 3 = .ok (.iload_n 1, 1) := by decide +kernel
theorem wL_cap_3 {x : Int32} (kk : QW V iL_cap 4 [a0, some (.int x), a2, a3] (.int x :: st) h z bc bs Kr Kx) : QW V iL_cap 3 [a0, some (.int x), a2, a3] (st) h z bc bs Kr Kx := q_iload_n dL_cap_3 rfl rfl kk
theorem dL_cap_4 : decode (i_b iL_cap) 4 = .ok (.invokevirtual 44, 3) := by decide +kernel
theorem wL_cap_4 {a : Nat} {fs : List Value} {x0 : Int32} (hb : h a = some (.inr (9, fs))) (hm : QMi V iX8_cap [.ref a, .int x0] h z (fun r h' z' => QW V iL_cap 7 [a0, a1, a2, a3] (.int r :: st) h' z' bc bs Kr Kx) (fun E h2 => (E = "java/lang/IllegalStateException" ∧ ∀ q : Nat, QW V iL_cap 12 [a0, a1, a2, a3] [.ref q] h2 none bc bs Kr Kx) ∨ (E = "java/lang/IllegalArgumentException" ∧ ∀ q : Nat, QW V iL_cap 15 [a0, a1, a2, a3] [.ref q] h2 none bc bs Kr Kx))) (hW : (st.map fun v => v.category).sum ≤ 8 := by exact Nat.le_of_ble_eq_true rfl) : QW V iL_cap 4 [a0, a1, a2, a3] (.int x0 :: .ref a :: st) h z (bc + 2) (bs + 12) Kr Kx := by
  refine q_callVX (y' := iX8_cap) (As := [.int x0]) (rest := st) dL_cap_4 k4_129 k4_130 k4_131 k1_1 hhX8_cap rfl hdX8_cap rfl rfl (Nat.le_of_ble_eq_true rfl) (Nat.le_of_ble_eq_true rfl) hW hb (fun E h2 => (E = "java/lang/IllegalStateException" ∧ ∀ q : Nat, QW V iL_cap 12 [a0, a1, a2, a3] [.ref q] h2 none bc bs Kr Kx) ∨ (E = "java/lang/IllegalArgumentException" ∧ ∀ q : Nat, QW V iL_cap 15 [a0, a1, a2, a3] [.ref q] h2 none bc bs Kr Kx)) (fun E h2 hK => ?_) (QMi.run hm)
  rcases hK with ⟨rfl, hq⟩ | ⟨rfl, hq⟩
  · exact ⟨[], [(0, 9, 15, 19)], (0, 9, 12, 13), rfl, (fun q hq => nomatch hq), by decide, by decide, k3_19, by decide +kernel, hq⟩
  · exact ⟨[(0, 9, 12, 13)], [], (0, 9, 15, 19), rfl, (by intro q hq; simp only [List.mem_cons, List.not_mem_nil, or_false] at hq; subst hq; exact ⟨by decide, "java/lang/IllegalStateException", k3_19, by decide +kernel⟩), by decide, by decide, k3_99, by decide +kernel, hq⟩
theorem dL_cap_7 : decode (i_b iL_cap) 7 = .ok (.i2l, 1) := by decide +kernel
theorem wL_cap_7 {x : Int32} (kk : QW V iL_cap 8 [a0, a1, a2, a3] (.long (x.toInt64) :: st) h z bc bs Kr Kx) : QW V iL_cap 7 [a0, a1, a2, a3] (.int x :: st) h z bc bs Kr Kx := q_i2l dL_cap_7 kk
theorem dL_cap_8 : decode (i_b iL_cap) 8 = .ok (.lastore, 1) := by decide +kernel
theorem wL_cap_8 {a n j : Nat} {f : Nat → Int64} {i : Int32} {x : Int64} (ha : h a = some (.inl (2, n, .inr (.inl f)))) (hi : i = nI j) (hj : j < n) (hn : n < 2147483648) (kk : QW V iL_cap 9 [a0, a1, a2, a3] (st) (q_up h a (.inl (2, n, .inr (.inl (vp_updL f j x))))) z bc bs Kr Kx) : QW V iL_cap 8 [a0, a1, a2, a3] (.long x :: .int i :: .ref a :: st) h z bc bs Kr Kx := q_last dL_cap_8 ha hi hj hn kk
theorem wL_cap_8u {a n j : Nat} {f : Nat → Int64} {i : Int32} {x : Int64} (hi : i = nI j) (hj : j < n) (hn : n < 2147483648) (kk : QW V iL_cap 9 [a0, a1, a2, a3] (st) (q_up h a (.inl (2, n, .inr (.inl (vp_updL f j x))))) z bc bs Kr Kx) : QW V iL_cap 8 [a0, a1, a2, a3] (.long x :: .int i :: .ref a :: st) (q_up h a (.inl (2, n, .inr (.inl f)))) z bc bs Kr Kx := wL_cap_8 q_up_s hi hj hn (by rw [q_up_u]; exact kk)
theorem dL_cap_9 : decode (i_b iL_cap) 9 = .ok (.goto 9, 3) := by decide +kernel
theorem wL_cap_9  (kk : QW V iL_cap 18 [a0, a1, a2, a3] (st) h z bc bs Kr Kx) : QW V iL_cap 9 [a0, a1, a2, a3] (st) h z bc bs Kr Kx := q_goto dL_cap_9 (by decide) kk
theorem dL_cap_12 : decode (i_b iL_cap) 12 = .ok (.astore_n 3, 1) := by decide +kernel
theorem wL_cap_12 {x : Nat} (kk : QW V iL_cap 13 [a0, a1, a2, some (.ref x)] (st) h z bc bs Kr Kx) (hp : q_n2 a2 = true := by rfl) : QW V iL_cap 12 [a0, a1, a2, a3] (.ref x :: st) h z bc bs Kr Kx := q_astore_n dL_cap_12 rfl (Nat.le_of_ble_eq_true rfl) hp kk
theorem dL_cap_13 : decode (i_b iL_cap) 13 = .ok (.iconst 1, 1) := by decide +kernel
theorem wL_cap_13  (kk : QW V iL_cap 14 [a0, a1, a2, a3] (.int (1) :: st) h z bc bs Kr Kx) : QW V iL_cap 13 [a0, a1, a2, a3] (st) h z bc bs Kr Kx := q_iconst dL_cap_13 (by decide) kk
theorem dL_cap_14 : decode (i_b iL_cap) 14 = .ok (.ireturn, 1) := by decide +kernel
theorem wL_cap_14 {x : Int32} {P : Int32 → q_H → Option Nat → Prop} (hk : P x h z) : QW V iL_cap 14 [a0, a1, a2, a3] [.int x] h z bc bs (q_Ki P) Kx := q_iret dL_cap_14 rfl rfl ⟨x, rfl, hk⟩
theorem dL_cap_15 : decode (i_b iL_cap) 15 = .ok (.astore_n 3, 1) := by decide +kernel
theorem wL_cap_15 {x : Nat} (kk : QW V iL_cap 16 [a0, a1, a2, some (.ref x)] (st) h z bc bs Kr Kx) (hp : q_n2 a2 = true := by rfl) : QW V iL_cap 15 [a0, a1, a2, a3] (.ref x :: st) h z bc bs Kr Kx := q_astore_n dL_cap_15 rfl (Nat.le_of_ble_eq_true rfl) hp kk
theorem dL_cap_16 : decode (i_b iL_cap) 16 = .ok (.iconst 2, 1) := by decide +kernel
theorem wL_cap_16  (kk : QW V iL_cap 17 [a0, a1, a2, a3] (.int (2) :: st) h z bc bs Kr Kx) : QW V iL_cap 16 [a0, a1, a2, a3] (st) h z bc bs Kr Kx := q_iconst dL_cap_16 (by decide) kk
theorem dL_cap_17 : decode (i_b iL_cap) 17 = .ok (.ireturn, 1) := by decide +kernel
theorem wL_cap_17 {x : Int32} {P : Int32 → q_H → Option Nat → Prop} (hk : P x h z) : QW V iL_cap 17 [a0, a1, a2, a3] [.int x] h z bc bs (q_Ki P) Kx := q_iret dL_cap_17 rfl rfl ⟨x, rfl, hk⟩
theorem dL_cap_18 : decode (i_b iL_cap) 18 = .ok (.iconst 0, 1) := by decide +kernel
theorem wL_cap_18  (kk : QW V iL_cap 19 [a0, a1, a2, a3] (.int (0) :: st) h z bc bs Kr Kx) : QW V iL_cap 18 [a0, a1, a2, a3] (st) h z bc bs Kr Kx := q_iconst dL_cap_18 (by decide) kk
theorem dL_cap_19 : decode (i_b iL_cap) 19 = .ok (.ireturn, 1) := by decide +kernel
theorem wL_cap_19 {x : Int32} {P : Int32 → q_H → Option Nat → Prop} (hk : P x h z) : QW V iL_cap 19 [a0, a1, a2, a3] [.int x] h z bc bs (q_Ki P) Kx := q_iret dL_cap_19 rfl rfl ⟨x, rfl, hk⟩
theorem eL_taxLine {x0 : Nat} {x1 : Int32} {x2 : Nat} {P : Int32 → q_H → Option Nat → Prop} (kk : QW V iL_taxLine 0 [some (.ref x0), some (.int x1), some (.ref x2), none] [] h z 2 12 (q_Ki P) Kx) : QMi V iL_taxLine [.ref x0, .int x1, .ref x2] h z P Kx := q_enterH (by decide) (by decide +kernel) rfl (Nat.le_of_ble_eq_true rfl) kk
theorem dL_taxLine_0 : decode (i_b iL_taxLine) 0 = .ok (.aload_n 2, 1) := by decide +kernel
theorem wL_taxLine_0 {x : Nat} (kk : QW V iL_taxLine 1 [a0, a1, some (.ref x), a3] (.ref x :: st) h z bc bs Kr Kx) : QW V iL_taxLine 0 [a0, a1, some (.ref x), a3] (st) h z bc bs Kr Kx := q_aload_n dL_taxLine_0 rfl rfl kk
theorem dL_taxLine_1 : decode (i_b iL_taxLine) 1 = .ok (.iconst 0, 1) := by decide +kernel
theorem wL_taxLine_1  (kk : QW V iL_taxLine 2 [a0, a1, a2, a3] (.int (0) :: st) h z bc bs Kr Kx) : QW V iL_taxLine 1 [a0, a1, a2, a3] (st) h z bc bs Kr Kx := q_iconst dL_taxLine_1 (by decide) kk
theorem dL_taxLine_2 : decode (i_b iL_taxLine) 2 = .ok (.aload_n 0, 1) := by decide +kernel
theorem wL_taxLine_2 {x : Nat} (kk : QW V iL_taxLine 3 [some (.ref x), a1, a2, a3] (.ref x :: st) h z bc bs Kr Kx) : QW V iL_taxLine 2 [some (.ref x), a1, a2, a3] (st) h z bc bs Kr Kx := q_aload_n dL_taxLine_2 rfl rfl kk
theorem dL_taxLine_3 : decode (i_b iL_taxLine) 3 = .ok (.iload_n 1, 1) := by decide +kernel
theorem wL_taxLine_3 {x : Int32} (kk : QW V iL_taxLine 4 [a0, some (.int x), a2, a3] (.int x :: st) h z bc bs Kr Kx) : QW V iL_taxLine 3 [a0, some (.int x), a2, a3] (st) h z bc bs Kr Kx := q_iload_n dL_taxLine_3 rfl rfl kk
theorem dL_taxLine_4 : decode (i_b iL_taxLine) 4 = .ok (.invokevirtual 47, 3) := by decide +kernel
theorem wL_taxLine_4 {a : Nat} {fs : List Value} {x0 : Int32} (hb : h a = some (.inr (9, fs))) (hm : QMi V iX8_taxLine [.ref a, .int x0] h z (fun r h' z' => QW V iL_taxLine 7 [a0, a1, a2, a3] (.int r :: st) h' z' bc bs Kr Kx) (fun E h2 => (E = "java/lang/IllegalStateException" ∧ ∀ q : Nat, QW V iL_taxLine 12 [a0, a1, a2, a3] [.ref q] h2 none bc bs Kr Kx) ∨ (E = "java/lang/IllegalArgumentException" ∧ ∀ q : Nat, QW V iL_taxLine 15 [a0, a1, a2, a3] [.ref q] h2 none bc bs Kr Kx))) (hW : (st.map fun v => v.category).sum ≤ 8 := by exact Nat.le_of_ble_eq_true rfl) : QW V iL_taxLine 4 [a0, a1, a2, a3] (.int x0 :: .ref a :: st) h z (bc + 2) (bs + 12) Kr Kx := by
  refine q_callVX (y' := iX8_taxLine) (As := [.int x0]) (rest := st) dL_taxLine_4 k4_136 k4_137 k4_138 k1_1 hhX8_taxLine rfl hdX8_taxLine rfl rfl (Nat.le_of_ble_eq_true rfl) (Nat.le_of_ble_eq_true rfl) hW hb (fun E h2 => (E = "java/lang/IllegalStateException" ∧ ∀ q : Nat, QW V iL_taxLine 12 [a0, a1, a2, a3] [.ref q] h2 none bc bs Kr Kx) ∨ (E = "java/lang/IllegalArgumentException" ∧ ∀ q : Nat, QW V iL_taxLine 15 [a0, a1, a2, a3] [.ref q] h2 none bc bs Kr Kx)) (fun E h2 hK => ?_) (QMi.run hm)
  rcases hK with ⟨rfl, hq⟩ | ⟨rfl, hq⟩
  · exact ⟨[], [(0, 9, 15, 19)], (0, 9, 12, 13), rfl, (fun q hq => nomatch hq), by decide, by decide, k3_19, by decide +kernel, hq⟩
  · exact ⟨[(0, 9, 12, 13)], [], (0, 9, 15, 19), rfl, (by intro q hq; simp only [List.mem_cons, List.not_mem_nil, or_false] at hq; subst hq; exact ⟨by decide, "java/lang/IllegalStateException", k3_19, by decide +kernel⟩), by decide, by decide, k3_99, by decide +kernel, hq⟩
theorem dL_taxLine_7 : decode (i_b iL_taxLine) 7 = .ok (.i2l, 1) := by decide +kernel
theorem wL_taxLine_7 {x : Int32} (kk : QW V iL_taxLine 8 [a0, a1, a2, a3] (.long (x.toInt64) :: st) h z bc bs Kr Kx) : QW V iL_taxLine 7 [a0, a1, a2, a3] (.int x :: st) h z bc bs Kr Kx := q_i2l dL_taxLine_7 kk
theorem dL_taxLine_8 : decode (i_b iL_taxLine) 8 = .ok (.lastore, 1) := by decide +kernel
theorem wL_taxLine_8 {a n j : Nat} {f : Nat → Int64} {i : Int32} {x : Int64} (ha : h a = some (.inl (2, n, .inr (.inl f)))) (hi : i = nI j) (hj : j < n) (hn : n < 2147483648) (kk : QW V iL_taxLine 9 [a0, a1, a2, a3] (st) (q_up h a (.inl (2, n, .inr (.inl (vp_updL f j x))))) z bc bs Kr Kx) : QW V iL_taxLine 8 [a0, a1, a2, a3] (.long x :: .int i :: .ref a :: st) h z bc bs Kr Kx := q_last dL_taxLine_8 ha hi hj hn kk
theorem wL_taxLine_8u {a n j : Nat} {f : Nat → Int64} {i : Int32} {x : Int64} (hi : i = nI j) (hj : j < n) (hn : n < 2147483648) (kk : QW V iL_taxLine 9 [a0, a1, a2, a3] (st) (q_up h a (.inl (2, n, .inr (.inl (vp_updL f j x))))) z bc bs Kr Kx) : QW V iL_taxLine 8 [a0, a1, a2, a3] (.long x :: .int i :: .ref a :: st) (q_up h a (.inl (2, n, .inr (.inl f)))) z bc bs Kr Kx := wL_taxLine_8 q_up_s hi hj hn (by rw [q_up_u]; exact kk)
theorem dL_taxLine_9 : decode (i_b iL_taxLine) 9 = .ok (.goto 9, 3) := by decide +kernel
theorem wL_taxLine_9  (kk : QW V iL_taxLine 18 [a0, a1, a2, a3] (st) h z bc bs Kr Kx) : QW V iL_taxLine 9 [a0, a1, a2, a3] (st) h z bc bs Kr Kx := q_goto dL_taxLine_9 (by decide) kk
theorem dL_taxLine_12 : decode (i_b iL_taxLine) 12 = .ok (.astore_n 3, 1) := by decide +kernel
theorem wL_taxLine_12 {x : Nat} (kk : QW V iL_taxLine 13 [a0, a1, a2, some (.ref x)] (st) h z bc bs Kr Kx) (hp : q_n2 a2 = true := by rfl) : QW V iL_taxLine 12 [a0, a1, a2, a3] (.ref x :: st) h z bc bs Kr Kx := q_astore_n dL_taxLine_12 rfl (Nat.le_of_ble_eq_true rfl) hp kk
theorem dL_taxLine_13 : decode (i_b iL_taxLine) 13 = .ok (.iconst 1, 1) := by decide +kernel
theorem wL_taxLine_13  (kk : QW V iL_taxLine 14 [a0, a1, a2, a3] (.int (1) :: st) h z bc bs Kr Kx) : QW V iL_taxLine 13 [a0, a1, a2, a3] (st) h z bc bs Kr Kx := q_iconst dL_taxLine_13 (by decide) kk
theorem dL_taxLine_14 : decode (i_b iL_taxLine) 14 = .ok (.ireturn, 1) := by decide +kernel
theorem wL_taxLine_14 {x : Int32} {P : Int32 → q_H → Option Nat → Prop} (hk : P x h z) : QW V iL_taxLine 14 [a0, a1, a2, a3] [.int x] h z bc bs (q_Ki P) Kx := q_iret dL_taxLine_14 rfl rfl ⟨x, rfl, hk⟩
theorem dL_taxLine_15 : decode (i_b iL_taxLine) 15 = .ok (.astore_n 3, 1) := by decide +kernel
theorem wL_taxLine_15 {x : Nat} (kk : QW V iL_taxLine 16 [a0, a1, a2, some (.ref x)] (st) h z bc bs Kr Kx) (hp : q_n2 a2 = true := by rfl) : QW V iL_taxLine 15 [a0, a1, a2, a3] (.ref x :: st) h z bc bs Kr Kx := q_astore_n dL_taxLine_15 rfl (Nat.le_of_ble_eq_true rfl) hp kk
theorem dL_taxLine_16 : decode (i_b iL_taxLine) 16 = .ok (.iconst 2, 1) := by decide +kernel
theorem wL_taxLine_16  (kk : QW V iL_taxLine 17 [a0, a1, a2, a3] (.int (2) :: st) h z bc bs Kr Kx) : QW V iL_taxLine 16 [a0, a1, a2, a3] (st) h z bc bs Kr Kx := q_iconst dL_taxLine_16 (by decide) kk
theorem dL_taxLine_17 : decode (i_b iL_taxLine) 17 = .ok (.ireturn, 1) := by decide +kernel
theorem wL_taxLine_17 {x : Int32} {P : Int32 → q_H → Option Nat → Prop} (hk : P x h z) : QW V iL_taxLine 17 [a0, a1, a2, a3] [.int x] h z bc bs (q_Ki P) Kx := q_iret dL_taxLine_17 rfl rfl ⟨x, rfl, hk⟩
theorem dL_taxLine_18 : decode (i_b iL_taxLine) 18 = .ok (.iconst 0, 1) := by decide +kernel
theorem wL_taxLine_18  (kk : QW V iL_taxLine 19 [a0, a1, a2, a3] (.int (0) :: st) h z bc bs Kr Kx) : QW V iL_taxLine 18 [a0, a1, a2, a3] (st) h z bc bs Kr Kx := q_iconst dL_taxLine_18 (by decide) kk
theorem dL_taxLine_19 : decode (i_b iL_taxLine) 19 = .ok (.ireturn, 1) := by decide +kernel
theorem wL_taxLine_19 {x : Int32} {P : Int32 → q_H → Option Nat → Prop} (hk : P x h z) : QW V iL_taxLine 19 [a0, a1, a2, a3] [.int x] h z bc bs (q_Ki P) Kx := q_iret dL_taxLine_19 rfl rfl ⟨x, rfl, hk⟩
theorem eL_offer {x0 : Nat} {x1 : Int32} {x2 : Nat} {P : Int32 → q_H → Option Nat → Prop} (kk : QW V iL_offer 0 [some (.ref x0), some (.int x1), some (.ref x2), none] [] h z 2 12 (q_Ki P) Kx) : QMi V iL_offer [.ref x0, .int x1, .ref x2] h z P Kx := q_enterH (by decide) (by decide +kernel) rfl (Nat.le_of_ble_eq_true rfl) kk
theorem dL_offer_0 : decode (i_b iL_offer) 0 = .ok (.aload_n 2, 1) := by decide +kernel
theorem wL_offer_0 {x : Nat} (kk : QW V iL_offer 1 [a0, a1, some (.ref x), a3] (.ref x :: st) h z bc bs Kr Kx) : QW V iL_offer 0 [a0, a1, some (.ref x), a3] (st) h z bc bs Kr Kx := q_aload_n dL_offer_0 rfl rfl kk
theorem dL_offer_1 : decode (i_b iL_offer) 1 = .ok (.iconst 0, 1) := by decide +kernel
theorem wL_offer_1  (kk : QW V iL_offer 2 [a0, a1, a2, a3] (.int (0) :: st) h z bc bs Kr Kx) : QW V iL_offer 1 [a0, a1, a2, a3] (st) h z bc bs Kr Kx := q_iconst dL_offer_1 (by decide) kk
theorem dL_offer_2 : decode (i_b iL_offer) 2 = .ok (.aload_n 0, 1) := by decide +kernel
theorem wL_offer_2 {x : Nat} (kk : QW V iL_offer 3 [some (.ref x), a1, a2, a3] (.ref x :: st) h z bc bs Kr Kx) : QW V iL_offer 2 [some (.ref x), a1, a2, a3] (st) h z bc bs Kr Kx := q_aload_n dL_offer_2 rfl rfl kk
theorem dL_offer_3 : decode (i_b iL_offer) 3 = .ok (.iload_n 1, 1) := by decide +kernel
theorem wL_offer_3 {x : Int32} (kk : QW V iL_offer 4 [a0, some (.int x), a2, a3] (.int x :: st) h z bc bs Kr Kx) : QW V iL_offer 3 [a0, some (.int x), a2, a3] (st) h z bc bs Kr Kx := q_iload_n dL_offer_3 rfl rfl kk
theorem dL_offer_4 : decode (i_b iL_offer) 4 = .ok (.invokevirtual 50, 3) := by decide +kernel
theorem wL_offer_4 {a : Nat} {fs : List Value} {x0 : Int32} (hb : h a = some (.inr (9, fs))) (hm : QMi V iX8_offer [.ref a, .int x0] h z (fun r h' z' => QW V iL_offer 7 [a0, a1, a2, a3] (.int r :: st) h' z' bc bs Kr Kx) (fun E h2 => (E = "java/lang/IllegalStateException" ∧ ∀ q : Nat, QW V iL_offer 12 [a0, a1, a2, a3] [.ref q] h2 none bc bs Kr Kx) ∨ (E = "java/lang/IllegalArgumentException" ∧ ∀ q : Nat, QW V iL_offer 15 [a0, a1, a2, a3] [.ref q] h2 none bc bs Kr Kx))) (hW : (st.map fun v => v.category).sum ≤ 8 := by exact Nat.le_of_ble_eq_true rfl) : QW V iL_offer 4 [a0, a1, a2, a3] (.int x0 :: .ref a :: st) h z (bc + 2) (bs + 12) Kr Kx := by
  refine q_callVX (y' := iX8_offer) (As := [.int x0]) (rest := st) dL_offer_4 k4_143 k4_144 k4_145 k1_1 hhX8_offer rfl hdX8_offer rfl rfl (Nat.le_of_ble_eq_true rfl) (Nat.le_of_ble_eq_true rfl) hW hb (fun E h2 => (E = "java/lang/IllegalStateException" ∧ ∀ q : Nat, QW V iL_offer 12 [a0, a1, a2, a3] [.ref q] h2 none bc bs Kr Kx) ∨ (E = "java/lang/IllegalArgumentException" ∧ ∀ q : Nat, QW V iL_offer 15 [a0, a1, a2, a3] [.ref q] h2 none bc bs Kr Kx)) (fun E h2 hK => ?_) (QMi.run hm)
  rcases hK with ⟨rfl, hq⟩ | ⟨rfl, hq⟩
  · exact ⟨[], [(0, 9, 15, 19)], (0, 9, 12, 13), rfl, (fun q hq => nomatch hq), by decide, by decide, k3_19, by decide +kernel, hq⟩
  · exact ⟨[(0, 9, 12, 13)], [], (0, 9, 15, 19), rfl, (by intro q hq; simp only [List.mem_cons, List.not_mem_nil, or_false] at hq; subst hq; exact ⟨by decide, "java/lang/IllegalStateException", k3_19, by decide +kernel⟩), by decide, by decide, k3_99, by decide +kernel, hq⟩
theorem dL_offer_7 : decode (i_b iL_offer) 7 = .ok (.i2l, 1) := by decide +kernel
theorem wL_offer_7 {x : Int32} (kk : QW V iL_offer 8 [a0, a1, a2, a3] (.long (x.toInt64) :: st) h z bc bs Kr Kx) : QW V iL_offer 7 [a0, a1, a2, a3] (.int x :: st) h z bc bs Kr Kx := q_i2l dL_offer_7 kk
theorem dL_offer_8 : decode (i_b iL_offer) 8 = .ok (.lastore, 1) := by decide +kernel
theorem wL_offer_8 {a n j : Nat} {f : Nat → Int64} {i : Int32} {x : Int64} (ha : h a = some (.inl (2, n, .inr (.inl f)))) (hi : i = nI j) (hj : j < n) (hn : n < 2147483648) (kk : QW V iL_offer 9 [a0, a1, a2, a3] (st) (q_up h a (.inl (2, n, .inr (.inl (vp_updL f j x))))) z bc bs Kr Kx) : QW V iL_offer 8 [a0, a1, a2, a3] (.long x :: .int i :: .ref a :: st) h z bc bs Kr Kx := q_last dL_offer_8 ha hi hj hn kk
theorem wL_offer_8u {a n j : Nat} {f : Nat → Int64} {i : Int32} {x : Int64} (hi : i = nI j) (hj : j < n) (hn : n < 2147483648) (kk : QW V iL_offer 9 [a0, a1, a2, a3] (st) (q_up h a (.inl (2, n, .inr (.inl (vp_updL f j x))))) z bc bs Kr Kx) : QW V iL_offer 8 [a0, a1, a2, a3] (.long x :: .int i :: .ref a :: st) (q_up h a (.inl (2, n, .inr (.inl f)))) z bc bs Kr Kx := wL_offer_8 q_up_s hi hj hn (by rw [q_up_u]; exact kk)
theorem dL_offer_9 : decode (i_b iL_offer) 9 = .ok (.goto 9, 3) := by decide +kernel
theorem wL_offer_9  (kk : QW V iL_offer 18 [a0, a1, a2, a3] (st) h z bc bs Kr Kx) : QW V iL_offer 9 [a0, a1, a2, a3] (st) h z bc bs Kr Kx := q_goto dL_offer_9 (by decide) kk
theorem dL_offer_12 : decode (i_b iL_offer) 12 = .ok (.astore_n 3, 1) := by decide +kernel
theorem wL_offer_12 {x : Nat} (kk : QW V iL_offer 13 [a0, a1, a2, some (.ref x)] (st) h z bc bs Kr Kx) (hp : q_n2 a2 = true := by rfl) : QW V iL_offer 12 [a0, a1, a2, a3] (.ref x :: st) h z bc bs Kr Kx := q_astore_n dL_offer_12 rfl (Nat.le_of_ble_eq_true rfl) hp kk
theorem dL_offer_13 : decode (i_b iL_offer) 13 = .ok (.iconst 1, 1) := by decide +kernel
theorem wL_offer_13  (kk : QW V iL_offer 14 [a0, a1, a2, a3] (.int (1) :: st) h z bc bs Kr Kx) : QW V iL_offer 13 [a0, a1, a2, a3] (st) h z bc bs Kr Kx := q_iconst dL_offer_13 (by decide) kk
theorem dL_offer_14 : decode (i_b iL_offer) 14 = .ok (.ireturn, 1) := by decide +kernel
theorem wL_offer_14 {x : Int32} {P : Int32 → q_H → Option Nat → Prop} (hk : P x h z) : QW V iL_offer 14 [a0, a1, a2, a3] [.int x] h z bc bs (q_Ki P) Kx := q_iret dL_offer_14 rfl rfl ⟨x, rfl, hk⟩
theorem dL_offer_15 : decode (i_b iL_offer) 15 = .ok (.astore_n 3, 1) := by decide +kernel
theorem wL_offer_15 {x : Nat} (kk : QW V iL_offer 16 [a0, a1, a2, some (.ref x)] (st) h z bc bs Kr Kx) (hp : q_n2 a2 = true := by rfl) : QW V iL_offer 15 [a0, a1, a2, a3] (.ref x :: st) h z bc bs Kr Kx := q_astore_n dL_offer_15 rfl (Nat.le_of_ble_eq_true rfl) hp kk
theorem dL_offer_16 : decode (i_b iL_offer) 16 = .ok (.iconst 2, 1) := by decide +kernel
theorem wL_offer_16  (kk : QW V iL_offer 17 [a0, a1, a2, a3] (.int (2) :: st) h z bc bs Kr Kx) : QW V iL_offer 16 [a0, a1, a2, a3] (st) h z bc bs Kr Kx := q_iconst dL_offer_16 (by decide) kk
theorem dL_offer_17 : decode (i_b iL_offer) 17 = .ok (.ireturn, 1) := by decide +kernel
theorem wL_offer_17 {x : Int32} {P : Int32 → q_H → Option Nat → Prop} (hk : P x h z) : QW V iL_offer 17 [a0, a1, a2, a3] [.int x] h z bc bs (q_Ki P) Kx := q_iret dL_offer_17 rfl rfl ⟨x, rfl, hk⟩
theorem dL_offer_18 : decode (i_b iL_offer) 18 = .ok (.iconst 0, 1) := by decide +kernel
theorem wL_offer_18  (kk : QW V iL_offer 19 [a0, a1, a2, a3] (.int (0) :: st) h z bc bs Kr Kx) : QW V iL_offer 18 [a0, a1, a2, a3] (st) h z bc bs Kr Kx := q_iconst dL_offer_18 (by decide) kk
theorem dL_offer_19 : decode (i_b iL_offer) 19 = .ok (.ireturn, 1) := by decide +kernel
theorem wL_offer_19 {x : Int32} {P : Int32 → q_H → Option Nat → Prop} (hk : P x h z) : QW V iL_offer 19 [a0, a1, a2, a3] [.int x] h z bc bs (q_Ki P) Kx := q_iret dL_offer_19 rfl rfl ⟨x, rfl, hk⟩
theorem eL_charge {x0 : Nat} {x1 : Int32} {x2 : Int32} {x3 : Nat} {P : Int32 → q_H → Option Nat → Prop} (kk : QW V iL_charge 0 [some (.ref x0), some (.int x1), some (.int x2), some (.ref x3), none] [] h z 3 18 (q_Ki P) Kx) : QMi V iL_charge [.ref x0, .int x1, .int x2, .ref x3] h z P Kx := q_enterH (by decide) (by decide +kernel) rfl (Nat.le_of_ble_eq_true rfl) kk
theorem dL_charge_0 : decode (i_b iL_charge) 0 = .ok (.aload_n 3, 1) := by decide +kernel
theorem wL_charge_0 {x : Nat} (kk : QW V iL_charge 1 [a0, a1, a2, some (.ref x), a4] (.ref x :: st) h z bc bs Kr Kx) : QW V iL_charge 0 [a0, a1, a2, some (.ref x), a4] (st) h z bc bs Kr Kx := q_aload_n dL_charge_0 rfl rfl kk
theorem dL_charge_1 : decode (i_b iL_charge) 1 = .ok (.iconst 0, 1) := by decide +kernel
theorem wL_charge_1  (kk : QW V iL_charge 2 [a0, a1, a2, a3, a4] (.int (0) :: st) h z bc bs Kr Kx) : QW V iL_charge 1 [a0, a1, a2, a3, a4] (st) h z bc bs Kr Kx := q_iconst dL_charge_1 (by decide) kk
theorem dL_charge_2 : decode (i_b iL_charge) 2 = .ok (.aload_n 0, 1) := by decide +kernel
theorem wL_charge_2 {x : Nat} (kk : QW V iL_charge 3 [some (.ref x), a1, a2, a3, a4] (.ref x :: st) h z bc bs Kr Kx) : QW V iL_charge 2 [some (.ref x), a1, a2, a3, a4] (st) h z bc bs Kr Kx := q_aload_n dL_charge_2 rfl rfl kk
theorem dL_charge_3 : decode (i_b iL_charge) 3 = .ok (.iload_n 1, 1) := by decide +kernel
theorem wL_charge_3 {x : Int32} (kk : QW V iL_charge 4 [a0, some (.int x), a2, a3, a4] (.int x :: st) h z bc bs Kr Kx) : QW V iL_charge 3 [a0, some (.int x), a2, a3, a4] (st) h z bc bs Kr Kx := q_iload_n dL_charge_3 rfl rfl kk
theorem dL_charge_4 : decode (i_b iL_charge) 4 = .ok (.iload_n 2, 1) := by decide +kernel
theorem wL_charge_4 {x : Int32} (kk : QW V iL_charge 5 [a0, a1, some (.int x), a3, a4] (.int x :: st) h z bc bs Kr Kx) : QW V iL_charge 4 [a0, a1, some (.int x), a3, a4] (st) h z bc bs Kr Kx := q_iload_n dL_charge_4 rfl rfl kk
theorem dL_charge_5 : decode (i_b iL_charge) 5 = .ok (.invokevirtual 53, 3) := by decide +kernel
theorem wL_charge_5 {a : Nat} {fs : List Value} {x0 : Int32} {x1 : Int32} (hb : h a = some (.inr (9, fs))) (hm : QMi V iX8_charge [.ref a, .int x0, .int x1] h z (fun r h' z' => QW V iL_charge 8 [a0, a1, a2, a3, a4] (.int r :: st) h' z' bc bs Kr Kx) (fun E h2 => (E = "java/lang/IllegalStateException" ∧ ∀ q : Nat, QW V iL_charge 13 [a0, a1, a2, a3, a4] [.ref q] h2 none bc bs Kr Kx) ∨ (E = "java/lang/IllegalArgumentException" ∧ ∀ q : Nat, QW V iL_charge 17 [a0, a1, a2, a3, a4] [.ref q] h2 none bc bs Kr Kx))) (hW : (st.map fun v => v.category).sum ≤ 8 := by exact Nat.le_of_ble_eq_true rfl) : QW V iL_charge 5 [a0, a1, a2, a3, a4] (.int x1 :: .int x0 :: .ref a :: st) h z (bc + 3) (bs + 18) Kr Kx := by
  refine q_callVX (y' := iX8_charge) (As := [.int x0, .int x1]) (rest := st) dL_charge_5 k4_150 k4_151 k4_152 k1_1 hhX8_charge rfl hdX8_charge rfl rfl (Nat.le_of_ble_eq_true rfl) (Nat.le_of_ble_eq_true rfl) hW hb (fun E h2 => (E = "java/lang/IllegalStateException" ∧ ∀ q : Nat, QW V iL_charge 13 [a0, a1, a2, a3, a4] [.ref q] h2 none bc bs Kr Kx) ∨ (E = "java/lang/IllegalArgumentException" ∧ ∀ q : Nat, QW V iL_charge 17 [a0, a1, a2, a3, a4] [.ref q] h2 none bc bs Kr Kx)) (fun E h2 hK => ?_) (QMi.run hm)
  rcases hK with ⟨rfl, hq⟩ | ⟨rfl, hq⟩
  · exact ⟨[], [(0, 10, 17, 19)], (0, 10, 13, 13), rfl, (fun q hq => nomatch hq), by decide, by decide, k3_19, by decide +kernel, hq⟩
  · exact ⟨[(0, 10, 13, 13)], [], (0, 10, 17, 19), rfl, (by intro q hq; simp only [List.mem_cons, List.not_mem_nil, or_false] at hq; subst hq; exact ⟨by decide, "java/lang/IllegalStateException", k3_19, by decide +kernel⟩), by decide, by decide, k3_99, by decide +kernel, hq⟩
theorem dL_charge_8 : decode (i_b iL_charge) 8 = .ok (.i2l, 1) := by decide +kernel
theorem wL_charge_8 {x : Int32} (kk : QW V iL_charge 9 [a0, a1, a2, a3, a4] (.long (x.toInt64) :: st) h z bc bs Kr Kx) : QW V iL_charge 8 [a0, a1, a2, a3, a4] (.int x :: st) h z bc bs Kr Kx := q_i2l dL_charge_8 kk
theorem dL_charge_9 : decode (i_b iL_charge) 9 = .ok (.lastore, 1) := by decide +kernel
theorem wL_charge_9 {a n j : Nat} {f : Nat → Int64} {i : Int32} {x : Int64} (ha : h a = some (.inl (2, n, .inr (.inl f)))) (hi : i = nI j) (hj : j < n) (hn : n < 2147483648) (kk : QW V iL_charge 10 [a0, a1, a2, a3, a4] (st) (q_up h a (.inl (2, n, .inr (.inl (vp_updL f j x))))) z bc bs Kr Kx) : QW V iL_charge 9 [a0, a1, a2, a3, a4] (.long x :: .int i :: .ref a :: st) h z bc bs Kr Kx := q_last dL_charge_9 ha hi hj hn kk
theorem wL_charge_9u {a n j : Nat} {f : Nat → Int64} {i : Int32} {x : Int64} (hi : i = nI j) (hj : j < n) (hn : n < 2147483648) (kk : QW V iL_charge 10 [a0, a1, a2, a3, a4] (st) (q_up h a (.inl (2, n, .inr (.inl (vp_updL f j x))))) z bc bs Kr Kx) : QW V iL_charge 9 [a0, a1, a2, a3, a4] (.long x :: .int i :: .ref a :: st) (q_up h a (.inl (2, n, .inr (.inl f)))) z bc bs Kr Kx := wL_charge_9 q_up_s hi hj hn (by rw [q_up_u]; exact kk)
theorem dL_charge_10 : decode (i_b iL_charge) 10 = .ok (.goto 11, 3) := by decide +kernel
theorem wL_charge_10  (kk : QW V iL_charge 21 [a0, a1, a2, a3, a4] (st) h z bc bs Kr Kx) : QW V iL_charge 10 [a0, a1, a2, a3, a4] (st) h z bc bs Kr Kx := q_goto dL_charge_10 (by decide) kk
theorem dL_charge_13 : decode (i_b iL_charge) 13 = .ok (.astore 4, 2) := by decide +kernel
theorem wL_charge_13 {x : Nat} (kk : QW V iL_charge 15 [a0, a1, a2, a3, some (.ref x)] (st) h z bc bs Kr Kx) (hp : q_n2 a3 = true := by rfl) : QW V iL_charge 13 [a0, a1, a2, a3, a4] (.ref x :: st) h z bc bs Kr Kx := q_astore dL_charge_13 (Nat.le_of_ble_eq_true rfl) hp kk
theorem dL_charge_15 : decode (i_b iL_charge) 15 = .ok (.iconst 1, 1) := by decide +kernel
theorem wL_charge_15  (kk : QW V iL_charge 16 [a0, a1, a2, a3, a4] (.int (1) :: st) h z bc bs Kr Kx) : QW V iL_charge 15 [a0, a1, a2, a3, a4] (st) h z bc bs Kr Kx := q_iconst dL_charge_15 (by decide) kk
theorem dL_charge_16 : decode (i_b iL_charge) 16 = .ok (.ireturn, 1) := by decide +kernel
theorem wL_charge_16 {x : Int32} {P : Int32 → q_H → Option Nat → Prop} (hk : P x h z) : QW V iL_charge 16 [a0, a1, a2, a3, a4] [.int x] h z bc bs (q_Ki P) Kx := q_iret dL_charge_16 rfl rfl ⟨x, rfl, hk⟩
theorem dL_charge_17 : decode (i_b iL_charge) 17 = .ok (.astore 4, 2) := by decide +kernel
theorem wL_charge_17 {x : Nat} (kk : QW V iL_charge 19 [a0, a1, a2, a3, some (.ref x)] (st) h z bc bs Kr Kx) (hp : q_n2 a3 = true := by rfl) : QW V iL_charge 17 [a0, a1, a2, a3, a4] (.ref x :: st) h z bc bs Kr Kx := q_astore dL_charge_17 (Nat.le_of_ble_eq_true rfl) hp kk
theorem dL_charge_19 : decode (i_b iL_charge) 19 = .ok (.iconst 2, 1) := by decide +kernel
theorem wL_charge_19  (kk : QW V iL_charge 20 [a0, a1, a2, a3, a4] (.int (2) :: st) h z bc bs Kr Kx) : QW V iL_charge 19 [a0, a1, a2, a3, a4] (st) h z bc bs Kr Kx := q_iconst dL_charge_19 (by decide) kk
theorem dL_charge_20 : decode (i_b iL_charge) 20 = .ok (.ireturn, 1) := by decide +kernel
theorem wL_charge_20 {x : Int32} {P : Int32 → q_H → Option Nat → Prop} (hk : P x h z) : QW V iL_charge 20 [a0, a1, a2, a3, a4] [.int x] h z bc bs (q_Ki P) Kx := q_iret dL_charge_20 rfl rfl ⟨x, rfl, hk⟩
theorem dL_charge_21 : decode (i_b iL_charge) 21 = .ok (.iconst 0, 1) := by decide +kernel
theorem wL_charge_21  (kk : QW V iL_charge 22 [a0, a1, a2, a3, a4] (.int (0) :: st) h z bc bs Kr Kx) : QW V iL_charge 21 [a0, a1, a2, a3, a4] (st) h z bc bs Kr Kx := q_iconst dL_charge_21 (by decide) kk
theorem dL_charge_22 : decode (i_b iL_charge) 22 = .ok (.ireturn, 1) := by decide +kernel
theorem wL_charge_22 {x : Int32} {P : Int32 → q_H → Option Nat → Prop} (hk : P x h z) : QW V iL_charge 22 [a0, a1, a2, a3, a4] [.int x] h z bc bs (q_Ki P) Kx := q_iret dL_charge_22 rfl rfl ⟨x, rfl, hk⟩
theorem eL_deadMoney {x0 : Nat} {x1 : Int32} {x2 : Int32} {x3 : Nat} {P : Int32 → q_H → Option Nat → Prop} (kk : QW V iL_deadMoney 0 [some (.ref x0), some (.int x1), some (.int x2), some (.ref x3), none] [] h z 3 18 (q_Ki P) Kx) : QMi V iL_deadMoney [.ref x0, .int x1, .int x2, .ref x3] h z P Kx := q_enterH (by decide) (by decide +kernel) rfl (Nat.le_of_ble_eq_true rfl) kk
theorem dL_deadMoney_0 : decode (i_b iL_deadMoney) 0 = .ok (.aload_n 3, 1) := by decide +kernel
theorem wL_deadMoney_0 {x : Nat} (kk : QW V iL_deadMoney 1 [a0, a1, a2, some (.ref x), a4] (.ref x :: st) h z bc bs Kr Kx) : QW V iL_deadMoney 0 [a0, a1, a2, some (.ref x), a4] (st) h z bc bs Kr Kx := q_aload_n dL_deadMoney_0 rfl rfl kk
theorem dL_deadMoney_1 : decode (i_b iL_deadMoney) 1 = .ok (.iconst 0, 1) := by decide +kernel
theorem wL_deadMoney_1  (kk : QW V iL_deadMoney 2 [a0, a1, a2, a3, a4] (.int (0) :: st) h z bc bs Kr Kx) : QW V iL_deadMoney 1 [a0, a1, a2, a3, a4] (st) h z bc bs Kr Kx := q_iconst dL_deadMoney_1 (by decide) kk
theorem dL_deadMoney_2 : decode (i_b iL_deadMoney) 2 = .ok (.aload_n 0, 1) := by decide +kernel
theorem wL_deadMoney_2 {x : Nat} (kk : QW V iL_deadMoney 3 [some (.ref x), a1, a2, a3, a4] (.ref x :: st) h z bc bs Kr Kx) : QW V iL_deadMoney 2 [some (.ref x), a1, a2, a3, a4] (st) h z bc bs Kr Kx := q_aload_n dL_deadMoney_2 rfl rfl kk
theorem dL_deadMoney_3 : decode (i_b iL_deadMoney) 3 = .ok (.iload_n 1, 1) := by decide +kernel
theorem wL_deadMoney_3 {x : Int32} (kk : QW V iL_deadMoney 4 [a0, some (.int x), a2, a3, a4] (.int x :: st) h z bc bs Kr Kx) : QW V iL_deadMoney 3 [a0, some (.int x), a2, a3, a4] (st) h z bc bs Kr Kx := q_iload_n dL_deadMoney_3 rfl rfl kk
theorem dL_deadMoney_4 : decode (i_b iL_deadMoney) 4 = .ok (.iload_n 2, 1) := by decide +kernel
theorem wL_deadMoney_4 {x : Int32} (kk : QW V iL_deadMoney 5 [a0, a1, some (.int x), a3, a4] (.int x :: st) h z bc bs Kr Kx) : QW V iL_deadMoney 4 [a0, a1, some (.int x), a3, a4] (st) h z bc bs Kr Kx := q_iload_n dL_deadMoney_4 rfl rfl kk
theorem dL_deadMoney_5 : decode (i_b iL_deadMoney) 5 = .ok (.invokevirtual 57, 3) := by decide +kernel
theorem wL_deadMoney_5 {a : Nat} {fs : List Value} {x0 : Int32} {x1 : Int32} (hb : h a = some (.inr (9, fs))) (hm : QMi V iX8_deadMoney [.ref a, .int x0, .int x1] h z (fun r h' z' => QW V iL_deadMoney 8 [a0, a1, a2, a3, a4] (.int r :: st) h' z' bc bs Kr Kx) (fun E h2 => (E = "java/lang/IllegalStateException" ∧ ∀ q : Nat, QW V iL_deadMoney 13 [a0, a1, a2, a3, a4] [.ref q] h2 none bc bs Kr Kx) ∨ (E = "java/lang/IllegalArgumentException" ∧ ∀ q : Nat, QW V iL_deadMoney 17 [a0, a1, a2, a3, a4] [.ref q] h2 none bc bs Kr Kx))) (hW : (st.map fun v => v.category).sum ≤ 8 := by exact Nat.le_of_ble_eq_true rfl) : QW V iL_deadMoney 5 [a0, a1, a2, a3, a4] (.int x1 :: .int x0 :: .ref a :: st) h z (bc + 3) (bs + 18) Kr Kx := by
  refine q_callVX (y' := iX8_deadMoney) (As := [.int x0, .int x1]) (rest := st) dL_deadMoney_5 k4_157 k4_158 k4_159 k1_1 hhX8_deadMoney rfl hdX8_deadMoney rfl rfl (Nat.le_of_ble_eq_true rfl) (Nat.le_of_ble_eq_true rfl) hW hb (fun E h2 => (E = "java/lang/IllegalStateException" ∧ ∀ q : Nat, QW V iL_deadMoney 13 [a0, a1, a2, a3, a4] [.ref q] h2 none bc bs Kr Kx) ∨ (E = "java/lang/IllegalArgumentException" ∧ ∀ q : Nat, QW V iL_deadMoney 17 [a0, a1, a2, a3, a4] [.ref q] h2 none bc bs Kr Kx)) (fun E h2 hK => ?_) (QMi.run hm)
  rcases hK with ⟨rfl, hq⟩ | ⟨rfl, hq⟩
  · exact ⟨[], [(0, 10, 17, 19)], (0, 10, 13, 13), rfl, (fun q hq => nomatch hq), by decide, by decide, k3_19, by decide +kernel, hq⟩
  · exact ⟨[(0, 10, 13, 13)], [], (0, 10, 17, 19), rfl, (by intro q hq; simp only [List.mem_cons, List.not_mem_nil, or_false] at hq; subst hq; exact ⟨by decide, "java/lang/IllegalStateException", k3_19, by decide +kernel⟩), by decide, by decide, k3_99, by decide +kernel, hq⟩
theorem dL_deadMoney_8 : decode (i_b iL_deadMoney) 8 = .ok (.i2l, 1) := by decide +kernel
theorem wL_deadMoney_8 {x : Int32} (kk : QW V iL_deadMoney 9 [a0, a1, a2, a3, a4] (.long (x.toInt64) :: st) h z bc bs Kr Kx) : QW V iL_deadMoney 8 [a0, a1, a2, a3, a4] (.int x :: st) h z bc bs Kr Kx := q_i2l dL_deadMoney_8 kk
theorem dL_deadMoney_9 : decode (i_b iL_deadMoney) 9 = .ok (.lastore, 1) := by decide +kernel
theorem wL_deadMoney_9 {a n j : Nat} {f : Nat → Int64} {i : Int32} {x : Int64} (ha : h a = some (.inl (2, n, .inr (.inl f)))) (hi : i = nI j) (hj : j < n) (hn : n < 2147483648) (kk : QW V iL_deadMoney 10 [a0, a1, a2, a3, a4] (st) (q_up h a (.inl (2, n, .inr (.inl (vp_updL f j x))))) z bc bs Kr Kx) : QW V iL_deadMoney 9 [a0, a1, a2, a3, a4] (.long x :: .int i :: .ref a :: st) h z bc bs Kr Kx := q_last dL_deadMoney_9 ha hi hj hn kk
theorem wL_deadMoney_9u {a n j : Nat} {f : Nat → Int64} {i : Int32} {x : Int64} (hi : i = nI j) (hj : j < n) (hn : n < 2147483648) (kk : QW V iL_deadMoney 10 [a0, a1, a2, a3, a4] (st) (q_up h a (.inl (2, n, .inr (.inl (vp_updL f j x))))) z bc bs Kr Kx) : QW V iL_deadMoney 9 [a0, a1, a2, a3, a4] (.long x :: .int i :: .ref a :: st) (q_up h a (.inl (2, n, .inr (.inl f)))) z bc bs Kr Kx := wL_deadMoney_9 q_up_s hi hj hn (by rw [q_up_u]; exact kk)
theorem dL_deadMoney_10 : decode (i_b iL_deadMoney) 10 = .ok (.goto 11, 3) := by decide +kernel
theorem wL_deadMoney_10  (kk : QW V iL_deadMoney 21 [a0, a1, a2, a3, a4] (st) h z bc bs Kr Kx) : QW V iL_deadMoney 10 [a0, a1, a2, a3, a4] (st) h z bc bs Kr Kx := q_goto dL_deadMoney_10 (by decide) kk
theorem dL_deadMoney_13 : decode (i_b iL_deadMoney) 13 = .ok (.astore 4, 2) := by decide +kernel
theorem wL_deadMoney_13 {x : Nat} (kk : QW V iL_deadMoney 15 [a0, a1, a2, a3, some (.ref x)] (st) h z bc bs Kr Kx) (hp : q_n2 a3 = true := by rfl) : QW V iL_deadMoney 13 [a0, a1, a2, a3, a4] (.ref x :: st) h z bc bs Kr Kx := q_astore dL_deadMoney_13 (Nat.le_of_ble_eq_true rfl) hp kk
theorem dL_deadMoney_15 : decode (i_b iL_deadMoney) 15 = .ok (.iconst 1, 1) := by decide +kernel
theorem wL_deadMoney_15  (kk : QW V iL_deadMoney 16 [a0, a1, a2, a3, a4] (.int (1) :: st) h z bc bs Kr Kx) : QW V iL_deadMoney 15 [a0, a1, a2, a3, a4] (st) h z bc bs Kr Kx := q_iconst dL_deadMoney_15 (by decide) kk
theorem dL_deadMoney_16 : decode (i_b iL_deadMoney) 16 = .ok (.ireturn, 1) := by decide +kernel
theorem wL_deadMoney_16 {x : Int32} {P : Int32 → q_H → Option Nat → Prop} (hk : P x h z) : QW V iL_deadMoney 16 [a0, a1, a2, a3, a4] [.int x] h z bc bs (q_Ki P) Kx := q_iret dL_deadMoney_16 rfl rfl ⟨x, rfl, hk⟩
theorem dL_deadMoney_17 : decode (i_b iL_deadMoney) 17 = .ok (.astore 4, 2) := by decide +kernel
theorem wL_deadMoney_17 {x : Nat} (kk : QW V iL_deadMoney 19 [a0, a1, a2, a3, some (.ref x)] (st) h z bc bs Kr Kx) (hp : q_n2 a3 = true := by rfl) : QW V iL_deadMoney 17 [a0, a1, a2, a3, a4] (.ref x :: st) h z bc bs Kr Kx := q_astore dL_deadMoney_17 (Nat.le_of_ble_eq_true rfl) hp kk
theorem dL_deadMoney_19 : decode (i_b iL_deadMoney) 19 = .ok (.iconst 2, 1) := by decide +kernel
theorem wL_deadMoney_19  (kk : QW V iL_deadMoney 20 [a0, a1, a2, a3, a4] (.int (2) :: st) h z bc bs Kr Kx) : QW V iL_deadMoney 19 [a0, a1, a2, a3, a4] (st) h z bc bs Kr Kx := q_iconst dL_deadMoney_19 (by decide) kk
theorem dL_deadMoney_20 : decode (i_b iL_deadMoney) 20 = .ok (.ireturn, 1) := by decide +kernel
theorem wL_deadMoney_20 {x : Int32} {P : Int32 → q_H → Option Nat → Prop} (hk : P x h z) : QW V iL_deadMoney 20 [a0, a1, a2, a3, a4] [.int x] h z bc bs (q_Ki P) Kx := q_iret dL_deadMoney_20 rfl rfl ⟨x, rfl, hk⟩
theorem dL_deadMoney_21 : decode (i_b iL_deadMoney) 21 = .ok (.iconst 0, 1) := by decide +kernel
theorem wL_deadMoney_21  (kk : QW V iL_deadMoney 22 [a0, a1, a2, a3, a4] (.int (0) :: st) h z bc bs Kr Kx) : QW V iL_deadMoney 21 [a0, a1, a2, a3, a4] (st) h z bc bs Kr Kx := q_iconst dL_deadMoney_21 (by decide) kk
theorem dL_deadMoney_22 : decode (i_b iL_deadMoney) 22 = .ok (.ireturn, 1) := by decide +kernel
theorem wL_deadMoney_22 {x : Int32} {P : Int32 → q_H → Option Nat → Prop} (hk : P x h z) : QW V iL_deadMoney 22 [a0, a1, a2, a3, a4] [.int x] h z bc bs (q_Ki P) Kx := q_iret dL_deadMoney_22 rfl rfl ⟨x, rfl, hk⟩
theorem eL_room {x0 : Nat} {x1 : Int32} {x2 : Nat} {P : Int32 → q_H → Option Nat → Prop} (kk : QW V iL_room 0 [some (.ref x0), some (.int x1), some (.ref x2), none] [] h z 2 12 (q_Ki P) Kx) : QMi V iL_room [.ref x0, .int x1, .ref x2] h z P Kx := q_enterH (by decide) (by decide +kernel) rfl (Nat.le_of_ble_eq_true rfl) kk
theorem dL_room_0 : decode (i_b iL_room) 0 = .ok (.aload_n 2, 1) := by decide +kernel
theorem wL_room_0 {x : Nat} (kk : QW V iL_room 1 [a0, a1, some (.ref x), a3] (.ref x :: st) h z bc bs Kr Kx) : QW V iL_room 0 [a0, a1, some (.ref x), a3] (st) h z bc bs Kr Kx := q_aload_n dL_room_0 rfl rfl kk
theorem dL_room_1 : decode (i_b iL_room) 1 = .ok (.iconst 0, 1) := by decide +kernel
theorem wL_room_1  (kk : QW V iL_room 2 [a0, a1, a2, a3] (.int (0) :: st) h z bc bs Kr Kx) : QW V iL_room 1 [a0, a1, a2, a3] (st) h z bc bs Kr Kx := q_iconst dL_room_1 (by decide) kk
theorem dL_room_2 : decode (i_b iL_room) 2 = .ok (.aload_n 0, 1) := by decide +kernel
theorem wL_room_2 {x : Nat} (kk : QW V iL_room 3 [some (.ref x), a1, a2, a3] (.ref x :: st) h z bc bs Kr Kx) : QW V iL_room 2 [some (.ref x), a1, a2, a3] (st) h z bc bs Kr Kx := q_aload_n dL_room_2 rfl rfl kk
theorem dL_room_3 : decode (i_b iL_room) 3 = .ok (.iload_n 1, 1) := by decide +kernel
theorem wL_room_3 {x : Int32} (kk : QW V iL_room 4 [a0, some (.int x), a2, a3] (.int x :: st) h z bc bs Kr Kx) : QW V iL_room 3 [a0, some (.int x), a2, a3] (st) h z bc bs Kr Kx := q_iload_n dL_room_3 rfl rfl kk
theorem dL_room_4 : decode (i_b iL_room) 4 = .ok (.invokevirtual 60, 3) := by decide +kernel
theorem wL_room_4 {a : Nat} {fs : List Value} {x0 : Int32} (hb : h a = some (.inr (9, fs))) (hm : QMi V iX8_room [.ref a, .int x0] h z (fun r h' z' => QW V iL_room 7 [a0, a1, a2, a3] (.int r :: st) h' z' bc bs Kr Kx) (fun E h2 => (E = "java/lang/IllegalStateException" ∧ ∀ q : Nat, QW V iL_room 12 [a0, a1, a2, a3] [.ref q] h2 none bc bs Kr Kx) ∨ (E = "java/lang/IllegalArgumentException" ∧ ∀ q : Nat, QW V iL_room 15 [a0, a1, a2, a3] [.ref q] h2 none bc bs Kr Kx))) (hW : (st.map fun v => v.category).sum ≤ 8 := by exact Nat.le_of_ble_eq_true rfl) : QW V iL_room 4 [a0, a1, a2, a3] (.int x0 :: .ref a :: st) h z (bc + 2) (bs + 12) Kr Kx := by
  refine q_callVX (y' := iX8_room) (As := [.int x0]) (rest := st) dL_room_4 k4_165 k4_166 k4_167 k1_1 hhX8_room rfl hdX8_room rfl rfl (Nat.le_of_ble_eq_true rfl) (Nat.le_of_ble_eq_true rfl) hW hb (fun E h2 => (E = "java/lang/IllegalStateException" ∧ ∀ q : Nat, QW V iL_room 12 [a0, a1, a2, a3] [.ref q] h2 none bc bs Kr Kx) ∨ (E = "java/lang/IllegalArgumentException" ∧ ∀ q : Nat, QW V iL_room 15 [a0, a1, a2, a3] [.ref q] h2 none bc bs Kr Kx)) (fun E h2 hK => ?_) (QMi.run hm)
  rcases hK with ⟨rfl, hq⟩ | ⟨rfl, hq⟩
  · exact ⟨[], [(0, 9, 15, 19)], (0, 9, 12, 13), rfl, (fun q hq => nomatch hq), by decide, by decide, k3_19, by decide +kernel, hq⟩
  · exact ⟨[(0, 9, 12, 13)], [], (0, 9, 15, 19), rfl, (by intro q hq; simp only [List.mem_cons, List.not_mem_nil, or_false] at hq; subst hq; exact ⟨by decide, "java/lang/IllegalStateException", k3_19, by decide +kernel⟩), by decide, by decide, k3_99, by decide +kernel, hq⟩
theorem dL_room_7 : decode (i_b iL_room) 7 = .ok (.i2l, 1) := by decide +kernel
theorem wL_room_7 {x : Int32} (kk : QW V iL_room 8 [a0, a1, a2, a3] (.long (x.toInt64) :: st) h z bc bs Kr Kx) : QW V iL_room 7 [a0, a1, a2, a3] (.int x :: st) h z bc bs Kr Kx := q_i2l dL_room_7 kk
theorem dL_room_8 : decode (i_b iL_room) 8 = .ok (.lastore, 1) := by decide +kernel
theorem wL_room_8 {a n j : Nat} {f : Nat → Int64} {i : Int32} {x : Int64} (ha : h a = some (.inl (2, n, .inr (.inl f)))) (hi : i = nI j) (hj : j < n) (hn : n < 2147483648) (kk : QW V iL_room 9 [a0, a1, a2, a3] (st) (q_up h a (.inl (2, n, .inr (.inl (vp_updL f j x))))) z bc bs Kr Kx) : QW V iL_room 8 [a0, a1, a2, a3] (.long x :: .int i :: .ref a :: st) h z bc bs Kr Kx := q_last dL_room_8 ha hi hj hn kk
theorem wL_room_8u {a n j : Nat} {f : Nat → Int64} {i : Int32} {x : Int64} (hi : i = nI j) (hj : j < n) (hn : n < 2147483648) (kk : QW V iL_room 9 [a0, a1, a2, a3] (st) (q_up h a (.inl (2, n, .inr (.inl (vp_updL f j x))))) z bc bs Kr Kx) : QW V iL_room 8 [a0, a1, a2, a3] (.long x :: .int i :: .ref a :: st) (q_up h a (.inl (2, n, .inr (.inl f)))) z bc bs Kr Kx := wL_room_8 q_up_s hi hj hn (by rw [q_up_u]; exact kk)
theorem dL_room_9 : decode (i_b iL_room) 9 = .ok (.goto 9, 3) := by decide +kernel
theorem wL_room_9  (kk : QW V iL_room 18 [a0, a1, a2, a3] (st) h z bc bs Kr Kx) : QW V iL_room 9 [a0, a1, a2, a3] (st) h z bc bs Kr Kx := q_goto dL_room_9 (by decide) kk
theorem dL_room_12 : decode (i_b iL_room) 12 = .ok (.astore_n 3, 1) := by decide +kernel
theorem wL_room_12 {x : Nat} (kk : QW V iL_room 13 [a0, a1, a2, some (.ref x)] (st) h z bc bs Kr Kx) (hp : q_n2 a2 = true := by rfl) : QW V iL_room 12 [a0, a1, a2, a3] (.ref x :: st) h z bc bs Kr Kx := q_astore_n dL_room_12 rfl (Nat.le_of_ble_eq_true rfl) hp kk
theorem dL_room_13 : decode (i_b iL_room) 13 = .ok (.iconst 1, 1) := by decide +kernel
theorem wL_room_13  (kk : QW V iL_room 14 [a0, a1, a2, a3] (.int (1) :: st) h z bc bs Kr Kx) : QW V iL_room 13 [a0, a1, a2, a3] (st) h z bc bs Kr Kx := q_iconst dL_room_13 (by decide) kk
theorem dL_room_14 : decode (i_b iL_room) 14 = .ok (.ireturn, 1) := by decide +kernel
theorem wL_room_14 {x : Int32} {P : Int32 → q_H → Option Nat → Prop} (hk : P x h z) : QW V iL_room 14 [a0, a1, a2, a3] [.int x] h z bc bs (q_Ki P) Kx := q_iret dL_room_14 rfl rfl ⟨x, rfl, hk⟩
theorem dL_room_15 : decode (i_b iL_room) 15 = .ok (.astore_n 3, 1) := by decide +kernel
theorem wL_room_15 {x : Nat} (kk : QW V iL_room 16 [a0, a1, a2, some (.ref x)] (st) h z bc bs Kr Kx) (hp : q_n2 a2 = true := by rfl) : QW V iL_room 15 [a0, a1, a2, a3] (.ref x :: st) h z bc bs Kr Kx := q_astore_n dL_room_15 rfl (Nat.le_of_ble_eq_true rfl) hp kk
theorem dL_room_16 : decode (i_b iL_room) 16 = .ok (.iconst 2, 1) := by decide +kernel
theorem wL_room_16  (kk : QW V iL_room 17 [a0, a1, a2, a3] (.int (2) :: st) h z bc bs Kr Kx) : QW V iL_room 16 [a0, a1, a2, a3] (st) h z bc bs Kr Kx := q_iconst dL_room_16 (by decide) kk
theorem dL_room_17 : decode (i_b iL_room) 17 = .ok (.ireturn, 1) := by decide +kernel
theorem wL_room_17 {x : Int32} {P : Int32 → q_H → Option Nat → Prop} (hk : P x h z) : QW V iL_room 17 [a0, a1, a2, a3] [.int x] h z bc bs (q_Ki P) Kx := q_iret dL_room_17 rfl rfl ⟨x, rfl, hk⟩
theorem dL_room_18 : decode (i_b iL_room) 18 = .ok (.iconst 0, 1) := by decide +kernel
theorem wL_room_18  (kk : QW V iL_room 19 [a0, a1, a2, a3] (.int (0) :: st) h z bc bs Kr Kx) : QW V iL_room 18 [a0, a1, a2, a3] (st) h z bc bs Kr Kx := q_iconst dL_room_18 (by decide) kk
theorem dL_room_19 : decode (i_b iL_room) 19 = .ok (.ireturn, 1) := by decide +kernel
theorem wL_room_19 {x : Int32} {P : Int32 → q_H → Option Nat → Prop} (hk : P x h z) : QW V iL_room 19 [a0, a1, a2, a3] [.int x] h z bc bs (q_Ki P) Kx := q_iret dL_room_19 rfl rfl ⟨x, rfl, hk⟩
theorem eL_tax {x0 : Nat} {x1 : Int32} {x2 : Nat} {P : Int32 → q_H → Option Nat → Prop} (kk : QW V iL_tax 0 [some (.ref x0), some (.int x1), some (.ref x2), none] [] h z 2 12 (q_Ki P) Kx) : QMi V iL_tax [.ref x0, .int x1, .ref x2] h z P Kx := q_enterH (by decide) (by decide +kernel) rfl (Nat.le_of_ble_eq_true rfl) kk
theorem dL_tax_0 : decode (i_b iL_tax) 0 = .ok (.aload_n 2, 1) := by decide +kernel
theorem wL_tax_0 {x : Nat} (kk : QW V iL_tax 1 [a0, a1, some (.ref x), a3] (.ref x :: st) h z bc bs Kr Kx) : QW V iL_tax 0 [a0, a1, some (.ref x), a3] (st) h z bc bs Kr Kx := q_aload_n dL_tax_0 rfl rfl kk
theorem dL_tax_1 : decode (i_b iL_tax) 1 = .ok (.iconst 0, 1) := by decide +kernel
theorem wL_tax_1  (kk : QW V iL_tax 2 [a0, a1, a2, a3] (.int (0) :: st) h z bc bs Kr Kx) : QW V iL_tax 1 [a0, a1, a2, a3] (st) h z bc bs Kr Kx := q_iconst dL_tax_1 (by decide) kk
theorem dL_tax_2 : decode (i_b iL_tax) 2 = .ok (.aload_n 0, 1) := by decide +kernel
theorem wL_tax_2 {x : Nat} (kk : QW V iL_tax 3 [some (.ref x), a1, a2, a3] (.ref x :: st) h z bc bs Kr Kx) : QW V iL_tax 2 [some (.ref x), a1, a2, a3] (st) h z bc bs Kr Kx := q_aload_n dL_tax_2 rfl rfl kk
theorem dL_tax_3 : decode (i_b iL_tax) 3 = .ok (.iload_n 1, 1) := by decide +kernel
theorem wL_tax_3 {x : Int32} (kk : QW V iL_tax 4 [a0, some (.int x), a2, a3] (.int x :: st) h z bc bs Kr Kx) : QW V iL_tax 3 [a0, some (.int x), a2, a3] (st) h z bc bs Kr Kx := q_iload_n dL_tax_3 rfl rfl kk
theorem dL_tax_4 : decode (i_b iL_tax) 4 = .ok (.invokevirtual 63, 3) := by decide +kernel
theorem wL_tax_4 {a : Nat} {fs : List Value} {x0 : Int32} (hb : h a = some (.inr (9, fs))) (hm : QMl V iX8_tax [.ref a, .int x0] h z (fun r h' z' => QW V iL_tax 7 [a0, a1, a2, a3] (.long r :: st) h' z' bc bs Kr Kx) (fun E h2 => (E = "java/lang/IllegalStateException" ∧ ∀ q : Nat, QW V iL_tax 11 [a0, a1, a2, a3] [.ref q] h2 none bc bs Kr Kx) ∨ (E = "java/lang/IllegalArgumentException" ∧ ∀ q : Nat, QW V iL_tax 14 [a0, a1, a2, a3] [.ref q] h2 none bc bs Kr Kx))) (hW : (st.map fun v => v.category).sum ≤ 8 := by exact Nat.le_of_ble_eq_true rfl) : QW V iL_tax 4 [a0, a1, a2, a3] (.int x0 :: .ref a :: st) h z (bc + 2) (bs + 12) Kr Kx := by
  refine q_callVX (y' := iX8_tax) (As := [.int x0]) (rest := st) dL_tax_4 k4_172 k4_173 k4_174 k1_1 hhX8_tax rfl hdX8_tax rfl rfl (Nat.le_of_ble_eq_true rfl) (Nat.le_of_ble_eq_true rfl) hW hb (fun E h2 => (E = "java/lang/IllegalStateException" ∧ ∀ q : Nat, QW V iL_tax 11 [a0, a1, a2, a3] [.ref q] h2 none bc bs Kr Kx) ∨ (E = "java/lang/IllegalArgumentException" ∧ ∀ q : Nat, QW V iL_tax 14 [a0, a1, a2, a3] [.ref q] h2 none bc bs Kr Kx)) (fun E h2 hK => ?_) (QMl.run hm)
  rcases hK with ⟨rfl, hq⟩ | ⟨rfl, hq⟩
  · exact ⟨[], [(0, 8, 14, 19)], (0, 8, 11, 13), rfl, (fun q hq => nomatch hq), by decide, by decide, k3_19, by decide +kernel, hq⟩
  · exact ⟨[(0, 8, 11, 13)], [], (0, 8, 14, 19), rfl, (by intro q hq; simp only [List.mem_cons, List.not_mem_nil, or_false] at hq; subst hq; exact ⟨by decide, "java/lang/IllegalStateException", k3_19, by decide +kernel⟩), by decide, by decide, k3_99, by decide +kernel, hq⟩
theorem dL_tax_7 : decode (i_b iL_tax) 7 = .ok (.lastore, 1) := by decide +kernel
theorem wL_tax_7 {a n j : Nat} {f : Nat → Int64} {i : Int32} {x : Int64} (ha : h a = some (.inl (2, n, .inr (.inl f)))) (hi : i = nI j) (hj : j < n) (hn : n < 2147483648) (kk : QW V iL_tax 8 [a0, a1, a2, a3] (st) (q_up h a (.inl (2, n, .inr (.inl (vp_updL f j x))))) z bc bs Kr Kx) : QW V iL_tax 7 [a0, a1, a2, a3] (.long x :: .int i :: .ref a :: st) h z bc bs Kr Kx := q_last dL_tax_7 ha hi hj hn kk
theorem wL_tax_7u {a n j : Nat} {f : Nat → Int64} {i : Int32} {x : Int64} (hi : i = nI j) (hj : j < n) (hn : n < 2147483648) (kk : QW V iL_tax 8 [a0, a1, a2, a3] (st) (q_up h a (.inl (2, n, .inr (.inl (vp_updL f j x))))) z bc bs Kr Kx) : QW V iL_tax 7 [a0, a1, a2, a3] (.long x :: .int i :: .ref a :: st) (q_up h a (.inl (2, n, .inr (.inl f)))) z bc bs Kr Kx := wL_tax_7 q_up_s hi hj hn (by rw [q_up_u]; exact kk)
theorem dL_tax_8 : decode (i_b iL_tax) 8 = .ok (.goto 9, 3) := by decide +kernel
theorem wL_tax_8  (kk : QW V iL_tax 17 [a0, a1, a2, a3] (st) h z bc bs Kr Kx) : QW V iL_tax 8 [a0, a1, a2, a3] (st) h z bc bs Kr Kx := q_goto dL_tax_8 (by decide) kk
theorem dL_tax_11 : decode (i_b iL_tax) 11 = .ok (.astore_n 3, 1) := by decide +kernel
theorem wL_tax_11 {x : Nat} (kk : QW V iL_tax 12 [a0, a1, a2, some (.ref x)] (st) h z bc bs Kr Kx) (hp : q_n2 a2 = true := by rfl) : QW V iL_tax 11 [a0, a1, a2, a3] (.ref x :: st) h z bc bs Kr Kx := q_astore_n dL_tax_11 rfl (Nat.le_of_ble_eq_true rfl) hp kk
theorem dL_tax_12 : decode (i_b iL_tax) 12 = .ok (.iconst 1, 1) := by decide +kernel
theorem wL_tax_12  (kk : QW V iL_tax 13 [a0, a1, a2, a3] (.int (1) :: st) h z bc bs Kr Kx) : QW V iL_tax 12 [a0, a1, a2, a3] (st) h z bc bs Kr Kx := q_iconst dL_tax_12 (by decide) kk
theorem dL_tax_13 : decode (i_b iL_tax) 13 = .ok (.ireturn, 1) := by decide +kernel
theorem wL_tax_13 {x : Int32} {P : Int32 → q_H → Option Nat → Prop} (hk : P x h z) : QW V iL_tax 13 [a0, a1, a2, a3] [.int x] h z bc bs (q_Ki P) Kx := q_iret dL_tax_13 rfl rfl ⟨x, rfl, hk⟩
theorem dL_tax_14 : decode (i_b iL_tax) 14 = .ok (.astore_n 3, 1) := by decide +kernel
theorem wL_tax_14 {x : Nat} (kk : QW V iL_tax 15 [a0, a1, a2, some (.ref x)] (st) h z bc bs Kr Kx) (hp : q_n2 a2 = true := by rfl) : QW V iL_tax 14 [a0, a1, a2, a3] (.ref x :: st) h z bc bs Kr Kx := q_astore_n dL_tax_14 rfl (Nat.le_of_ble_eq_true rfl) hp kk
theorem dL_tax_15 : decode (i_b iL_tax) 15 = .ok (.iconst 2, 1) := by decide +kernel
theorem wL_tax_15  (kk : QW V iL_tax 16 [a0, a1, a2, a3] (.int (2) :: st) h z bc bs Kr Kx) : QW V iL_tax 15 [a0, a1, a2, a3] (st) h z bc bs Kr Kx := q_iconst dL_tax_15 (by decide) kk
theorem dL_tax_16 : decode (i_b iL_tax) 16 = .ok (.ireturn, 1) := by decide +kernel
theorem wL_tax_16 {x : Int32} {P : Int32 → q_H → Option Nat → Prop} (hk : P x h z) : QW V iL_tax 16 [a0, a1, a2, a3] [.int x] h z bc bs (q_Ki P) Kx := q_iret dL_tax_16 rfl rfl ⟨x, rfl, hk⟩
theorem dL_tax_17 : decode (i_b iL_tax) 17 = .ok (.iconst 0, 1) := by decide +kernel
theorem wL_tax_17  (kk : QW V iL_tax 18 [a0, a1, a2, a3] (.int (0) :: st) h z bc bs Kr Kx) : QW V iL_tax 17 [a0, a1, a2, a3] (st) h z bc bs Kr Kx := q_iconst dL_tax_17 (by decide) kk
theorem dL_tax_18 : decode (i_b iL_tax) 18 = .ok (.ireturn, 1) := by decide +kernel
theorem wL_tax_18 {x : Int32} {P : Int32 → q_H → Option Nat → Prop} (hk : P x h z) : QW V iL_tax 18 [a0, a1, a2, a3] [.int x] h z bc bs (q_Ki P) Kx := q_iret dL_tax_18 rfl rfl ⟨x, rfl, hk⟩
theorem eL_paid {x0 : Nat} {x1 : Int32} {x2 : Nat} {P : Int32 → q_H → Option Nat → Prop} (kk : QW V iL_paid 0 [some (.ref x0), some (.int x1), some (.ref x2), none] [] h z 2 12 (q_Ki P) Kx) : QMi V iL_paid [.ref x0, .int x1, .ref x2] h z P Kx := q_enterH (by decide) (by decide +kernel) rfl (Nat.le_of_ble_eq_true rfl) kk
theorem dL_paid_0 : decode (i_b iL_paid) 0 = .ok (.aload_n 2, 1) := by decide +kernel
theorem wL_paid_0 {x : Nat} (kk : QW V iL_paid 1 [a0, a1, some (.ref x), a3] (.ref x :: st) h z bc bs Kr Kx) : QW V iL_paid 0 [a0, a1, some (.ref x), a3] (st) h z bc bs Kr Kx := q_aload_n dL_paid_0 rfl rfl kk
theorem dL_paid_1 : decode (i_b iL_paid) 1 = .ok (.iconst 0, 1) := by decide +kernel
theorem wL_paid_1  (kk : QW V iL_paid 2 [a0, a1, a2, a3] (.int (0) :: st) h z bc bs Kr Kx) : QW V iL_paid 1 [a0, a1, a2, a3] (st) h z bc bs Kr Kx := q_iconst dL_paid_1 (by decide) kk
theorem dL_paid_2 : decode (i_b iL_paid) 2 = .ok (.aload_n 0, 1) := by decide +kernel
theorem wL_paid_2 {x : Nat} (kk : QW V iL_paid 3 [some (.ref x), a1, a2, a3] (.ref x :: st) h z bc bs Kr Kx) : QW V iL_paid 2 [some (.ref x), a1, a2, a3] (st) h z bc bs Kr Kx := q_aload_n dL_paid_2 rfl rfl kk
theorem dL_paid_3 : decode (i_b iL_paid) 3 = .ok (.iload_n 1, 1) := by decide +kernel
theorem wL_paid_3 {x : Int32} (kk : QW V iL_paid 4 [a0, some (.int x), a2, a3] (.int x :: st) h z bc bs Kr Kx) : QW V iL_paid 3 [a0, some (.int x), a2, a3] (st) h z bc bs Kr Kx := q_iload_n dL_paid_3 rfl rfl kk
theorem dL_paid_4 : decode (i_b iL_paid) 4 = .ok (.invokevirtual 67, 3) := by decide +kernel
theorem wL_paid_4 {a : Nat} {fs : List Value} {x0 : Int32} (hb : h a = some (.inr (9, fs))) (hm : QMl V iX8_paid [.ref a, .int x0] h z (fun r h' z' => QW V iL_paid 7 [a0, a1, a2, a3] (.long r :: st) h' z' bc bs Kr Kx) (fun E h2 => (E = "java/lang/IllegalStateException" ∧ ∀ q : Nat, QW V iL_paid 11 [a0, a1, a2, a3] [.ref q] h2 none bc bs Kr Kx) ∨ (E = "java/lang/IllegalArgumentException" ∧ ∀ q : Nat, QW V iL_paid 14 [a0, a1, a2, a3] [.ref q] h2 none bc bs Kr Kx))) (hW : (st.map fun v => v.category).sum ≤ 8 := by exact Nat.le_of_ble_eq_true rfl) : QW V iL_paid 4 [a0, a1, a2, a3] (.int x0 :: .ref a :: st) h z (bc + 2) (bs + 12) Kr Kx := by
  refine q_callVX (y' := iX8_paid) (As := [.int x0]) (rest := st) dL_paid_4 k4_179 k4_180 k4_181 k1_1 hhX8_paid rfl hdX8_paid rfl rfl (Nat.le_of_ble_eq_true rfl) (Nat.le_of_ble_eq_true rfl) hW hb (fun E h2 => (E = "java/lang/IllegalStateException" ∧ ∀ q : Nat, QW V iL_paid 11 [a0, a1, a2, a3] [.ref q] h2 none bc bs Kr Kx) ∨ (E = "java/lang/IllegalArgumentException" ∧ ∀ q : Nat, QW V iL_paid 14 [a0, a1, a2, a3] [.ref q] h2 none bc bs Kr Kx)) (fun E h2 hK => ?_) (QMl.run hm)
  rcases hK with ⟨rfl, hq⟩ | ⟨rfl, hq⟩
  · exact ⟨[], [(0, 8, 14, 19)], (0, 8, 11, 13), rfl, (fun q hq => nomatch hq), by decide, by decide, k3_19, by decide +kernel, hq⟩
  · exact ⟨[(0, 8, 11, 13)], [], (0, 8, 14, 19), rfl, (by intro q hq; simp only [List.mem_cons, List.not_mem_nil, or_false] at hq; subst hq; exact ⟨by decide, "java/lang/IllegalStateException", k3_19, by decide +kernel⟩), by decide, by decide, k3_99, by decide +kernel, hq⟩
theorem dL_paid_7 : decode (i_b iL_paid) 7 = .ok (.lastore, 1) := by decide +kernel
theorem wL_paid_7 {a n j : Nat} {f : Nat → Int64} {i : Int32} {x : Int64} (ha : h a = some (.inl (2, n, .inr (.inl f)))) (hi : i = nI j) (hj : j < n) (hn : n < 2147483648) (kk : QW V iL_paid 8 [a0, a1, a2, a3] (st) (q_up h a (.inl (2, n, .inr (.inl (vp_updL f j x))))) z bc bs Kr Kx) : QW V iL_paid 7 [a0, a1, a2, a3] (.long x :: .int i :: .ref a :: st) h z bc bs Kr Kx := q_last dL_paid_7 ha hi hj hn kk
theorem wL_paid_7u {a n j : Nat} {f : Nat → Int64} {i : Int32} {x : Int64} (hi : i = nI j) (hj : j < n) (hn : n < 2147483648) (kk : QW V iL_paid 8 [a0, a1, a2, a3] (st) (q_up h a (.inl (2, n, .inr (.inl (vp_updL f j x))))) z bc bs Kr Kx) : QW V iL_paid 7 [a0, a1, a2, a3] (.long x :: .int i :: .ref a :: st) (q_up h a (.inl (2, n, .inr (.inl f)))) z bc bs Kr Kx := wL_paid_7 q_up_s hi hj hn (by rw [q_up_u]; exact kk)
theorem dL_paid_8 : decode (i_b iL_paid) 8 = .ok (.goto 9, 3) := by decide +kernel
theorem wL_paid_8  (kk : QW V iL_paid 17 [a0, a1, a2, a3] (st) h z bc bs Kr Kx) : QW V iL_paid 8 [a0, a1, a2, a3] (st) h z bc bs Kr Kx := q_goto dL_paid_8 (by decide) kk
theorem dL_paid_11 : decode (i_b iL_paid) 11 = .ok (.astore_n 3, 1) := by decide +kernel
theorem wL_paid_11 {x : Nat} (kk : QW V iL_paid 12 [a0, a1, a2, some (.ref x)] (st) h z bc bs Kr Kx) (hp : q_n2 a2 = true := by rfl) : QW V iL_paid 11 [a0, a1, a2, a3] (.ref x :: st) h z bc bs Kr Kx := q_astore_n dL_paid_11 rfl (Nat.le_of_ble_eq_true rfl) hp kk
theorem dL_paid_12 : decode (i_b iL_paid) 12 = .ok (.iconst 1, 1) := by decide +kernel
theorem wL_paid_12  (kk : QW V iL_paid 13 [a0, a1, a2, a3] (.int (1) :: st) h z bc bs Kr Kx) : QW V iL_paid 12 [a0, a1, a2, a3] (st) h z bc bs Kr Kx := q_iconst dL_paid_12 (by decide) kk
theorem dL_paid_13 : decode (i_b iL_paid) 13 = .ok (.ireturn, 1) := by decide +kernel
theorem wL_paid_13 {x : Int32} {P : Int32 → q_H → Option Nat → Prop} (hk : P x h z) : QW V iL_paid 13 [a0, a1, a2, a3] [.int x] h z bc bs (q_Ki P) Kx := q_iret dL_paid_13 rfl rfl ⟨x, rfl, hk⟩
theorem dL_paid_14 : decode (i_b iL_paid) 14 = .ok (.astore_n 3, 1) := by decide +kernel
theorem wL_paid_14 {x : Nat} (kk : QW V iL_paid 15 [a0, a1, a2, some (.ref x)] (st) h z bc bs Kr Kx) (hp : q_n2 a2 = true := by rfl) : QW V iL_paid 14 [a0, a1, a2, a3] (.ref x :: st) h z bc bs Kr Kx := q_astore_n dL_paid_14 rfl (Nat.le_of_ble_eq_true rfl) hp kk
theorem dL_paid_15 : decode (i_b iL_paid) 15 = .ok (.iconst 2, 1) := by decide +kernel
theorem wL_paid_15  (kk : QW V iL_paid 16 [a0, a1, a2, a3] (.int (2) :: st) h z bc bs Kr Kx) : QW V iL_paid 15 [a0, a1, a2, a3] (st) h z bc bs Kr Kx := q_iconst dL_paid_15 (by decide) kk
theorem dL_paid_16 : decode (i_b iL_paid) 16 = .ok (.ireturn, 1) := by decide +kernel
theorem wL_paid_16 {x : Int32} {P : Int32 → q_H → Option Nat → Prop} (hk : P x h z) : QW V iL_paid 16 [a0, a1, a2, a3] [.int x] h z bc bs (q_Ki P) Kx := q_iret dL_paid_16 rfl rfl ⟨x, rfl, hk⟩
theorem dL_paid_17 : decode (i_b iL_paid) 17 = .ok (.iconst 0, 1) := by decide +kernel
theorem wL_paid_17  (kk : QW V iL_paid 18 [a0, a1, a2, a3] (.int (0) :: st) h z bc bs Kr Kx) : QW V iL_paid 17 [a0, a1, a2, a3] (st) h z bc bs Kr Kx := q_iconst dL_paid_17 (by decide) kk
theorem dL_paid_18 : decode (i_b iL_paid) 18 = .ok (.ireturn, 1) := by decide +kernel
theorem wL_paid_18 {x : Int32} {P : Int32 → q_H → Option Nat → Prop} (hk : P x h z) : QW V iL_paid 18 [a0, a1, a2, a3] [.int x] h z bc bs (q_Ki P) Kx := q_iret dL_paid_18 rfl rfl ⟨x, rfl, hk⟩
theorem eL_taxedYears {x0 : Nat} {x1 : Int32} {x2 : Nat} {P : Int32 → q_H → Option Nat → Prop} (kk : QW V iL_taxedYears 0 [some (.ref x0), some (.int x1), some (.ref x2), none] [] h z 2 12 (q_Ki P) Kx) : QMi V iL_taxedYears [.ref x0, .int x1, .ref x2] h z P Kx := q_enterH (by decide) (by decide +kernel) rfl (Nat.le_of_ble_eq_true rfl) kk
theorem dL_taxedYears_0 : decode (i_b iL_taxedYears) 0 = .ok (.aload_n 2, 1) := by decide +kernel
theorem wL_taxedYears_0 {x : Nat} (kk : QW V iL_taxedYears 1 [a0, a1, some (.ref x), a3] (.ref x :: st) h z bc bs Kr Kx) : QW V iL_taxedYears 0 [a0, a1, some (.ref x), a3] (st) h z bc bs Kr Kx := q_aload_n dL_taxedYears_0 rfl rfl kk
theorem dL_taxedYears_1 : decode (i_b iL_taxedYears) 1 = .ok (.iconst 0, 1) := by decide +kernel
theorem wL_taxedYears_1  (kk : QW V iL_taxedYears 2 [a0, a1, a2, a3] (.int (0) :: st) h z bc bs Kr Kx) : QW V iL_taxedYears 1 [a0, a1, a2, a3] (st) h z bc bs Kr Kx := q_iconst dL_taxedYears_1 (by decide) kk
theorem dL_taxedYears_2 : decode (i_b iL_taxedYears) 2 = .ok (.aload_n 0, 1) := by decide +kernel
theorem wL_taxedYears_2 {x : Nat} (kk : QW V iL_taxedYears 3 [some (.ref x), a1, a2, a3] (.ref x :: st) h z bc bs Kr Kx) : QW V iL_taxedYears 2 [some (.ref x), a1, a2, a3] (st) h z bc bs Kr Kx := q_aload_n dL_taxedYears_2 rfl rfl kk
theorem dL_taxedYears_3 : decode (i_b iL_taxedYears) 3 = .ok (.iload_n 1, 1) := by decide +kernel
theorem wL_taxedYears_3 {x : Int32} (kk : QW V iL_taxedYears 4 [a0, some (.int x), a2, a3] (.int x :: st) h z bc bs Kr Kx) : QW V iL_taxedYears 3 [a0, some (.int x), a2, a3] (st) h z bc bs Kr Kx := q_iload_n dL_taxedYears_3 rfl rfl kk
theorem dL_taxedYears_4 : decode (i_b iL_taxedYears) 4 = .ok (.invokevirtual 70, 3) := by decide +kernel
theorem wL_taxedYears_4 {a : Nat} {fs : List Value} {x0 : Int32} (hb : h a = some (.inr (9, fs))) (hm : QMi V iX8_taxedYears [.ref a, .int x0] h z (fun r h' z' => QW V iL_taxedYears 7 [a0, a1, a2, a3] (.int r :: st) h' z' bc bs Kr Kx) (fun E h2 => (E = "java/lang/IllegalStateException" ∧ ∀ q : Nat, QW V iL_taxedYears 12 [a0, a1, a2, a3] [.ref q] h2 none bc bs Kr Kx) ∨ (E = "java/lang/IllegalArgumentException" ∧ ∀ q : Nat, QW V iL_taxedYears 15 [a0, a1, a2, a3] [.ref q] h2 none bc bs Kr Kx))) (hW : (st.map fun v => v.category).sum ≤ 8 := by exact Nat.le_of_ble_eq_true rfl) : QW V iL_taxedYears 4 [a0, a1, a2, a3] (.int x0 :: .ref a :: st) h z (bc + 2) (bs + 12) Kr Kx := by
  refine q_callVX (y' := iX8_taxedYears) (As := [.int x0]) (rest := st) dL_taxedYears_4 k4_186 k4_187 k4_188 k1_1 hhX8_taxedYears rfl hdX8_taxedYears rfl rfl (Nat.le_of_ble_eq_true rfl) (Nat.le_of_ble_eq_true rfl) hW hb (fun E h2 => (E = "java/lang/IllegalStateException" ∧ ∀ q : Nat, QW V iL_taxedYears 12 [a0, a1, a2, a3] [.ref q] h2 none bc bs Kr Kx) ∨ (E = "java/lang/IllegalArgumentException" ∧ ∀ q : Nat, QW V iL_taxedYears 15 [a0, a1, a2, a3] [.ref q] h2 none bc bs Kr Kx)) (fun E h2 hK => ?_) (QMi.run hm)
  rcases hK with ⟨rfl, hq⟩ | ⟨rfl, hq⟩
  · exact ⟨[], [(0, 9, 15, 19)], (0, 9, 12, 13), rfl, (fun q hq => nomatch hq), by decide, by decide, k3_19, by decide +kernel, hq⟩
  · exact ⟨[(0, 9, 12, 13)], [], (0, 9, 15, 19), rfl, (by intro q hq; simp only [List.mem_cons, List.not_mem_nil, or_false] at hq; subst hq; exact ⟨by decide, "java/lang/IllegalStateException", k3_19, by decide +kernel⟩), by decide, by decide, k3_99, by decide +kernel, hq⟩
theorem dL_taxedYears_7 : decode (i_b iL_taxedYears) 7 = .ok (.i2l, 1) := by decide +kernel
theorem wL_taxedYears_7 {x : Int32} (kk : QW V iL_taxedYears 8 [a0, a1, a2, a3] (.long (x.toInt64) :: st) h z bc bs Kr Kx) : QW V iL_taxedYears 7 [a0, a1, a2, a3] (.int x :: st) h z bc bs Kr Kx := q_i2l dL_taxedYears_7 kk
theorem dL_taxedYears_8 : decode (i_b iL_taxedYears) 8 = .ok (.lastore, 1) := by decide +kernel
theorem wL_taxedYears_8 {a n j : Nat} {f : Nat → Int64} {i : Int32} {x : Int64} (ha : h a = some (.inl (2, n, .inr (.inl f)))) (hi : i = nI j) (hj : j < n) (hn : n < 2147483648) (kk : QW V iL_taxedYears 9 [a0, a1, a2, a3] (st) (q_up h a (.inl (2, n, .inr (.inl (vp_updL f j x))))) z bc bs Kr Kx) : QW V iL_taxedYears 8 [a0, a1, a2, a3] (.long x :: .int i :: .ref a :: st) h z bc bs Kr Kx := q_last dL_taxedYears_8 ha hi hj hn kk
theorem wL_taxedYears_8u {a n j : Nat} {f : Nat → Int64} {i : Int32} {x : Int64} (hi : i = nI j) (hj : j < n) (hn : n < 2147483648) (kk : QW V iL_taxedYears 9 [a0, a1, a2, a3] (st) (q_up h a (.inl (2, n, .inr (.inl (vp_updL f j x))))) z bc bs Kr Kx) : QW V iL_taxedYears 8 [a0, a1, a2, a3] (.long x :: .int i :: .ref a :: st) (q_up h a (.inl (2, n, .inr (.inl f)))) z bc bs Kr Kx := wL_taxedYears_8 q_up_s hi hj hn (by rw [q_up_u]; exact kk)
theorem dL_taxedYears_9 : decode (i_b iL_taxedYears) 9 = .ok (.goto 9, 3) := by decide +kernel
theorem wL_taxedYears_9  (kk : QW V iL_taxedYears 18 [a0, a1, a2, a3] (st) h z bc bs Kr Kx) : QW V iL_taxedYears 9 [a0, a1, a2, a3] (st) h z bc bs Kr Kx := q_goto dL_taxedYears_9 (by decide) kk
theorem dL_taxedYears_12 : decode (i_b iL_taxedYears) 12 = .ok (.astore_n 3, 1) := by decide +kernel
theorem wL_taxedYears_12 {x : Nat} (kk : QW V iL_taxedYears 13 [a0, a1, a2, some (.ref x)] (st) h z bc bs Kr Kx) (hp : q_n2 a2 = true := by rfl) : QW V iL_taxedYears 12 [a0, a1, a2, a3] (.ref x :: st) h z bc bs Kr Kx := q_astore_n dL_taxedYears_12 rfl (Nat.le_of_ble_eq_true rfl) hp kk
theorem dL_taxedYears_13 : decode (i_b iL_taxedYears) 13 = .ok (.iconst 1, 1) := by decide +kernel
theorem wL_taxedYears_13  (kk : QW V iL_taxedYears 14 [a0, a1, a2, a3] (.int (1) :: st) h z bc bs Kr Kx) : QW V iL_taxedYears 13 [a0, a1, a2, a3] (st) h z bc bs Kr Kx := q_iconst dL_taxedYears_13 (by decide) kk
theorem dL_taxedYears_14 : decode (i_b iL_taxedYears) 14 = .ok (.ireturn, 1) := by decide +kernel
theorem wL_taxedYears_14 {x : Int32} {P : Int32 → q_H → Option Nat → Prop} (hk : P x h z) : QW V iL_taxedYears 14 [a0, a1, a2, a3] [.int x] h z bc bs (q_Ki P) Kx := q_iret dL_taxedYears_14 rfl rfl ⟨x, rfl, hk⟩
theorem dL_taxedYears_15 : decode (i_b iL_taxedYears) 15 = .ok (.astore_n 3, 1) := by decide +kernel
theorem wL_taxedYears_15 {x : Nat} (kk : QW V iL_taxedYears 16 [a0, a1, a2, some (.ref x)] (st) h z bc bs Kr Kx) (hp : q_n2 a2 = true := by rfl) : QW V iL_taxedYears 15 [a0, a1, a2, a3] (.ref x :: st) h z bc bs Kr Kx := q_astore_n dL_taxedYears_15 rfl (Nat.le_of_ble_eq_true rfl) hp kk
theorem dL_taxedYears_16 : decode (i_b iL_taxedYears) 16 = .ok (.iconst 2, 1) := by decide +kernel
theorem wL_taxedYears_16  (kk : QW V iL_taxedYears 17 [a0, a1, a2, a3] (.int (2) :: st) h z bc bs Kr Kx) : QW V iL_taxedYears 16 [a0, a1, a2, a3] (st) h z bc bs Kr Kx := q_iconst dL_taxedYears_16 (by decide) kk
theorem dL_taxedYears_17 : decode (i_b iL_taxedYears) 17 = .ok (.ireturn, 1) := by decide +kernel
theorem wL_taxedYears_17 {x : Int32} {P : Int32 → q_H → Option Nat → Prop} (hk : P x h z) : QW V iL_taxedYears 17 [a0, a1, a2, a3] [.int x] h z bc bs (q_Ki P) Kx := q_iret dL_taxedYears_17 rfl rfl ⟨x, rfl, hk⟩
theorem dL_taxedYears_18 : decode (i_b iL_taxedYears) 18 = .ok (.iconst 0, 1) := by decide +kernel
theorem wL_taxedYears_18  (kk : QW V iL_taxedYears 19 [a0, a1, a2, a3] (.int (0) :: st) h z bc bs Kr Kx) : QW V iL_taxedYears 18 [a0, a1, a2, a3] (st) h z bc bs Kr Kx := q_iconst dL_taxedYears_18 (by decide) kk
theorem dL_taxedYears_19 : decode (i_b iL_taxedYears) 19 = .ok (.ireturn, 1) := by decide +kernel
theorem wL_taxedYears_19 {x : Int32} {P : Int32 → q_H → Option Nat → Prop} (hk : P x h z) : QW V iL_taxedYears 19 [a0, a1, a2, a3] [.int x] h z bc bs (q_Ki P) Kx := q_iret dL_taxedYears_19 rfl rfl ⟨x, rfl, hk⟩
theorem eL_midLevel {x0 : Nat} {x1 : Int32} {x2 : Nat} {P : Int32 → q_H → Option Nat → Prop} (kk : QW V iL_midLevel 0 [some (.ref x0), some (.int x1), some (.ref x2), none] [] h z 2 12 (q_Ki P) Kx) : QMi V iL_midLevel [.ref x0, .int x1, .ref x2] h z P Kx := q_enterH (by decide) (by decide +kernel) rfl (Nat.le_of_ble_eq_true rfl) kk
theorem dL_midLevel_0 : decode (i_b iL_midLevel) 0 = .ok (.aload_n 2, 1) := by decide +kernel
theorem wL_midLevel_0 {x : Nat} (kk : QW V iL_midLevel 1 [a0, a1, some (.ref x), a3] (.ref x :: st) h z bc bs Kr Kx) : QW V iL_midLevel 0 [a0, a1, some (.ref x), a3] (st) h z bc bs Kr Kx := q_aload_n dL_midLevel_0 rfl rfl kk
theorem dL_midLevel_1 : decode (i_b iL_midLevel) 1 = .ok (.iconst 0, 1) := by decide +kernel
theorem wL_midLevel_1  (kk : QW V iL_midLevel 2 [a0, a1, a2, a3] (.int (0) :: st) h z bc bs Kr Kx) : QW V iL_midLevel 1 [a0, a1, a2, a3] (st) h z bc bs Kr Kx := q_iconst dL_midLevel_1 (by decide) kk
theorem dL_midLevel_2 : decode (i_b iL_midLevel) 2 = .ok (.aload_n 0, 1) := by decide +kernel
theorem wL_midLevel_2 {x : Nat} (kk : QW V iL_midLevel 3 [some (.ref x), a1, a2, a3] (.ref x :: st) h z bc bs Kr Kx) : QW V iL_midLevel 2 [some (.ref x), a1, a2, a3] (st) h z bc bs Kr Kx := q_aload_n dL_midLevel_2 rfl rfl kk
theorem dL_midLevel_3 : decode (i_b iL_midLevel) 3 = .ok (.iload_n 1, 1) := by decide +kernel
theorem wL_midLevel_3 {x : Int32} (kk : QW V iL_midLevel 4 [a0, some (.int x), a2, a3] (.int x :: st) h z bc bs Kr Kx) : QW V iL_midLevel 3 [a0, some (.int x), a2, a3] (st) h z bc bs Kr Kx := q_iload_n dL_midLevel_3 rfl rfl kk
theorem dL_midLevel_4 : decode (i_b iL_midLevel) 4 = .ok (.invokevirtual 73, 3) := by decide +kernel
theorem wL_midLevel_4 {a : Nat} {fs : List Value} {x0 : Int32} (hb : h a = some (.inr (9, fs))) (hm : QMi V iX8_midLevel [.ref a, .int x0] h z (fun r h' z' => QW V iL_midLevel 7 [a0, a1, a2, a3] (.int r :: st) h' z' bc bs Kr Kx) (fun E h2 => (E = "java/lang/IllegalStateException" ∧ ∀ q : Nat, QW V iL_midLevel 12 [a0, a1, a2, a3] [.ref q] h2 none bc bs Kr Kx) ∨ (E = "java/lang/IllegalArgumentException" ∧ ∀ q : Nat, QW V iL_midLevel 15 [a0, a1, a2, a3] [.ref q] h2 none bc bs Kr Kx))) (hW : (st.map fun v => v.category).sum ≤ 8 := by exact Nat.le_of_ble_eq_true rfl) : QW V iL_midLevel 4 [a0, a1, a2, a3] (.int x0 :: .ref a :: st) h z (bc + 2) (bs + 12) Kr Kx := by
  refine q_callVX (y' := iX8_midLevel) (As := [.int x0]) (rest := st) dL_midLevel_4 k4_193 k4_194 k4_195 k1_1 hhX8_midLevel rfl hdX8_midLevel rfl rfl (Nat.le_of_ble_eq_true rfl) (Nat.le_of_ble_eq_true rfl) hW hb (fun E h2 => (E = "java/lang/IllegalStateException" ∧ ∀ q : Nat, QW V iL_midLevel 12 [a0, a1, a2, a3] [.ref q] h2 none bc bs Kr Kx) ∨ (E = "java/lang/IllegalArgumentException" ∧ ∀ q : Nat, QW V iL_midLevel 15 [a0, a1, a2, a3] [.ref q] h2 none bc bs Kr Kx)) (fun E h2 hK => ?_) (QMi.run hm)
  rcases hK with ⟨rfl, hq⟩ | ⟨rfl, hq⟩
  · exact ⟨[], [(0, 9, 15, 19)], (0, 9, 12, 13), rfl, (fun q hq => nomatch hq), by decide, by decide, k3_19, by decide +kernel, hq⟩
  · exact ⟨[(0, 9, 12, 13)], [], (0, 9, 15, 19), rfl, (by intro q hq; simp only [List.mem_cons, List.not_mem_nil, or_false] at hq; subst hq; exact ⟨by decide, "java/lang/IllegalStateException", k3_19, by decide +kernel⟩), by decide, by decide, k3_99, by decide +kernel, hq⟩
theorem dL_midLevel_7 : decode (i_b iL_midLevel) 7 = .ok (.i2l, 1) := by decide +kernel
theorem wL_midLevel_7 {x : Int32} (kk : QW V iL_midLevel 8 [a0, a1, a2, a3] (.long (x.toInt64) :: st) h z bc bs Kr Kx) : QW V iL_midLevel 7 [a0, a1, a2, a3] (.int x :: st) h z bc bs Kr Kx := q_i2l dL_midLevel_7 kk
theorem dL_midLevel_8 : decode (i_b iL_midLevel) 8 = .ok (.lastore, 1) := by decide +kernel
theorem wL_midLevel_8 {a n j : Nat} {f : Nat → Int64} {i : Int32} {x : Int64} (ha : h a = some (.inl (2, n, .inr (.inl f)))) (hi : i = nI j) (hj : j < n) (hn : n < 2147483648) (kk : QW V iL_midLevel 9 [a0, a1, a2, a3] (st) (q_up h a (.inl (2, n, .inr (.inl (vp_updL f j x))))) z bc bs Kr Kx) : QW V iL_midLevel 8 [a0, a1, a2, a3] (.long x :: .int i :: .ref a :: st) h z bc bs Kr Kx := q_last dL_midLevel_8 ha hi hj hn kk
theorem wL_midLevel_8u {a n j : Nat} {f : Nat → Int64} {i : Int32} {x : Int64} (hi : i = nI j) (hj : j < n) (hn : n < 2147483648) (kk : QW V iL_midLevel 9 [a0, a1, a2, a3] (st) (q_up h a (.inl (2, n, .inr (.inl (vp_updL f j x))))) z bc bs Kr Kx) : QW V iL_midLevel 8 [a0, a1, a2, a3] (.long x :: .int i :: .ref a :: st) (q_up h a (.inl (2, n, .inr (.inl f)))) z bc bs Kr Kx := wL_midLevel_8 q_up_s hi hj hn (by rw [q_up_u]; exact kk)
theorem dL_midLevel_9 : decode (i_b iL_midLevel) 9 = .ok (.goto 9, 3) := by decide +kernel
theorem wL_midLevel_9  (kk : QW V iL_midLevel 18 [a0, a1, a2, a3] (st) h z bc bs Kr Kx) : QW V iL_midLevel 9 [a0, a1, a2, a3] (st) h z bc bs Kr Kx := q_goto dL_midLevel_9 (by decide) kk
theorem dL_midLevel_12 : decode (i_b iL_midLevel) 12 = .ok (.astore_n 3, 1) := by decide +kernel
theorem wL_midLevel_12 {x : Nat} (kk : QW V iL_midLevel 13 [a0, a1, a2, some (.ref x)] (st) h z bc bs Kr Kx) (hp : q_n2 a2 = true := by rfl) : QW V iL_midLevel 12 [a0, a1, a2, a3] (.ref x :: st) h z bc bs Kr Kx := q_astore_n dL_midLevel_12 rfl (Nat.le_of_ble_eq_true rfl) hp kk
theorem dL_midLevel_13 : decode (i_b iL_midLevel) 13 = .ok (.iconst 1, 1) := by decide +kernel
theorem wL_midLevel_13  (kk : QW V iL_midLevel 14 [a0, a1, a2, a3] (.int (1) :: st) h z bc bs Kr Kx) : QW V iL_midLevel 13 [a0, a1, a2, a3] (st) h z bc bs Kr Kx := q_iconst dL_midLevel_13 (by decide) kk
theorem dL_midLevel_14 : decode (i_b iL_midLevel) 14 = .ok (.ireturn, 1) := by decide +kernel
theorem wL_midLevel_14 {x : Int32} {P : Int32 → q_H → Option Nat → Prop} (hk : P x h z) : QW V iL_midLevel 14 [a0, a1, a2, a3] [.int x] h z bc bs (q_Ki P) Kx := q_iret dL_midLevel_14 rfl rfl ⟨x, rfl, hk⟩
theorem dL_midLevel_15 : decode (i_b iL_midLevel) 15 = .ok (.astore_n 3, 1) := by decide +kernel
theorem wL_midLevel_15 {x : Nat} (kk : QW V iL_midLevel 16 [a0, a1, a2, some (.ref x)] (st) h z bc bs Kr Kx) (hp : q_n2 a2 = true := by rfl) : QW V iL_midLevel 15 [a0, a1, a2, a3] (.ref x :: st) h z bc bs Kr Kx := q_astore_n dL_midLevel_15 rfl (Nat.le_of_ble_eq_true rfl) hp kk
theorem dL_midLevel_16 : decode (i_b iL_midLevel) 16 = .ok (.iconst 2, 1) := by decide +kernel
theorem wL_midLevel_16  (kk : QW V iL_midLevel 17 [a0, a1, a2, a3] (.int (2) :: st) h z bc bs Kr Kx) : QW V iL_midLevel 16 [a0, a1, a2, a3] (st) h z bc bs Kr Kx := q_iconst dL_midLevel_16 (by decide) kk
theorem dL_midLevel_17 : decode (i_b iL_midLevel) 17 = .ok (.ireturn, 1) := by decide +kernel
theorem wL_midLevel_17 {x : Int32} {P : Int32 → q_H → Option Nat → Prop} (hk : P x h z) : QW V iL_midLevel 17 [a0, a1, a2, a3] [.int x] h z bc bs (q_Ki P) Kx := q_iret dL_midLevel_17 rfl rfl ⟨x, rfl, hk⟩
theorem dL_midLevel_18 : decode (i_b iL_midLevel) 18 = .ok (.iconst 0, 1) := by decide +kernel
theorem wL_midLevel_18  (kk : QW V iL_midLevel 19 [a0, a1, a2, a3] (.int (0) :: st) h z bc bs Kr Kx) : QW V iL_midLevel 18 [a0, a1, a2, a3] (st) h z bc bs Kr Kx := q_iconst dL_midLevel_18 (by decide) kk
theorem dL_midLevel_19 : decode (i_b iL_midLevel) 19 = .ok (.ireturn, 1) := by decide +kernel
theorem wL_midLevel_19 {x : Int32} {P : Int32 → q_H → Option Nat → Prop} (hk : P x h z) : QW V iL_midLevel 19 [a0, a1, a2, a3] [.int x] h z bc bs (q_Ki P) Kx := q_iret dL_midLevel_19 rfl rfl ⟨x, rfl, hk⟩
theorem eL_roster {x0 : Nat} {x1 : Int32} {x2 : Nat} {P : Int32 → q_H → Option Nat → Prop} (kk : QW V iL_roster 0 [some (.ref x0), some (.int x1), some (.ref x2), none] [] h z 2 12 (q_Ki P) Kx) : QMi V iL_roster [.ref x0, .int x1, .ref x2] h z P Kx := q_enterH (by decide) (by decide +kernel) rfl (Nat.le_of_ble_eq_true rfl) kk
theorem dL_roster_0 : decode (i_b iL_roster) 0 = .ok (.aload_n 2, 1) := by decide +kernel
theorem wL_roster_0 {x : Nat} (kk : QW V iL_roster 1 [a0, a1, some (.ref x), a3] (.ref x :: st) h z bc bs Kr Kx) : QW V iL_roster 0 [a0, a1, some (.ref x), a3] (st) h z bc bs Kr Kx := q_aload_n dL_roster_0 rfl rfl kk
theorem dL_roster_1 : decode (i_b iL_roster) 1 = .ok (.iconst 0, 1) := by decide +kernel
theorem wL_roster_1  (kk : QW V iL_roster 2 [a0, a1, a2, a3] (.int (0) :: st) h z bc bs Kr Kx) : QW V iL_roster 1 [a0, a1, a2, a3] (st) h z bc bs Kr Kx := q_iconst dL_roster_1 (by decide) kk
theorem dL_roster_2 : decode (i_b iL_roster) 2 = .ok (.aload_n 0, 1) := by decide +kernel
theorem wL_roster_2 {x : Nat} (kk : QW V iL_roster 3 [some (.ref x), a1, a2, a3] (.ref x :: st) h z bc bs Kr Kx) : QW V iL_roster 2 [some (.ref x), a1, a2, a3] (st) h z bc bs Kr Kx := q_aload_n dL_roster_2 rfl rfl kk
theorem dL_roster_3 : decode (i_b iL_roster) 3 = .ok (.iload_n 1, 1) := by decide +kernel
theorem wL_roster_3 {x : Int32} (kk : QW V iL_roster 4 [a0, some (.int x), a2, a3] (.int x :: st) h z bc bs Kr Kx) : QW V iL_roster 3 [a0, some (.int x), a2, a3] (st) h z bc bs Kr Kx := q_iload_n dL_roster_3 rfl rfl kk
theorem dL_roster_4 : decode (i_b iL_roster) 4 = .ok (.invokevirtual 76, 3) := by decide +kernel
theorem wL_roster_4 {a : Nat} {fs : List Value} {x0 : Int32} (hb : h a = some (.inr (9, fs))) (hm : QMi V iX8_roster [.ref a, .int x0] h z (fun r h' z' => QW V iL_roster 7 [a0, a1, a2, a3] (.int r :: st) h' z' bc bs Kr Kx) (fun E h2 => (E = "java/lang/IllegalStateException" ∧ ∀ q : Nat, QW V iL_roster 12 [a0, a1, a2, a3] [.ref q] h2 none bc bs Kr Kx) ∨ (E = "java/lang/IllegalArgumentException" ∧ ∀ q : Nat, QW V iL_roster 15 [a0, a1, a2, a3] [.ref q] h2 none bc bs Kr Kx))) (hW : (st.map fun v => v.category).sum ≤ 8 := by exact Nat.le_of_ble_eq_true rfl) : QW V iL_roster 4 [a0, a1, a2, a3] (.int x0 :: .ref a :: st) h z (bc + 2) (bs + 12) Kr Kx := by
  refine q_callVX (y' := iX8_roster) (As := [.int x0]) (rest := st) dL_roster_4 k4_200 k4_201 k4_202 k1_1 hhX8_roster rfl hdX8_roster rfl rfl (Nat.le_of_ble_eq_true rfl) (Nat.le_of_ble_eq_true rfl) hW hb (fun E h2 => (E = "java/lang/IllegalStateException" ∧ ∀ q : Nat, QW V iL_roster 12 [a0, a1, a2, a3] [.ref q] h2 none bc bs Kr Kx) ∨ (E = "java/lang/IllegalArgumentException" ∧ ∀ q : Nat, QW V iL_roster 15 [a0, a1, a2, a3] [.ref q] h2 none bc bs Kr Kx)) (fun E h2 hK => ?_) (QMi.run hm)
  rcases hK with ⟨rfl, hq⟩ | ⟨rfl, hq⟩
  · exact ⟨[], [(0, 9, 15, 19)], (0, 9, 12, 13), rfl, (fun q hq => nomatch hq), by decide, by decide, k3_19, by decide +kernel, hq⟩
  · exact ⟨[(0, 9, 12, 13)], [], (0, 9, 15, 19), rfl, (by intro q hq; simp only [List.mem_cons, List.not_mem_nil, or_false] at hq; subst hq; exact ⟨by decide, "java/lang/IllegalStateException", k3_19, by decide +kernel⟩), by decide, by decide, k3_99, by decide +kernel, hq⟩
theorem dL_roster_7 : decode (i_b iL_roster) 7 = .ok (.i2l, 1) := by decide +kernel
theorem wL_roster_7 {x : Int32} (kk : QW V iL_roster 8 [a0, a1, a2, a3] (.long (x.toInt64) :: st) h z bc bs Kr Kx) : QW V iL_roster 7 [a0, a1, a2, a3] (.int x :: st) h z bc bs Kr Kx := q_i2l dL_roster_7 kk
theorem dL_roster_8 : decode (i_b iL_roster) 8 = .ok (.lastore, 1) := by decide +kernel
theorem wL_roster_8 {a n j : Nat} {f : Nat → Int64} {i : Int32} {x : Int64} (ha : h a = some (.inl (2, n, .inr (.inl f)))) (hi : i = nI j) (hj : j < n) (hn : n < 2147483648) (kk : QW V iL_roster 9 [a0, a1, a2, a3] (st) (q_up h a (.inl (2, n, .inr (.inl (vp_updL f j x))))) z bc bs Kr Kx) : QW V iL_roster 8 [a0, a1, a2, a3] (.long x :: .int i :: .ref a :: st) h z bc bs Kr Kx := q_last dL_roster_8 ha hi hj hn kk
theorem wL_roster_8u {a n j : Nat} {f : Nat → Int64} {i : Int32} {x : Int64} (hi : i = nI j) (hj : j < n) (hn : n < 2147483648) (kk : QW V iL_roster 9 [a0, a1, a2, a3] (st) (q_up h a (.inl (2, n, .inr (.inl (vp_updL f j x))))) z bc bs Kr Kx) : QW V iL_roster 8 [a0, a1, a2, a3] (.long x :: .int i :: .ref a :: st) (q_up h a (.inl (2, n, .inr (.inl f)))) z bc bs Kr Kx := wL_roster_8 q_up_s hi hj hn (by rw [q_up_u]; exact kk)
theorem dL_roster_9 : decode (i_b iL_roster) 9 = .ok (.goto 9, 3) := by decide +kernel
theorem wL_roster_9  (kk : QW V iL_roster 18 [a0, a1, a2, a3] (st) h z bc bs Kr Kx) : QW V iL_roster 9 [a0, a1, a2, a3] (st) h z bc bs Kr Kx := q_goto dL_roster_9 (by decide) kk
theorem dL_roster_12 : decode (i_b iL_roster) 12 = .ok (.astore_n 3, 1) := by decide +kernel
theorem wL_roster_12 {x : Nat} (kk : QW V iL_roster 13 [a0, a1, a2, some (.ref x)] (st) h z bc bs Kr Kx) (hp : q_n2 a2 = true := by rfl) : QW V iL_roster 12 [a0, a1, a2, a3] (.ref x :: st) h z bc bs Kr Kx := q_astore_n dL_roster_12 rfl (Nat.le_of_ble_eq_true rfl) hp kk
theorem dL_roster_13 : decode (i_b iL_roster) 13 = .ok (.iconst 1, 1) := by decide +kernel
theorem wL_roster_13  (kk : QW V iL_roster 14 [a0, a1, a2, a3] (.int (1) :: st) h z bc bs Kr Kx) : QW V iL_roster 13 [a0, a1, a2, a3] (st) h z bc bs Kr Kx := q_iconst dL_roster_13 (by decide) kk
theorem dL_roster_14 : decode (i_b iL_roster) 14 = .ok (.ireturn, 1) := by decide +kernel
theorem wL_roster_14 {x : Int32} {P : Int32 → q_H → Option Nat → Prop} (hk : P x h z) : QW V iL_roster 14 [a0, a1, a2, a3] [.int x] h z bc bs (q_Ki P) Kx := q_iret dL_roster_14 rfl rfl ⟨x, rfl, hk⟩
theorem dL_roster_15 : decode (i_b iL_roster) 15 = .ok (.astore_n 3, 1) := by decide +kernel
theorem wL_roster_15 {x : Nat} (kk : QW V iL_roster 16 [a0, a1, a2, some (.ref x)] (st) h z bc bs Kr Kx) (hp : q_n2 a2 = true := by rfl) : QW V iL_roster 15 [a0, a1, a2, a3] (.ref x :: st) h z bc bs Kr Kx := q_astore_n dL_roster_15 rfl (Nat.le_of_ble_eq_true rfl) hp kk
theorem dL_roster_16 : decode (i_b iL_roster) 16 = .ok (.iconst 2, 1) := by decide +kernel
theorem wL_roster_16  (kk : QW V iL_roster 17 [a0, a1, a2, a3] (.int (2) :: st) h z bc bs Kr Kx) : QW V iL_roster 16 [a0, a1, a2, a3] (st) h z bc bs Kr Kx := q_iconst dL_roster_16 (by decide) kk
theorem dL_roster_17 : decode (i_b iL_roster) 17 = .ok (.ireturn, 1) := by decide +kernel
theorem wL_roster_17 {x : Int32} {P : Int32 → q_H → Option Nat → Prop} (hk : P x h z) : QW V iL_roster 17 [a0, a1, a2, a3] [.int x] h z bc bs (q_Ki P) Kx := q_iret dL_roster_17 rfl rfl ⟨x, rfl, hk⟩
theorem dL_roster_18 : decode (i_b iL_roster) 18 = .ok (.iconst 0, 1) := by decide +kernel
theorem wL_roster_18  (kk : QW V iL_roster 19 [a0, a1, a2, a3] (.int (0) :: st) h z bc bs Kr Kx) : QW V iL_roster 18 [a0, a1, a2, a3] (st) h z bc bs Kr Kx := q_iconst dL_roster_18 (by decide) kk
theorem dL_roster_19 : decode (i_b iL_roster) 19 = .ok (.ireturn, 1) := by decide +kernel
theorem wL_roster_19 {x : Int32} {P : Int32 → q_H → Option Nat → Prop} (hk : P x h z) : QW V iL_roster 19 [a0, a1, a2, a3] [.int x] h z bc bs (q_Ki P) Kx := q_iret dL_roster_19 rfl rfl ⟨x, rfl, hk⟩
theorem eL_teamRank {x0 : Nat} {x1 : Int32} {x2 : Int32} {x3 : Nat} {P : Int32 → q_H → Option Nat → Prop} (kk : QW V iL_teamRank 0 [some (.ref x0), some (.int x1), some (.int x2), some (.ref x3), none] [] h z 4 24 (q_Ki P) Kx) : QMi V iL_teamRank [.ref x0, .int x1, .int x2, .ref x3] h z P Kx := q_enterH (by decide) (by decide +kernel) rfl (Nat.le_of_ble_eq_true rfl) kk
theorem dL_teamRank_0 : decode (i_b iL_teamRank) 0 = .ok (.aload_n 3, 1) := by decide +kernel
theorem wL_teamRank_0 {x : Nat} (kk : QW V iL_teamRank 1 [a0, a1, a2, some (.ref x), a4] (.ref x :: st) h z bc bs Kr Kx) : QW V iL_teamRank 0 [a0, a1, a2, some (.ref x), a4] (st) h z bc bs Kr Kx := q_aload_n dL_teamRank_0 rfl rfl kk
theorem dL_teamRank_1 : decode (i_b iL_teamRank) 1 = .ok (.iconst 0, 1) := by decide +kernel
theorem wL_teamRank_1  (kk : QW V iL_teamRank 2 [a0, a1, a2, a3, a4] (.int (0) :: st) h z bc bs Kr Kx) : QW V iL_teamRank 1 [a0, a1, a2, a3, a4] (st) h z bc bs Kr Kx := q_iconst dL_teamRank_1 (by decide) kk
theorem dL_teamRank_2 : decode (i_b iL_teamRank) 2 = .ok (.aload_n 0, 1) := by decide +kernel
theorem wL_teamRank_2 {x : Nat} (kk : QW V iL_teamRank 3 [some (.ref x), a1, a2, a3, a4] (.ref x :: st) h z bc bs Kr Kx) : QW V iL_teamRank 2 [some (.ref x), a1, a2, a3, a4] (st) h z bc bs Kr Kx := q_aload_n dL_teamRank_2 rfl rfl kk
theorem dL_teamRank_3 : decode (i_b iL_teamRank) 3 = .ok (.iload_n 1, 1) := by decide +kernel
theorem wL_teamRank_3 {x : Int32} (kk : QW V iL_teamRank 4 [a0, some (.int x), a2, a3, a4] (.int x :: st) h z bc bs Kr Kx) : QW V iL_teamRank 3 [a0, some (.int x), a2, a3, a4] (st) h z bc bs Kr Kx := q_iload_n dL_teamRank_3 rfl rfl kk
theorem dL_teamRank_4 : decode (i_b iL_teamRank) 4 = .ok (.iload_n 2, 1) := by decide +kernel
theorem wL_teamRank_4 {x : Int32} (kk : QW V iL_teamRank 5 [a0, a1, some (.int x), a3, a4] (.int x :: st) h z bc bs Kr Kx) : QW V iL_teamRank 4 [a0, a1, some (.int x), a3, a4] (st) h z bc bs Kr Kx := q_iload_n dL_teamRank_4 rfl rfl kk
theorem dL_teamRank_5 : decode (i_b iL_teamRank) 5 = .ok (.invokevirtual 79, 3) := by decide +kernel
theorem wL_teamRank_5 {a : Nat} {fs : List Value} {x0 : Int32} {x1 : Int32} (hb : h a = some (.inr (9, fs))) (hm : QMi V iX8_teamRank [.ref a, .int x0, .int x1] h z (fun r h' z' => QW V iL_teamRank 8 [a0, a1, a2, a3, a4] (.int r :: st) h' z' bc bs Kr Kx) (fun E h2 => (E = "java/lang/IllegalStateException" ∧ ∀ q : Nat, QW V iL_teamRank 13 [a0, a1, a2, a3, a4] [.ref q] h2 none bc bs Kr Kx) ∨ (E = "java/lang/IllegalArgumentException" ∧ ∀ q : Nat, QW V iL_teamRank 17 [a0, a1, a2, a3, a4] [.ref q] h2 none bc bs Kr Kx) ∨ (E = "java/util/NoSuchElementException" ∧ ∀ q : Nat, QW V iL_teamRank 21 [a0, a1, a2, a3, a4] [.ref q] h2 none bc bs Kr Kx))) (hW : (st.map fun v => v.category).sum ≤ 8 := by exact Nat.le_of_ble_eq_true rfl) : QW V iL_teamRank 5 [a0, a1, a2, a3, a4] (.int x1 :: .int x0 :: .ref a :: st) h z (bc + 4) (bs + 24) Kr Kx := by
  refine q_callVX (y' := iX8_teamRank) (As := [.int x0, .int x1]) (rest := st) dL_teamRank_5 k4_208 k4_209 k4_210 k1_1 hhX8_teamRank rfl hdX8_teamRank rfl rfl (Nat.le_of_ble_eq_true rfl) (Nat.le_of_ble_eq_true rfl) hW hb (fun E h2 => (E = "java/lang/IllegalStateException" ∧ ∀ q : Nat, QW V iL_teamRank 13 [a0, a1, a2, a3, a4] [.ref q] h2 none bc bs Kr Kx) ∨ (E = "java/lang/IllegalArgumentException" ∧ ∀ q : Nat, QW V iL_teamRank 17 [a0, a1, a2, a3, a4] [.ref q] h2 none bc bs Kr Kx) ∨ (E = "java/util/NoSuchElementException" ∧ ∀ q : Nat, QW V iL_teamRank 21 [a0, a1, a2, a3, a4] [.ref q] h2 none bc bs Kr Kx)) (fun E h2 hK => ?_) (QMi.run hm)
  rcases hK with ⟨rfl, hq⟩ | ⟨rfl, hq⟩ | ⟨rfl, hq⟩
  · exact ⟨[], [(0, 10, 17, 19), (0, 10, 21, 82)], (0, 10, 13, 13), rfl, (fun q hq => nomatch hq), by decide, by decide, k3_19, by decide +kernel, hq⟩
  · exact ⟨[(0, 10, 13, 13)], [(0, 10, 21, 82)], (0, 10, 17, 19), rfl, (by intro q hq; simp only [List.mem_cons, List.not_mem_nil, or_false] at hq; subst hq; exact ⟨by decide, "java/lang/IllegalStateException", k3_19, by decide +kernel⟩), by decide, by decide, k3_99, by decide +kernel, hq⟩
  · exact ⟨[(0, 10, 13, 13), (0, 10, 17, 19)], [], (0, 10, 21, 82), rfl, (by intro q hq; simp only [List.mem_cons, List.not_mem_nil, or_false] at hq; rcases hq with rfl | rfl <;> first | exact ⟨by decide, "java/lang/IllegalStateException", k3_19, by decide +kernel⟩ | exact ⟨by decide, "java/lang/IllegalArgumentException", k3_99, by decide +kernel⟩), by decide, by decide, k4_207, by decide +kernel, hq⟩
theorem dL_teamRank_8 : decode (i_b iL_teamRank) 8 = .ok (.i2l, 1) := by decide +kernel
theorem wL_teamRank_8 {x : Int32} (kk : QW V iL_teamRank 9 [a0, a1, a2, a3, a4] (.long (x.toInt64) :: st) h z bc bs Kr Kx) : QW V iL_teamRank 8 [a0, a1, a2, a3, a4] (.int x :: st) h z bc bs Kr Kx := q_i2l dL_teamRank_8 kk
theorem dL_teamRank_9 : decode (i_b iL_teamRank) 9 = .ok (.lastore, 1) := by decide +kernel
theorem wL_teamRank_9 {a n j : Nat} {f : Nat → Int64} {i : Int32} {x : Int64} (ha : h a = some (.inl (2, n, .inr (.inl f)))) (hi : i = nI j) (hj : j < n) (hn : n < 2147483648) (kk : QW V iL_teamRank 10 [a0, a1, a2, a3, a4] (st) (q_up h a (.inl (2, n, .inr (.inl (vp_updL f j x))))) z bc bs Kr Kx) : QW V iL_teamRank 9 [a0, a1, a2, a3, a4] (.long x :: .int i :: .ref a :: st) h z bc bs Kr Kx := q_last dL_teamRank_9 ha hi hj hn kk
theorem wL_teamRank_9u {a n j : Nat} {f : Nat → Int64} {i : Int32} {x : Int64} (hi : i = nI j) (hj : j < n) (hn : n < 2147483648) (kk : QW V iL_teamRank 10 [a0, a1, a2, a3, a4] (st) (q_up h a (.inl (2, n, .inr (.inl (vp_updL f j x))))) z bc bs Kr Kx) : QW V iL_teamRank 9 [a0, a1, a2, a3, a4] (.long x :: .int i :: .ref a :: st) (q_up h a (.inl (2, n, .inr (.inl f)))) z bc bs Kr Kx := wL_teamRank_9 q_up_s hi hj hn (by rw [q_up_u]; exact kk)
theorem dL_teamRank_10 : decode (i_b iL_teamRank) 10 = .ok (.goto 15, 3) := by decide +kernel
theorem wL_teamRank_10  (kk : QW V iL_teamRank 25 [a0, a1, a2, a3, a4] (st) h z bc bs Kr Kx) : QW V iL_teamRank 10 [a0, a1, a2, a3, a4] (st) h z bc bs Kr Kx := q_goto dL_teamRank_10 (by decide) kk
theorem dL_teamRank_13 : decode (i_b iL_teamRank) 13 = .ok (.astore 4, 2) := by decide +kernel
theorem wL_teamRank_13 {x : Nat} (kk : QW V iL_teamRank 15 [a0, a1, a2, a3, some (.ref x)] (st) h z bc bs Kr Kx) (hp : q_n2 a3 = true := by rfl) : QW V iL_teamRank 13 [a0, a1, a2, a3, a4] (.ref x :: st) h z bc bs Kr Kx := q_astore dL_teamRank_13 (Nat.le_of_ble_eq_true rfl) hp kk
theorem dL_teamRank_15 : decode (i_b iL_teamRank) 15 = .ok (.iconst 1, 1) := by decide +kernel
theorem wL_teamRank_15  (kk : QW V iL_teamRank 16 [a0, a1, a2, a3, a4] (.int (1) :: st) h z bc bs Kr Kx) : QW V iL_teamRank 15 [a0, a1, a2, a3, a4] (st) h z bc bs Kr Kx := q_iconst dL_teamRank_15 (by decide) kk
theorem dL_teamRank_16 : decode (i_b iL_teamRank) 16 = .ok (.ireturn, 1) := by decide +kernel
theorem wL_teamRank_16 {x : Int32} {P : Int32 → q_H → Option Nat → Prop} (hk : P x h z) : QW V iL_teamRank 16 [a0, a1, a2, a3, a4] [.int x] h z bc bs (q_Ki P) Kx := q_iret dL_teamRank_16 rfl rfl ⟨x, rfl, hk⟩
theorem dL_teamRank_17 : decode (i_b iL_teamRank) 17 = .ok (.astore 4, 2) := by decide +kernel
theorem wL_teamRank_17 {x : Nat} (kk : QW V iL_teamRank 19 [a0, a1, a2, a3, some (.ref x)] (st) h z bc bs Kr Kx) (hp : q_n2 a3 = true := by rfl) : QW V iL_teamRank 17 [a0, a1, a2, a3, a4] (.ref x :: st) h z bc bs Kr Kx := q_astore dL_teamRank_17 (Nat.le_of_ble_eq_true rfl) hp kk
theorem dL_teamRank_19 : decode (i_b iL_teamRank) 19 = .ok (.iconst 2, 1) := by decide +kernel
theorem wL_teamRank_19  (kk : QW V iL_teamRank 20 [a0, a1, a2, a3, a4] (.int (2) :: st) h z bc bs Kr Kx) : QW V iL_teamRank 19 [a0, a1, a2, a3, a4] (st) h z bc bs Kr Kx := q_iconst dL_teamRank_19 (by decide) kk
theorem dL_teamRank_20 : decode (i_b iL_teamRank) 20 = .ok (.ireturn, 1) := by decide +kernel
theorem wL_teamRank_20 {x : Int32} {P : Int32 → q_H → Option Nat → Prop} (hk : P x h z) : QW V iL_teamRank 20 [a0, a1, a2, a3, a4] [.int x] h z bc bs (q_Ki P) Kx := q_iret dL_teamRank_20 rfl rfl ⟨x, rfl, hk⟩
theorem dL_teamRank_21 : decode (i_b iL_teamRank) 21 = .ok (.astore 4, 2) := by decide +kernel
theorem wL_teamRank_21 {x : Nat} (kk : QW V iL_teamRank 23 [a0, a1, a2, a3, some (.ref x)] (st) h z bc bs Kr Kx) (hp : q_n2 a3 = true := by rfl) : QW V iL_teamRank 21 [a0, a1, a2, a3, a4] (.ref x :: st) h z bc bs Kr Kx := q_astore dL_teamRank_21 (Nat.le_of_ble_eq_true rfl) hp kk
theorem dL_teamRank_23 : decode (i_b iL_teamRank) 23 = .ok (.iconst 3, 1) := by decide +kernel
theorem wL_teamRank_23  (kk : QW V iL_teamRank 24 [a0, a1, a2, a3, a4] (.int (3) :: st) h z bc bs Kr Kx) : QW V iL_teamRank 23 [a0, a1, a2, a3, a4] (st) h z bc bs Kr Kx := q_iconst dL_teamRank_23 (by decide) kk
theorem dL_teamRank_24 : decode (i_b iL_teamRank) 24 = .ok (.ireturn, 1) := by decide +kernel
theorem wL_teamRank_24 {x : Int32} {P : Int32 → q_H → Option Nat → Prop} (hk : P x h z) : QW V iL_teamRank 24 [a0, a1, a2, a3, a4] [.int x] h z bc bs (q_Ki P) Kx := q_iret dL_teamRank_24 rfl rfl ⟨x, rfl, hk⟩
theorem dL_teamRank_25 : decode (i_b iL_teamRank) 25 = .ok (.iconst 0, 1) := by decide +kernel
theorem wL_teamRank_25  (kk : QW V iL_teamRank 26 [a0, a1, a2, a3, a4] (.int (0) :: st) h z bc bs Kr Kx) : QW V iL_teamRank 25 [a0, a1, a2, a3, a4] (st) h z bc bs Kr Kx := q_iconst dL_teamRank_25 (by decide) kk
theorem dL_teamRank_26 : decode (i_b iL_teamRank) 26 = .ok (.ireturn, 1) := by decide +kernel
theorem wL_teamRank_26 {x : Int32} {P : Int32 → q_H → Option Nat → Prop} (hk : P x h z) : QW V iL_teamRank 26 [a0, a1, a2, a3, a4] [.int x] h z bc bs (q_Ki P) Kx := q_iret dL_teamRank_26 rfl rfl ⟨x, rfl, hk⟩
theorem eL_playerValue {x0 : Nat} {x1 : Int32} {x2 : Int32} {x3 : Nat} {P : Int32 → q_H → Option Nat → Prop} (kk : QW V iL_playerValue 0 [some (.ref x0), some (.int x1), some (.int x2), some (.ref x3), none] [] h z 3 18 (q_Ki P) Kx) : QMi V iL_playerValue [.ref x0, .int x1, .int x2, .ref x3] h z P Kx := q_enterH (by decide) (by decide +kernel) rfl (Nat.le_of_ble_eq_true rfl) kk
theorem dL_playerValue_0 : decode (i_b iL_playerValue) 0 = .ok (.aload_n 3, 1) := by decide +kernel
theorem wL_playerValue_0 {x : Nat} (kk : QW V iL_playerValue 1 [a0, a1, a2, some (.ref x), a4] (.ref x :: st) h z bc bs Kr Kx) : QW V iL_playerValue 0 [a0, a1, a2, some (.ref x), a4] (st) h z bc bs Kr Kx := q_aload_n dL_playerValue_0 rfl rfl kk
theorem dL_playerValue_1 : decode (i_b iL_playerValue) 1 = .ok (.iconst 0, 1) := by decide +kernel
theorem wL_playerValue_1  (kk : QW V iL_playerValue 2 [a0, a1, a2, a3, a4] (.int (0) :: st) h z bc bs Kr Kx) : QW V iL_playerValue 1 [a0, a1, a2, a3, a4] (st) h z bc bs Kr Kx := q_iconst dL_playerValue_1 (by decide) kk
theorem dL_playerValue_2 : decode (i_b iL_playerValue) 2 = .ok (.aload_n 0, 1) := by decide +kernel
theorem wL_playerValue_2 {x : Nat} (kk : QW V iL_playerValue 3 [some (.ref x), a1, a2, a3, a4] (.ref x :: st) h z bc bs Kr Kx) : QW V iL_playerValue 2 [some (.ref x), a1, a2, a3, a4] (st) h z bc bs Kr Kx := q_aload_n dL_playerValue_2 rfl rfl kk
theorem dL_playerValue_3 : decode (i_b iL_playerValue) 3 = .ok (.iload_n 1, 1) := by decide +kernel
theorem wL_playerValue_3 {x : Int32} (kk : QW V iL_playerValue 4 [a0, some (.int x), a2, a3, a4] (.int x :: st) h z bc bs Kr Kx) : QW V iL_playerValue 3 [a0, some (.int x), a2, a3, a4] (st) h z bc bs Kr Kx := q_iload_n dL_playerValue_3 rfl rfl kk
theorem dL_playerValue_4 : decode (i_b iL_playerValue) 4 = .ok (.iload_n 2, 1) := by decide +kernel
theorem wL_playerValue_4 {x : Int32} (kk : QW V iL_playerValue 5 [a0, a1, some (.int x), a3, a4] (.int x :: st) h z bc bs Kr Kx) : QW V iL_playerValue 4 [a0, a1, some (.int x), a3, a4] (st) h z bc bs Kr Kx := q_iload_n dL_playerValue_4 rfl rfl kk
theorem dL_playerValue_5 : decode (i_b iL_playerValue) 5 = .ok (.invokevirtual 84, 3) := by decide +kernel
theorem wL_playerValue_5 {a : Nat} {fs : List Value} {x0 : Int32} {x1 : Int32} (hb : h a = some (.inr (9, fs))) (hm : QMi V iX8_playerValue [.ref a, .int x0, .int x1] h z (fun r h' z' => QW V iL_playerValue 8 [a0, a1, a2, a3, a4] (.int r :: st) h' z' bc bs Kr Kx) (fun E h2 => (E = "java/lang/IllegalStateException" ∧ ∀ q : Nat, QW V iL_playerValue 13 [a0, a1, a2, a3, a4] [.ref q] h2 none bc bs Kr Kx) ∨ (E = "java/lang/IllegalArgumentException" ∧ ∀ q : Nat, QW V iL_playerValue 17 [a0, a1, a2, a3, a4] [.ref q] h2 none bc bs Kr Kx))) (hW : (st.map fun v => v.category).sum ≤ 8 := by exact Nat.le_of_ble_eq_true rfl) : QW V iL_playerValue 5 [a0, a1, a2, a3, a4] (.int x1 :: .int x0 :: .ref a :: st) h z (bc + 3) (bs + 18) Kr Kx := by
  refine q_callVX (y' := iX8_playerValue) (As := [.int x0, .int x1]) (rest := st) dL_playerValue_5 k5_3 k5_4 k5_5 k1_1 hhX8_playerValue rfl hdX8_playerValue rfl rfl (Nat.le_of_ble_eq_true rfl) (Nat.le_of_ble_eq_true rfl) hW hb (fun E h2 => (E = "java/lang/IllegalStateException" ∧ ∀ q : Nat, QW V iL_playerValue 13 [a0, a1, a2, a3, a4] [.ref q] h2 none bc bs Kr Kx) ∨ (E = "java/lang/IllegalArgumentException" ∧ ∀ q : Nat, QW V iL_playerValue 17 [a0, a1, a2, a3, a4] [.ref q] h2 none bc bs Kr Kx)) (fun E h2 hK => ?_) (QMi.run hm)
  rcases hK with ⟨rfl, hq⟩ | ⟨rfl, hq⟩
  · exact ⟨[], [(0, 10, 17, 19)], (0, 10, 13, 13), rfl, (fun q hq => nomatch hq), by decide, by decide, k3_19, by decide +kernel, hq⟩
  · exact ⟨[(0, 10, 13, 13)], [], (0, 10, 17, 19), rfl, (by intro q hq; simp only [List.mem_cons, List.not_mem_nil, or_false] at hq; subst hq; exact ⟨by decide, "java/lang/IllegalStateException", k3_19, by decide +kernel⟩), by decide, by decide, k3_99, by decide +kernel, hq⟩
theorem dL_playerValue_8 : decode (i_b iL_playerValue) 8 = .ok (.i2l, 1) := by decide +kernel
theorem wL_playerValue_8 {x : Int32} (kk : QW V iL_playerValue 9 [a0, a1, a2, a3, a4] (.long (x.toInt64) :: st) h z bc bs Kr Kx) : QW V iL_playerValue 8 [a0, a1, a2, a3, a4] (.int x :: st) h z bc bs Kr Kx := q_i2l dL_playerValue_8 kk
theorem dL_playerValue_9 : decode (i_b iL_playerValue) 9 = .ok (.lastore, 1) := by decide +kernel
theorem wL_playerValue_9 {a n j : Nat} {f : Nat → Int64} {i : Int32} {x : Int64} (ha : h a = some (.inl (2, n, .inr (.inl f)))) (hi : i = nI j) (hj : j < n) (hn : n < 2147483648) (kk : QW V iL_playerValue 10 [a0, a1, a2, a3, a4] (st) (q_up h a (.inl (2, n, .inr (.inl (vp_updL f j x))))) z bc bs Kr Kx) : QW V iL_playerValue 9 [a0, a1, a2, a3, a4] (.long x :: .int i :: .ref a :: st) h z bc bs Kr Kx := q_last dL_playerValue_9 ha hi hj hn kk
theorem wL_playerValue_9u {a n j : Nat} {f : Nat → Int64} {i : Int32} {x : Int64} (hi : i = nI j) (hj : j < n) (hn : n < 2147483648) (kk : QW V iL_playerValue 10 [a0, a1, a2, a3, a4] (st) (q_up h a (.inl (2, n, .inr (.inl (vp_updL f j x))))) z bc bs Kr Kx) : QW V iL_playerValue 9 [a0, a1, a2, a3, a4] (.long x :: .int i :: .ref a :: st) (q_up h a (.inl (2, n, .inr (.inl f)))) z bc bs Kr Kx := wL_playerValue_9 q_up_s hi hj hn (by rw [q_up_u]; exact kk)
theorem dL_playerValue_10 : decode (i_b iL_playerValue) 10 = .ok (.goto 11, 3) := by decide +kernel
theorem wL_playerValue_10  (kk : QW V iL_playerValue 21 [a0, a1, a2, a3, a4] (st) h z bc bs Kr Kx) : QW V iL_playerValue 10 [a0, a1, a2, a3, a4] (st) h z bc bs Kr Kx := q_goto dL_playerValue_10 (by decide) kk
theorem dL_playerValue_13 : decode (i_b iL_playerValue) 13 = .ok (.astore 4, 2) := by decide +kernel
theorem wL_playerValue_13 {x : Nat} (kk : QW V iL_playerValue 15 [a0, a1, a2, a3, some (.ref x)] (st) h z bc bs Kr Kx) (hp : q_n2 a3 = true := by rfl) : QW V iL_playerValue 13 [a0, a1, a2, a3, a4] (.ref x :: st) h z bc bs Kr Kx := q_astore dL_playerValue_13 (Nat.le_of_ble_eq_true rfl) hp kk
theorem dL_playerValue_15 : decode (i_b iL_playerValue) 15 = .ok (.iconst 1, 1) := by decide +kernel
theorem wL_playerValue_15  (kk : QW V iL_playerValue 16 [a0, a1, a2, a3, a4] (.int (1) :: st) h z bc bs Kr Kx) : QW V iL_playerValue 15 [a0, a1, a2, a3, a4] (st) h z bc bs Kr Kx := q_iconst dL_playerValue_15 (by decide) kk
theorem dL_playerValue_16 : decode (i_b iL_playerValue) 16 = .ok (.ireturn, 1) := by decide +kernel
theorem wL_playerValue_16 {x : Int32} {P : Int32 → q_H → Option Nat → Prop} (hk : P x h z) : QW V iL_playerValue 16 [a0, a1, a2, a3, a4] [.int x] h z bc bs (q_Ki P) Kx := q_iret dL_playerValue_16 rfl rfl ⟨x, rfl, hk⟩
theorem dL_playerValue_17 : decode (i_b iL_playerValue) 17 = .ok (.astore 4, 2) := by decide +kernel
theorem wL_playerValue_17 {x : Nat} (kk : QW V iL_playerValue 19 [a0, a1, a2, a3, some (.ref x)] (st) h z bc bs Kr Kx) (hp : q_n2 a3 = true := by rfl) : QW V iL_playerValue 17 [a0, a1, a2, a3, a4] (.ref x :: st) h z bc bs Kr Kx := q_astore dL_playerValue_17 (Nat.le_of_ble_eq_true rfl) hp kk
theorem dL_playerValue_19 : decode (i_b iL_playerValue) 19 = .ok (.iconst 2, 1) := by decide +kernel
theorem wL_playerValue_19  (kk : QW V iL_playerValue 20 [a0, a1, a2, a3, a4] (.int (2) :: st) h z bc bs Kr Kx) : QW V iL_playerValue 19 [a0, a1, a2, a3, a4] (st) h z bc bs Kr Kx := q_iconst dL_playerValue_19 (by decide) kk
theorem dL_playerValue_20 : decode (i_b iL_playerValue) 20 = .ok (.ireturn, 1) := by decide +kernel
theorem wL_playerValue_20 {x : Int32} {P : Int32 → q_H → Option Nat → Prop} (hk : P x h z) : QW V iL_playerValue 20 [a0, a1, a2, a3, a4] [.int x] h z bc bs (q_Ki P) Kx := q_iret dL_playerValue_20 rfl rfl ⟨x, rfl, hk⟩
theorem dL_playerValue_21 : decode (i_b iL_playerValue) 21 = .ok (.iconst 0, 1) := by decide +kernel
theorem wL_playerValue_21  (kk : QW V iL_playerValue 22 [a0, a1, a2, a3, a4] (.int (0) :: st) h z bc bs Kr Kx) : QW V iL_playerValue 21 [a0, a1, a2, a3, a4] (st) h z bc bs Kr Kx := q_iconst dL_playerValue_21 (by decide) kk
theorem dL_playerValue_22 : decode (i_b iL_playerValue) 22 = .ok (.ireturn, 1) := by decide +kernel
theorem wL_playerValue_22 {x : Int32} {P : Int32 → q_H → Option Nat → Prop} (hk : P x h z) : QW V iL_playerValue 22 [a0, a1, a2, a3, a4] [.int x] h z bc bs (q_Ki P) Kx := q_iret dL_playerValue_22 rfl rfl ⟨x, rfl, hk⟩
theorem eL_salary {x0 : Nat} {x1 : Int32} {x2 : Int32} {x3 : Nat} {P : Int32 → q_H → Option Nat → Prop} (kk : QW V iL_salary 0 [some (.ref x0), some (.int x1), some (.int x2), some (.ref x3), none] [] h z 3 18 (q_Ki P) Kx) : QMi V iL_salary [.ref x0, .int x1, .int x2, .ref x3] h z P Kx := q_enterH (by decide) (by decide +kernel) rfl (Nat.le_of_ble_eq_true rfl) kk
theorem dL_salary_0 : decode (i_b iL_salary) 0 = .ok (.aload_n 3, 1) := by decide +kernel
theorem wL_salary_0 {x : Nat} (kk : QW V iL_salary 1 [a0, a1, a2, some (.ref x), a4] (.ref x :: st) h z bc bs Kr Kx) : QW V iL_salary 0 [a0, a1, a2, some (.ref x), a4] (st) h z bc bs Kr Kx := q_aload_n dL_salary_0 rfl rfl kk
theorem dL_salary_1 : decode (i_b iL_salary) 1 = .ok (.iconst 0, 1) := by decide +kernel
theorem wL_salary_1  (kk : QW V iL_salary 2 [a0, a1, a2, a3, a4] (.int (0) :: st) h z bc bs Kr Kx) : QW V iL_salary 1 [a0, a1, a2, a3, a4] (st) h z bc bs Kr Kx := q_iconst dL_salary_1 (by decide) kk
theorem dL_salary_2 : decode (i_b iL_salary) 2 = .ok (.aload_n 0, 1) := by decide +kernel
theorem wL_salary_2 {x : Nat} (kk : QW V iL_salary 3 [some (.ref x), a1, a2, a3, a4] (.ref x :: st) h z bc bs Kr Kx) : QW V iL_salary 2 [some (.ref x), a1, a2, a3, a4] (st) h z bc bs Kr Kx := q_aload_n dL_salary_2 rfl rfl kk
theorem dL_salary_3 : decode (i_b iL_salary) 3 = .ok (.iload_n 1, 1) := by decide +kernel
theorem wL_salary_3 {x : Int32} (kk : QW V iL_salary 4 [a0, some (.int x), a2, a3, a4] (.int x :: st) h z bc bs Kr Kx) : QW V iL_salary 3 [a0, some (.int x), a2, a3, a4] (st) h z bc bs Kr Kx := q_iload_n dL_salary_3 rfl rfl kk
theorem dL_salary_4 : decode (i_b iL_salary) 4 = .ok (.iload_n 2, 1) := by decide +kernel
theorem wL_salary_4 {x : Int32} (kk : QW V iL_salary 5 [a0, a1, some (.int x), a3, a4] (.int x :: st) h z bc bs Kr Kx) : QW V iL_salary 4 [a0, a1, some (.int x), a3, a4] (st) h z bc bs Kr Kx := q_iload_n dL_salary_4 rfl rfl kk
theorem dL_salary_5 : decode (i_b iL_salary) 5 = .ok (.invokevirtual 87, 3) := by decide +kernel
theorem wL_salary_5 {a : Nat} {fs : List Value} {x0 : Int32} {x1 : Int32} (hb : h a = some (.inr (9, fs))) (hm : QMi V iX8_salary [.ref a, .int x0, .int x1] h z (fun r h' z' => QW V iL_salary 8 [a0, a1, a2, a3, a4] (.int r :: st) h' z' bc bs Kr Kx) (fun E h2 => (E = "java/lang/IllegalStateException" ∧ ∀ q : Nat, QW V iL_salary 13 [a0, a1, a2, a3, a4] [.ref q] h2 none bc bs Kr Kx) ∨ (E = "java/lang/IllegalArgumentException" ∧ ∀ q : Nat, QW V iL_salary 17 [a0, a1, a2, a3, a4] [.ref q] h2 none bc bs Kr Kx))) (hW : (st.map fun v => v.category).sum ≤ 8 := by exact Nat.le_of_ble_eq_true rfl) : QW V iL_salary 5 [a0, a1, a2, a3, a4] (.int x1 :: .int x0 :: .ref a :: st) h z (bc + 3) (bs + 18) Kr Kx := by
  refine q_callVX (y' := iX8_salary) (As := [.int x0, .int x1]) (rest := st) dL_salary_5 k5_15 k5_16 k5_17 k1_1 hhX8_salary rfl hdX8_salary rfl rfl (Nat.le_of_ble_eq_true rfl) (Nat.le_of_ble_eq_true rfl) hW hb (fun E h2 => (E = "java/lang/IllegalStateException" ∧ ∀ q : Nat, QW V iL_salary 13 [a0, a1, a2, a3, a4] [.ref q] h2 none bc bs Kr Kx) ∨ (E = "java/lang/IllegalArgumentException" ∧ ∀ q : Nat, QW V iL_salary 17 [a0, a1, a2, a3, a4] [.ref q] h2 none bc bs Kr Kx)) (fun E h2 hK => ?_) (QMi.run hm)
  rcases hK with ⟨rfl, hq⟩ | ⟨rfl, hq⟩
  · exact ⟨[], [(0, 10, 17, 19)], (0, 10, 13, 13), rfl, (fun q hq => nomatch hq), by decide, by decide, k3_19, by decide +kernel, hq⟩
  · exact ⟨[(0, 10, 13, 13)], [], (0, 10, 17, 19), rfl, (by intro q hq; simp only [List.mem_cons, List.not_mem_nil, or_false] at hq; subst hq; exact ⟨by decide, "java/lang/IllegalStateException", k3_19, by decide +kernel⟩), by decide, by decide, k3_99, by decide +kernel, hq⟩
theorem dL_salary_8 : decode (i_b iL_salary) 8 = .ok (.i2l, 1) := by decide +kernel
theorem wL_salary_8 {x : Int32} (kk : QW V iL_salary 9 [a0, a1, a2, a3, a4] (.long (x.toInt64) :: st) h z bc bs Kr Kx) : QW V iL_salary 8 [a0, a1, a2, a3, a4] (.int x :: st) h z bc bs Kr Kx := q_i2l dL_salary_8 kk
theorem dL_salary_9 : decode (i_b iL_salary) 9 = .ok (.lastore, 1) := by decide +kernel
theorem wL_salary_9 {a n j : Nat} {f : Nat → Int64} {i : Int32} {x : Int64} (ha : h a = some (.inl (2, n, .inr (.inl f)))) (hi : i = nI j) (hj : j < n) (hn : n < 2147483648) (kk : QW V iL_salary 10 [a0, a1, a2, a3, a4] (st) (q_up h a (.inl (2, n, .inr (.inl (vp_updL f j x))))) z bc bs Kr Kx) : QW V iL_salary 9 [a0, a1, a2, a3, a4] (.long x :: .int i :: .ref a :: st) h z bc bs Kr Kx := q_last dL_salary_9 ha hi hj hn kk
theorem wL_salary_9u {a n j : Nat} {f : Nat → Int64} {i : Int32} {x : Int64} (hi : i = nI j) (hj : j < n) (hn : n < 2147483648) (kk : QW V iL_salary 10 [a0, a1, a2, a3, a4] (st) (q_up h a (.inl (2, n, .inr (.inl (vp_updL f j x))))) z bc bs Kr Kx) : QW V iL_salary 9 [a0, a1, a2, a3, a4] (.long x :: .int i :: .ref a :: st) (q_up h a (.inl (2, n, .inr (.inl f)))) z bc bs Kr Kx := wL_salary_9 q_up_s hi hj hn (by rw [q_up_u]; exact kk)
theorem dL_salary_10 : decode (i_b iL_salary) 10 = .ok (.goto 11, 3) := by decide +kernel
theorem wL_salary_10  (kk : QW V iL_salary 21 [a0, a1, a2, a3, a4] (st) h z bc bs Kr Kx) : QW V iL_salary 10 [a0, a1, a2, a3, a4] (st) h z bc bs Kr Kx := q_goto dL_salary_10 (by decide) kk
theorem dL_salary_13 : decode (i_b iL_salary) 13 = .ok (.astore 4, 2) := by decide +kernel
theorem wL_salary_13 {x : Nat} (kk : QW V iL_salary 15 [a0, a1, a2, a3, some (.ref x)] (st) h z bc bs Kr Kx) (hp : q_n2 a3 = true := by rfl) : QW V iL_salary 13 [a0, a1, a2, a3, a4] (.ref x :: st) h z bc bs Kr Kx := q_astore dL_salary_13 (Nat.le_of_ble_eq_true rfl) hp kk
theorem dL_salary_15 : decode (i_b iL_salary) 15 = .ok (.iconst 1, 1) := by decide +kernel
theorem wL_salary_15  (kk : QW V iL_salary 16 [a0, a1, a2, a3, a4] (.int (1) :: st) h z bc bs Kr Kx) : QW V iL_salary 15 [a0, a1, a2, a3, a4] (st) h z bc bs Kr Kx := q_iconst dL_salary_15 (by decide) kk
theorem dL_salary_16 : decode (i_b iL_salary) 16 = .ok (.ireturn, 1) := by decide +kernel
theorem wL_salary_16 {x : Int32} {P : Int32 → q_H → Option Nat → Prop} (hk : P x h z) : QW V iL_salary 16 [a0, a1, a2, a3, a4] [.int x] h z bc bs (q_Ki P) Kx := q_iret dL_salary_16 rfl rfl ⟨x, rfl, hk⟩
theorem dL_salary_17 : decode (i_b iL_salary) 17 = .ok (.astore 4, 2) := by decide +kernel
theorem wL_salary_17 {x : Nat} (kk : QW V iL_salary 19 [a0, a1, a2, a3, some (.ref x)] (st) h z bc bs Kr Kx) (hp : q_n2 a3 = true := by rfl) : QW V iL_salary 17 [a0, a1, a2, a3, a4] (.ref x :: st) h z bc bs Kr Kx := q_astore dL_salary_17 (Nat.le_of_ble_eq_true rfl) hp kk
theorem dL_salary_19 : decode (i_b iL_salary) 19 = .ok (.iconst 2, 1) := by decide +kernel
theorem wL_salary_19  (kk : QW V iL_salary 20 [a0, a1, a2, a3, a4] (.int (2) :: st) h z bc bs Kr Kx) : QW V iL_salary 19 [a0, a1, a2, a3, a4] (st) h z bc bs Kr Kx := q_iconst dL_salary_19 (by decide) kk
theorem dL_salary_20 : decode (i_b iL_salary) 20 = .ok (.ireturn, 1) := by decide +kernel
theorem wL_salary_20 {x : Int32} {P : Int32 → q_H → Option Nat → Prop} (hk : P x h z) : QW V iL_salary 20 [a0, a1, a2, a3, a4] [.int x] h z bc bs (q_Ki P) Kx := q_iret dL_salary_20 rfl rfl ⟨x, rfl, hk⟩
theorem dL_salary_21 : decode (i_b iL_salary) 21 = .ok (.iconst 0, 1) := by decide +kernel
theorem wL_salary_21  (kk : QW V iL_salary 22 [a0, a1, a2, a3, a4] (.int (0) :: st) h z bc bs Kr Kx) : QW V iL_salary 21 [a0, a1, a2, a3, a4] (st) h z bc bs Kr Kx := q_iconst dL_salary_21 (by decide) kk
theorem dL_salary_22 : decode (i_b iL_salary) 22 = .ok (.ireturn, 1) := by decide +kernel
theorem wL_salary_22 {x : Int32} {P : Int32 → q_H → Option Nat → Prop} (hk : P x h z) : QW V iL_salary 22 [a0, a1, a2, a3, a4] [.int x] h z bc bs (q_Ki P) Kx := q_iret dL_salary_22 rfl rfl ⟨x, rfl, hk⟩
theorem eL_share {x0 : Nat} {x1 : Int32} {x2 : Int32} {x3 : Nat} {P : Int32 → q_H → Option Nat → Prop} (kk : QW V iL_share 0 [some (.ref x0), some (.int x1), some (.int x2), some (.ref x3), none] [] h z 3 18 (q_Ki P) Kx) : QMi V iL_share [.ref x0, .int x1, .int x2, .ref x3] h z P Kx := q_enterH (by decide) (by decide +kernel) rfl (Nat.le_of_ble_eq_true rfl) kk
theorem dL_share_0 : decode (i_b iL_share) 0 = .ok (.aload_n 3, 1) := by decide +kernel
theorem wL_share_0 {x : Nat} (kk : QW V iL_share 1 [a0, a1, a2, some (.ref x), a4] (.ref x :: st) h z bc bs Kr Kx) : QW V iL_share 0 [a0, a1, a2, some (.ref x), a4] (st) h z bc bs Kr Kx := q_aload_n dL_share_0 rfl rfl kk
theorem dL_share_1 : decode (i_b iL_share) 1 = .ok (.iconst 0, 1) := by decide +kernel
theorem wL_share_1  (kk : QW V iL_share 2 [a0, a1, a2, a3, a4] (.int (0) :: st) h z bc bs Kr Kx) : QW V iL_share 1 [a0, a1, a2, a3, a4] (st) h z bc bs Kr Kx := q_iconst dL_share_1 (by decide) kk
theorem dL_share_2 : decode (i_b iL_share) 2 = .ok (.aload_n 0, 1) := by decide +kernel
theorem wL_share_2 {x : Nat} (kk : QW V iL_share 3 [some (.ref x), a1, a2, a3, a4] (.ref x :: st) h z bc bs Kr Kx) : QW V iL_share 2 [some (.ref x), a1, a2, a3, a4] (st) h z bc bs Kr Kx := q_aload_n dL_share_2 rfl rfl kk
theorem dL_share_3 : decode (i_b iL_share) 3 = .ok (.iload_n 1, 1) := by decide +kernel
theorem wL_share_3 {x : Int32} (kk : QW V iL_share 4 [a0, some (.int x), a2, a3, a4] (.int x :: st) h z bc bs Kr Kx) : QW V iL_share 3 [a0, some (.int x), a2, a3, a4] (st) h z bc bs Kr Kx := q_iload_n dL_share_3 rfl rfl kk
theorem dL_share_4 : decode (i_b iL_share) 4 = .ok (.iload_n 2, 1) := by decide +kernel
theorem wL_share_4 {x : Int32} (kk : QW V iL_share 5 [a0, a1, some (.int x), a3, a4] (.int x :: st) h z bc bs Kr Kx) : QW V iL_share 4 [a0, a1, some (.int x), a3, a4] (st) h z bc bs Kr Kx := q_iload_n dL_share_4 rfl rfl kk
theorem dL_share_5 : decode (i_b iL_share) 5 = .ok (.invokevirtual 90, 3) := by decide +kernel
theorem wL_share_5 {a : Nat} {fs : List Value} {x0 : Int32} {x1 : Int32} (hb : h a = some (.inr (9, fs))) (hm : QMi V iX8_share [.ref a, .int x0, .int x1] h z (fun r h' z' => QW V iL_share 8 [a0, a1, a2, a3, a4] (.int r :: st) h' z' bc bs Kr Kx) (fun E h2 => (E = "java/lang/IllegalStateException" ∧ ∀ q : Nat, QW V iL_share 13 [a0, a1, a2, a3, a4] [.ref q] h2 none bc bs Kr Kx) ∨ (E = "java/lang/IllegalArgumentException" ∧ ∀ q : Nat, QW V iL_share 17 [a0, a1, a2, a3, a4] [.ref q] h2 none bc bs Kr Kx))) (hW : (st.map fun v => v.category).sum ≤ 8 := by exact Nat.le_of_ble_eq_true rfl) : QW V iL_share 5 [a0, a1, a2, a3, a4] (.int x1 :: .int x0 :: .ref a :: st) h z (bc + 3) (bs + 18) Kr Kx := by
  refine q_callVX (y' := iX8_share) (As := [.int x0, .int x1]) (rest := st) dL_share_5 k5_23 k5_24 k5_25 k1_1 hhX8_share rfl hdX8_share rfl rfl (Nat.le_of_ble_eq_true rfl) (Nat.le_of_ble_eq_true rfl) hW hb (fun E h2 => (E = "java/lang/IllegalStateException" ∧ ∀ q : Nat, QW V iL_share 13 [a0, a1, a2, a3, a4] [.ref q] h2 none bc bs Kr Kx) ∨ (E = "java/lang/IllegalArgumentException" ∧ ∀ q : Nat, QW V iL_share 17 [a0, a1, a2, a3, a4] [.ref q] h2 none bc bs Kr Kx)) (fun E h2 hK => ?_) (QMi.run hm)
  rcases hK with ⟨rfl, hq⟩ | ⟨rfl, hq⟩
  · exact ⟨[], [(0, 10, 17, 19)], (0, 10, 13, 13), rfl, (fun q hq => nomatch hq), by decide, by decide, k3_19, by decide +kernel, hq⟩
  · exact ⟨[(0, 10, 13, 13)], [], (0, 10, 17, 19), rfl, (by intro q hq; simp only [List.mem_cons, List.not_mem_nil, or_false] at hq; subst hq; exact ⟨by decide, "java/lang/IllegalStateException", k3_19, by decide +kernel⟩), by decide, by decide, k3_99, by decide +kernel, hq⟩
theorem dL_share_8 : decode (i_b iL_share) 8 = .ok (.i2l, 1) := by decide +kernel
theorem wL_share_8 {x : Int32} (kk : QW V iL_share 9 [a0, a1, a2, a3, a4] (.long (x.toInt64) :: st) h z bc bs Kr Kx) : QW V iL_share 8 [a0, a1, a2, a3, a4] (.int x :: st) h z bc bs Kr Kx := q_i2l dL_share_8 kk
theorem dL_share_9 : decode (i_b iL_share) 9 = .ok (.lastore, 1) := by decide +kernel
theorem wL_share_9 {a n j : Nat} {f : Nat → Int64} {i : Int32} {x : Int64} (ha : h a = some (.inl (2, n, .inr (.inl f)))) (hi : i = nI j) (hj : j < n) (hn : n < 2147483648) (kk : QW V iL_share 10 [a0, a1, a2, a3, a4] (st) (q_up h a (.inl (2, n, .inr (.inl (vp_updL f j x))))) z bc bs Kr Kx) : QW V iL_share 9 [a0, a1, a2, a3, a4] (.long x :: .int i :: .ref a :: st) h z bc bs Kr Kx := q_last dL_share_9 ha hi hj hn kk
theorem wL_share_9u {a n j : Nat} {f : Nat → Int64} {i : Int32} {x : Int64} (hi : i = nI j) (hj : j < n) (hn : n < 2147483648) (kk : QW V iL_share 10 [a0, a1, a2, a3, a4] (st) (q_up h a (.inl (2, n, .inr (.inl (vp_updL f j x))))) z bc bs Kr Kx) : QW V iL_share 9 [a0, a1, a2, a3, a4] (.long x :: .int i :: .ref a :: st) (q_up h a (.inl (2, n, .inr (.inl f)))) z bc bs Kr Kx := wL_share_9 q_up_s hi hj hn (by rw [q_up_u]; exact kk)
theorem dL_share_10 : decode (i_b iL_share) 10 = .ok (.goto 11, 3) := by decide +kernel
theorem wL_share_10  (kk : QW V iL_share 21 [a0, a1, a2, a3, a4] (st) h z bc bs Kr Kx) : QW V iL_share 10 [a0, a1, a2, a3, a4] (st) h z bc bs Kr Kx := q_goto dL_share_10 (by decide) kk
theorem dL_share_13 : decode (i_b iL_share) 13 = .ok (.astore 4, 2) := by decide +kernel
theorem wL_share_13 {x : Nat} (kk : QW V iL_share 15 [a0, a1, a2, a3, some (.ref x)] (st) h z bc bs Kr Kx) (hp : q_n2 a3 = true := by rfl) : QW V iL_share 13 [a0, a1, a2, a3, a4] (.ref x :: st) h z bc bs Kr Kx := q_astore dL_share_13 (Nat.le_of_ble_eq_true rfl) hp kk
theorem dL_share_15 : decode (i_b iL_share) 15 = .ok (.iconst 1, 1) := by decide +kernel
theorem wL_share_15  (kk : QW V iL_share 16 [a0, a1, a2, a3, a4] (.int (1) :: st) h z bc bs Kr Kx) : QW V iL_share 15 [a0, a1, a2, a3, a4] (st) h z bc bs Kr Kx := q_iconst dL_share_15 (by decide) kk
theorem dL_share_16 : decode (i_b iL_share) 16 = .ok (.ireturn, 1) := by decide +kernel
theorem wL_share_16 {x : Int32} {P : Int32 → q_H → Option Nat → Prop} (hk : P x h z) : QW V iL_share 16 [a0, a1, a2, a3, a4] [.int x] h z bc bs (q_Ki P) Kx := q_iret dL_share_16 rfl rfl ⟨x, rfl, hk⟩
theorem dL_share_17 : decode (i_b iL_share) 17 = .ok (.astore 4, 2) := by decide +kernel
theorem wL_share_17 {x : Nat} (kk : QW V iL_share 19 [a0, a1, a2, a3, some (.ref x)] (st) h z bc bs Kr Kx) (hp : q_n2 a3 = true := by rfl) : QW V iL_share 17 [a0, a1, a2, a3, a4] (.ref x :: st) h z bc bs Kr Kx := q_astore dL_share_17 (Nat.le_of_ble_eq_true rfl) hp kk
theorem dL_share_19 : decode (i_b iL_share) 19 = .ok (.iconst 2, 1) := by decide +kernel
theorem wL_share_19  (kk : QW V iL_share 20 [a0, a1, a2, a3, a4] (.int (2) :: st) h z bc bs Kr Kx) : QW V iL_share 19 [a0, a1, a2, a3, a4] (st) h z bc bs Kr Kx := q_iconst dL_share_19 (by decide) kk
theorem dL_share_20 : decode (i_b iL_share) 20 = .ok (.ireturn, 1) := by decide +kernel
theorem wL_share_20 {x : Int32} {P : Int32 → q_H → Option Nat → Prop} (hk : P x h z) : QW V iL_share 20 [a0, a1, a2, a3, a4] [.int x] h z bc bs (q_Ki P) Kx := q_iret dL_share_20 rfl rfl ⟨x, rfl, hk⟩
theorem dL_share_21 : decode (i_b iL_share) 21 = .ok (.iconst 0, 1) := by decide +kernel
theorem wL_share_21  (kk : QW V iL_share 22 [a0, a1, a2, a3, a4] (.int (0) :: st) h z bc bs Kr Kx) : QW V iL_share 21 [a0, a1, a2, a3, a4] (st) h z bc bs Kr Kx := q_iconst dL_share_21 (by decide) kk
theorem dL_share_22 : decode (i_b iL_share) 22 = .ok (.ireturn, 1) := by decide +kernel
theorem wL_share_22 {x : Int32} {P : Int32 → q_H → Option Nat → Prop} (hk : P x h z) : QW V iL_share 22 [a0, a1, a2, a3, a4] [.int x] h z bc bs (q_Ki P) Kx := q_iret dL_share_22 rfl rfl ⟨x, rfl, hk⟩
theorem eL_playerRank {x0 : Nat} {x1 : Int32} {x2 : Nat} {P : Int32 → q_H → Option Nat → Prop} (kk : QW V iL_playerRank 0 [some (.ref x0), some (.int x1), some (.ref x2), none] [] h z 3 18 (q_Ki P) Kx) : QMi V iL_playerRank [.ref x0, .int x1, .ref x2] h z P Kx := q_enterH (by decide) (by decide +kernel) rfl (Nat.le_of_ble_eq_true rfl) kk
theorem dL_playerRank_0 : decode (i_b iL_playerRank) 0 = .ok (.aload_n 2, 1) := by decide +kernel
theorem wL_playerRank_0 {x : Nat} (kk : QW V iL_playerRank 1 [a0, a1, some (.ref x), a3] (.ref x :: st) h z bc bs Kr Kx) : QW V iL_playerRank 0 [a0, a1, some (.ref x), a3] (st) h z bc bs Kr Kx := q_aload_n dL_playerRank_0 rfl rfl kk
theorem dL_playerRank_1 : decode (i_b iL_playerRank) 1 = .ok (.iconst 0, 1) := by decide +kernel
theorem wL_playerRank_1  (kk : QW V iL_playerRank 2 [a0, a1, a2, a3] (.int (0) :: st) h z bc bs Kr Kx) : QW V iL_playerRank 1 [a0, a1, a2, a3] (st) h z bc bs Kr Kx := q_iconst dL_playerRank_1 (by decide) kk
theorem dL_playerRank_2 : decode (i_b iL_playerRank) 2 = .ok (.aload_n 0, 1) := by decide +kernel
theorem wL_playerRank_2 {x : Nat} (kk : QW V iL_playerRank 3 [some (.ref x), a1, a2, a3] (.ref x :: st) h z bc bs Kr Kx) : QW V iL_playerRank 2 [some (.ref x), a1, a2, a3] (st) h z bc bs Kr Kx := q_aload_n dL_playerRank_2 rfl rfl kk
theorem dL_playerRank_3 : decode (i_b iL_playerRank) 3 = .ok (.iload_n 1, 1) := by decide +kernel
theorem wL_playerRank_3 {x : Int32} (kk : QW V iL_playerRank 4 [a0, some (.int x), a2, a3] (.int x :: st) h z bc bs Kr Kx) : QW V iL_playerRank 3 [a0, some (.int x), a2, a3] (st) h z bc bs Kr Kx := q_iload_n dL_playerRank_3 rfl rfl kk
theorem dL_playerRank_4 : decode (i_b iL_playerRank) 4 = .ok (.invokevirtual 93, 3) := by decide +kernel
theorem wL_playerRank_4 {a : Nat} {fs : List Value} {x0 : Int32} (hb : h a = some (.inr (9, fs))) (hm : QMi V iX8_playerRank [.ref a, .int x0] h z (fun r h' z' => QW V iL_playerRank 7 [a0, a1, a2, a3] (.int r :: st) h' z' bc bs Kr Kx) (fun E h2 => (E = "java/lang/IllegalStateException" ∧ ∀ q : Nat, QW V iL_playerRank 12 [a0, a1, a2, a3] [.ref q] h2 none bc bs Kr Kx) ∨ (E = "java/lang/IllegalArgumentException" ∧ ∀ q : Nat, QW V iL_playerRank 15 [a0, a1, a2, a3] [.ref q] h2 none bc bs Kr Kx) ∨ (E = "java/util/NoSuchElementException" ∧ ∀ q : Nat, QW V iL_playerRank 18 [a0, a1, a2, a3] [.ref q] h2 none bc bs Kr Kx))) (hW : (st.map fun v => v.category).sum ≤ 8 := by exact Nat.le_of_ble_eq_true rfl) : QW V iL_playerRank 4 [a0, a1, a2, a3] (.int x0 :: .ref a :: st) h z (bc + 3) (bs + 18) Kr Kx := by
  refine q_callVX (y' := iX8_playerRank) (As := [.int x0]) (rest := st) dL_playerRank_4 k5_34 k5_35 k5_36 k1_1 hhX8_playerRank rfl hdX8_playerRank rfl rfl (Nat.le_of_ble_eq_true rfl) (Nat.le_of_ble_eq_true rfl) hW hb (fun E h2 => (E = "java/lang/IllegalStateException" ∧ ∀ q : Nat, QW V iL_playerRank 12 [a0, a1, a2, a3] [.ref q] h2 none bc bs Kr Kx) ∨ (E = "java/lang/IllegalArgumentException" ∧ ∀ q : Nat, QW V iL_playerRank 15 [a0, a1, a2, a3] [.ref q] h2 none bc bs Kr Kx) ∨ (E = "java/util/NoSuchElementException" ∧ ∀ q : Nat, QW V iL_playerRank 18 [a0, a1, a2, a3] [.ref q] h2 none bc bs Kr Kx)) (fun E h2 hK => ?_) (QMi.run hm)
  rcases hK with ⟨rfl, hq⟩ | ⟨rfl, hq⟩ | ⟨rfl, hq⟩
  · exact ⟨[], [(0, 9, 15, 19), (0, 9, 18, 82)], (0, 9, 12, 13), rfl, (fun q hq => nomatch hq), by decide, by decide, k3_19, by decide +kernel, hq⟩
  · exact ⟨[(0, 9, 12, 13)], [(0, 9, 18, 82)], (0, 9, 15, 19), rfl, (by intro q hq; simp only [List.mem_cons, List.not_mem_nil, or_false] at hq; subst hq; exact ⟨by decide, "java/lang/IllegalStateException", k3_19, by decide +kernel⟩), by decide, by decide, k3_99, by decide +kernel, hq⟩
  · exact ⟨[(0, 9, 12, 13), (0, 9, 15, 19)], [], (0, 9, 18, 82), rfl, (by intro q hq; simp only [List.mem_cons, List.not_mem_nil, or_false] at hq; rcases hq with rfl | rfl <;> first | exact ⟨by decide, "java/lang/IllegalStateException", k3_19, by decide +kernel⟩ | exact ⟨by decide, "java/lang/IllegalArgumentException", k3_99, by decide +kernel⟩), by decide, by decide, k4_207, by decide +kernel, hq⟩
theorem dL_playerRank_7 : decode (i_b iL_playerRank) 7 = .ok (.i2l, 1) := by decide +kernel
theorem wL_playerRank_7 {x : Int32} (kk : QW V iL_playerRank 8 [a0, a1, a2, a3] (.long (x.toInt64) :: st) h z bc bs Kr Kx) : QW V iL_playerRank 7 [a0, a1, a2, a3] (.int x :: st) h z bc bs Kr Kx := q_i2l dL_playerRank_7 kk
theorem dL_playerRank_8 : decode (i_b iL_playerRank) 8 = .ok (.lastore, 1) := by decide +kernel
theorem wL_playerRank_8 {a n j : Nat} {f : Nat → Int64} {i : Int32} {x : Int64} (ha : h a = some (.inl (2, n, .inr (.inl f)))) (hi : i = nI j) (hj : j < n) (hn : n < 2147483648) (kk : QW V iL_playerRank 9 [a0, a1, a2, a3] (st) (q_up h a (.inl (2, n, .inr (.inl (vp_updL f j x))))) z bc bs Kr Kx) : QW V iL_playerRank 8 [a0, a1, a2, a3] (.long x :: .int i :: .ref a :: st) h z bc bs Kr Kx := q_last dL_playerRank_8 ha hi hj hn kk
theorem wL_playerRank_8u {a n j : Nat} {f : Nat → Int64} {i : Int32} {x : Int64} (hi : i = nI j) (hj : j < n) (hn : n < 2147483648) (kk : QW V iL_playerRank 9 [a0, a1, a2, a3] (st) (q_up h a (.inl (2, n, .inr (.inl (vp_updL f j x))))) z bc bs Kr Kx) : QW V iL_playerRank 8 [a0, a1, a2, a3] (.long x :: .int i :: .ref a :: st) (q_up h a (.inl (2, n, .inr (.inl f)))) z bc bs Kr Kx := wL_playerRank_8 q_up_s hi hj hn (by rw [q_up_u]; exact kk)
theorem dL_playerRank_9 : decode (i_b iL_playerRank) 9 = .ok (.goto 12, 3) := by decide +kernel
theorem wL_playerRank_9  (kk : QW V iL_playerRank 21 [a0, a1, a2, a3] (st) h z bc bs Kr Kx) : QW V iL_playerRank 9 [a0, a1, a2, a3] (st) h z bc bs Kr Kx := q_goto dL_playerRank_9 (by decide) kk
theorem dL_playerRank_12 : decode (i_b iL_playerRank) 12 = .ok (.astore_n 3, 1) := by decide +kernel
theorem wL_playerRank_12 {x : Nat} (kk : QW V iL_playerRank 13 [a0, a1, a2, some (.ref x)] (st) h z bc bs Kr Kx) (hp : q_n2 a2 = true := by rfl) : QW V iL_playerRank 12 [a0, a1, a2, a3] (.ref x :: st) h z bc bs Kr Kx := q_astore_n dL_playerRank_12 rfl (Nat.le_of_ble_eq_true rfl) hp kk
theorem dL_playerRank_13 : decode (i_b iL_playerRank) 13 = .ok (.iconst 1, 1) := by decide +kernel
theorem wL_playerRank_13  (kk : QW V iL_playerRank 14 [a0, a1, a2, a3] (.int (1) :: st) h z bc bs Kr Kx) : QW V iL_playerRank 13 [a0, a1, a2, a3] (st) h z bc bs Kr Kx := q_iconst dL_playerRank_13 (by decide) kk
theorem dL_playerRank_14 : decode (i_b iL_playerRank) 14 = .ok (.ireturn, 1) := by decide +kernel
theorem wL_playerRank_14 {x : Int32} {P : Int32 → q_H → Option Nat → Prop} (hk : P x h z) : QW V iL_playerRank 14 [a0, a1, a2, a3] [.int x] h z bc bs (q_Ki P) Kx := q_iret dL_playerRank_14 rfl rfl ⟨x, rfl, hk⟩
theorem dL_playerRank_15 : decode (i_b iL_playerRank) 15 = .ok (.astore_n 3, 1) := by decide +kernel
theorem wL_playerRank_15 {x : Nat} (kk : QW V iL_playerRank 16 [a0, a1, a2, some (.ref x)] (st) h z bc bs Kr Kx) (hp : q_n2 a2 = true := by rfl) : QW V iL_playerRank 15 [a0, a1, a2, a3] (.ref x :: st) h z bc bs Kr Kx := q_astore_n dL_playerRank_15 rfl (Nat.le_of_ble_eq_true rfl) hp kk
theorem dL_playerRank_16 : decode (i_b iL_playerRank) 16 = .ok (.iconst 2, 1) := by decide +kernel
theorem wL_playerRank_16  (kk : QW V iL_playerRank 17 [a0, a1, a2, a3] (.int (2) :: st) h z bc bs Kr Kx) : QW V iL_playerRank 16 [a0, a1, a2, a3] (st) h z bc bs Kr Kx := q_iconst dL_playerRank_16 (by decide) kk
theorem dL_playerRank_17 : decode (i_b iL_playerRank) 17 = .ok (.ireturn, 1) := by decide +kernel
theorem wL_playerRank_17 {x : Int32} {P : Int32 → q_H → Option Nat → Prop} (hk : P x h z) : QW V iL_playerRank 17 [a0, a1, a2, a3] [.int x] h z bc bs (q_Ki P) Kx := q_iret dL_playerRank_17 rfl rfl ⟨x, rfl, hk⟩
theorem dL_playerRank_18 : decode (i_b iL_playerRank) 18 = .ok (.astore_n 3, 1) := by decide +kernel
theorem wL_playerRank_18 {x : Nat} (kk : QW V iL_playerRank 19 [a0, a1, a2, some (.ref x)] (st) h z bc bs Kr Kx) (hp : q_n2 a2 = true := by rfl) : QW V iL_playerRank 18 [a0, a1, a2, a3] (.ref x :: st) h z bc bs Kr Kx := q_astore_n dL_playerRank_18 rfl (Nat.le_of_ble_eq_true rfl) hp kk
theorem dL_playerRank_19 : decode (i_b iL_playerRank) 19 = .ok (.iconst 3, 1) := by decide +kernel
theorem wL_playerRank_19  (kk : QW V iL_playerRank 20 [a0, a1, a2, a3] (.int (3) :: st) h z bc bs Kr Kx) : QW V iL_playerRank 19 [a0, a1, a2, a3] (st) h z bc bs Kr Kx := q_iconst dL_playerRank_19 (by decide) kk
theorem dL_playerRank_20 : decode (i_b iL_playerRank) 20 = .ok (.ireturn, 1) := by decide +kernel
theorem wL_playerRank_20 {x : Int32} {P : Int32 → q_H → Option Nat → Prop} (hk : P x h z) : QW V iL_playerRank 20 [a0, a1, a2, a3] [.int x] h z bc bs (q_Ki P) Kx := q_iret dL_playerRank_20 rfl rfl ⟨x, rfl, hk⟩
theorem dL_playerRank_21 : decode (i_b iL_playerRank) 21 = .ok (.iconst 0, 1) := by decide +kernel
theorem wL_playerRank_21  (kk : QW V iL_playerRank 22 [a0, a1, a2, a3] (.int (0) :: st) h z bc bs Kr Kx) : QW V iL_playerRank 21 [a0, a1, a2, a3] (st) h z bc bs Kr Kx := q_iconst dL_playerRank_21 (by decide) kk
theorem dL_playerRank_22 : decode (i_b iL_playerRank) 22 = .ok (.ireturn, 1) := by decide +kernel
theorem wL_playerRank_22 {x : Int32} {P : Int32 → q_H → Option Nat → Prop} (hk : P x h z) : QW V iL_playerRank 22 [a0, a1, a2, a3] [.int x] h z bc bs (q_Ki P) Kx := q_iret dL_playerRank_22 rfl rfl ⟨x, rfl, hk⟩
theorem eL_meanSalary {x0 : Nat} {x1 : Int32} {x2 : Nat} {P : Int32 → q_H → Option Nat → Prop} (kk : QW V iL_meanSalary 0 [some (.ref x0), some (.int x1), some (.ref x2), none] [] h z 3 18 (q_Ki P) Kx) : QMi V iL_meanSalary [.ref x0, .int x1, .ref x2] h z P Kx := q_enterH (by decide) (by decide +kernel) rfl (Nat.le_of_ble_eq_true rfl) kk
theorem dL_meanSalary_0 : decode (i_b iL_meanSalary) 0 = .ok (.aload_n 2, 1) := by decide +kernel
theorem wL_meanSalary_0 {x : Nat} (kk : QW V iL_meanSalary 1 [a0, a1, some (.ref x), a3] (.ref x :: st) h z bc bs Kr Kx) : QW V iL_meanSalary 0 [a0, a1, some (.ref x), a3] (st) h z bc bs Kr Kx := q_aload_n dL_meanSalary_0 rfl rfl kk
theorem dL_meanSalary_1 : decode (i_b iL_meanSalary) 1 = .ok (.iconst 0, 1) := by decide +kernel
theorem wL_meanSalary_1  (kk : QW V iL_meanSalary 2 [a0, a1, a2, a3] (.int (0) :: st) h z bc bs Kr Kx) : QW V iL_meanSalary 1 [a0, a1, a2, a3] (st) h z bc bs Kr Kx := q_iconst dL_meanSalary_1 (by decide) kk
theorem dL_meanSalary_2 : decode (i_b iL_meanSalary) 2 = .ok (.aload_n 0, 1) := by decide +kernel
theorem wL_meanSalary_2 {x : Nat} (kk : QW V iL_meanSalary 3 [some (.ref x), a1, a2, a3] (.ref x :: st) h z bc bs Kr Kx) : QW V iL_meanSalary 2 [some (.ref x), a1, a2, a3] (st) h z bc bs Kr Kx := q_aload_n dL_meanSalary_2 rfl rfl kk
theorem dL_meanSalary_3 : decode (i_b iL_meanSalary) 3 = .ok (.iload_n 1, 1) := by decide +kernel
theorem wL_meanSalary_3 {x : Int32} (kk : QW V iL_meanSalary 4 [a0, some (.int x), a2, a3] (.int x :: st) h z bc bs Kr Kx) : QW V iL_meanSalary 3 [a0, some (.int x), a2, a3] (st) h z bc bs Kr Kx := q_iload_n dL_meanSalary_3 rfl rfl kk
theorem dL_meanSalary_4 : decode (i_b iL_meanSalary) 4 = .ok (.invokevirtual 96, 3) := by decide +kernel
theorem wL_meanSalary_4 {a : Nat} {fs : List Value} {x0 : Int32} (hb : h a = some (.inr (9, fs))) (hm : QMd V iX8_meanSalary [.ref a, .int x0] h z (fun r h' z' => QW V iL_meanSalary 7 [a0, a1, a2, a3] (.double r :: st) h' z' bc bs Kr Kx) (fun E h2 => (E = "java/lang/IllegalStateException" ∧ ∀ q : Nat, QW V iL_meanSalary 11 [a0, a1, a2, a3] [.ref q] h2 none bc bs Kr Kx) ∨ (E = "java/lang/IllegalArgumentException" ∧ ∀ q : Nat, QW V iL_meanSalary 14 [a0, a1, a2, a3] [.ref q] h2 none bc bs Kr Kx) ∨ (E = "java/lang/ArithmeticException" ∧ ∀ q : Nat, QW V iL_meanSalary 17 [a0, a1, a2, a3] [.ref q] h2 none bc bs Kr Kx))) (hW : (st.map fun v => v.category).sum ≤ 8 := by exact Nat.le_of_ble_eq_true rfl) : QW V iL_meanSalary 4 [a0, a1, a2, a3] (.int x0 :: .ref a :: st) h z (bc + 3) (bs + 18) Kr Kx := by
  refine q_callVX (y' := iX8_meanSalary) (As := [.int x0]) (rest := st) dL_meanSalary_4 k5_66 k5_67 k5_68 k1_1 hhX8_meanSalary rfl hdX8_meanSalary rfl rfl (Nat.le_of_ble_eq_true rfl) (Nat.le_of_ble_eq_true rfl) hW hb (fun E h2 => (E = "java/lang/IllegalStateException" ∧ ∀ q : Nat, QW V iL_meanSalary 11 [a0, a1, a2, a3] [.ref q] h2 none bc bs Kr Kx) ∨ (E = "java/lang/IllegalArgumentException" ∧ ∀ q : Nat, QW V iL_meanSalary 14 [a0, a1, a2, a3] [.ref q] h2 none bc bs Kr Kx) ∨ (E = "java/lang/ArithmeticException" ∧ ∀ q : Nat, QW V iL_meanSalary 17 [a0, a1, a2, a3] [.ref q] h2 none bc bs Kr Kx)) (fun E h2 hK => ?_) (QMd.run hm)
  rcases hK with ⟨rfl, hq⟩ | ⟨rfl, hq⟩ | ⟨rfl, hq⟩
  · exact ⟨[], [(0, 8, 14, 19), (0, 8, 17, 100)], (0, 8, 11, 13), rfl, (fun q hq => nomatch hq), by decide, by decide, k3_19, by decide +kernel, hq⟩
  · exact ⟨[(0, 8, 11, 13)], [(0, 8, 17, 100)], (0, 8, 14, 19), rfl, (by intro q hq; simp only [List.mem_cons, List.not_mem_nil, or_false] at hq; subst hq; exact ⟨by decide, "java/lang/IllegalStateException", k3_19, by decide +kernel⟩), by decide, by decide, k3_99, by decide +kernel, hq⟩
  · exact ⟨[(0, 8, 11, 13), (0, 8, 14, 19)], [], (0, 8, 17, 100), rfl, (by intro q hq; simp only [List.mem_cons, List.not_mem_nil, or_false] at hq; rcases hq with rfl | rfl <;> first | exact ⟨by decide, "java/lang/IllegalStateException", k3_19, by decide +kernel⟩ | exact ⟨by decide, "java/lang/IllegalArgumentException", k3_99, by decide +kernel⟩), by decide, by decide, k5_47, by decide +kernel, hq⟩
theorem dL_meanSalary_7 : decode (i_b iL_meanSalary) 7 = .ok (.dastore, 1) := by decide +kernel
theorem wL_meanSalary_7 {a n j : Nat} {f : Nat → UInt64} {i : Int32} {x : UInt64} (ha : h a = some (.inl (3, n, .inr (.inr (.inr (.inl f)))))) (hi : i = nI j) (hj : j < n) (hn : n < 2147483648) (kk : QW V iL_meanSalary 8 [a0, a1, a2, a3] (st) (q_up h a (.inl (3, n, .inr (.inr (.inr (.inl (va_up f j x))))))) z bc bs Kr Kx) : QW V iL_meanSalary 7 [a0, a1, a2, a3] (.double x :: .int i :: .ref a :: st) h z bc bs Kr Kx := q_dast dL_meanSalary_7 ha hi hj hn kk
theorem wL_meanSalary_7u {a n j : Nat} {f : Nat → UInt64} {i : Int32} {x : UInt64} (hi : i = nI j) (hj : j < n) (hn : n < 2147483648) (kk : QW V iL_meanSalary 8 [a0, a1, a2, a3] (st) (q_up h a (.inl (3, n, .inr (.inr (.inr (.inl (va_up f j x))))))) z bc bs Kr Kx) : QW V iL_meanSalary 7 [a0, a1, a2, a3] (.double x :: .int i :: .ref a :: st) (q_up h a (.inl (3, n, .inr (.inr (.inr (.inl f)))))) z bc bs Kr Kx := wL_meanSalary_7 q_up_s hi hj hn (by rw [q_up_u]; exact kk)
theorem dL_meanSalary_8 : decode (i_b iL_meanSalary) 8 = .ok (.goto 12, 3) := by decide +kernel
theorem wL_meanSalary_8  (kk : QW V iL_meanSalary 20 [a0, a1, a2, a3] (st) h z bc bs Kr Kx) : QW V iL_meanSalary 8 [a0, a1, a2, a3] (st) h z bc bs Kr Kx := q_goto dL_meanSalary_8 (by decide) kk
theorem dL_meanSalary_11 : decode (i_b iL_meanSalary) 11 = .ok (.astore_n 3, 1) := by decide +kernel
theorem wL_meanSalary_11 {x : Nat} (kk : QW V iL_meanSalary 12 [a0, a1, a2, some (.ref x)] (st) h z bc bs Kr Kx) (hp : q_n2 a2 = true := by rfl) : QW V iL_meanSalary 11 [a0, a1, a2, a3] (.ref x :: st) h z bc bs Kr Kx := q_astore_n dL_meanSalary_11 rfl (Nat.le_of_ble_eq_true rfl) hp kk
theorem dL_meanSalary_12 : decode (i_b iL_meanSalary) 12 = .ok (.iconst 1, 1) := by decide +kernel
theorem wL_meanSalary_12  (kk : QW V iL_meanSalary 13 [a0, a1, a2, a3] (.int (1) :: st) h z bc bs Kr Kx) : QW V iL_meanSalary 12 [a0, a1, a2, a3] (st) h z bc bs Kr Kx := q_iconst dL_meanSalary_12 (by decide) kk
theorem dL_meanSalary_13 : decode (i_b iL_meanSalary) 13 = .ok (.ireturn, 1) := by decide +kernel
theorem wL_meanSalary_13 {x : Int32} {P : Int32 → q_H → Option Nat → Prop} (hk : P x h z) : QW V iL_meanSalary 13 [a0, a1, a2, a3] [.int x] h z bc bs (q_Ki P) Kx := q_iret dL_meanSalary_13 rfl rfl ⟨x, rfl, hk⟩
theorem dL_meanSalary_14 : decode (i_b iL_meanSalary) 14 = .ok (.astore_n 3, 1) := by decide +kernel
theorem wL_meanSalary_14 {x : Nat} (kk : QW V iL_meanSalary 15 [a0, a1, a2, some (.ref x)] (st) h z bc bs Kr Kx) (hp : q_n2 a2 = true := by rfl) : QW V iL_meanSalary 14 [a0, a1, a2, a3] (.ref x :: st) h z bc bs Kr Kx := q_astore_n dL_meanSalary_14 rfl (Nat.le_of_ble_eq_true rfl) hp kk
theorem dL_meanSalary_15 : decode (i_b iL_meanSalary) 15 = .ok (.iconst 2, 1) := by decide +kernel
theorem wL_meanSalary_15  (kk : QW V iL_meanSalary 16 [a0, a1, a2, a3] (.int (2) :: st) h z bc bs Kr Kx) : QW V iL_meanSalary 15 [a0, a1, a2, a3] (st) h z bc bs Kr Kx := q_iconst dL_meanSalary_15 (by decide) kk
theorem dL_meanSalary_16 : decode (i_b iL_meanSalary) 16 = .ok (.ireturn, 1) := by decide +kernel
theorem wL_meanSalary_16 {x : Int32} {P : Int32 → q_H → Option Nat → Prop} (hk : P x h z) : QW V iL_meanSalary 16 [a0, a1, a2, a3] [.int x] h z bc bs (q_Ki P) Kx := q_iret dL_meanSalary_16 rfl rfl ⟨x, rfl, hk⟩
theorem dL_meanSalary_17 : decode (i_b iL_meanSalary) 17 = .ok (.astore_n 3, 1) := by decide +kernel
theorem wL_meanSalary_17 {x : Nat} (kk : QW V iL_meanSalary 18 [a0, a1, a2, some (.ref x)] (st) h z bc bs Kr Kx) (hp : q_n2 a2 = true := by rfl) : QW V iL_meanSalary 17 [a0, a1, a2, a3] (.ref x :: st) h z bc bs Kr Kx := q_astore_n dL_meanSalary_17 rfl (Nat.le_of_ble_eq_true rfl) hp kk
theorem dL_meanSalary_18 : decode (i_b iL_meanSalary) 18 = .ok (.iconst 3, 1) := by decide +kernel
theorem wL_meanSalary_18  (kk : QW V iL_meanSalary 19 [a0, a1, a2, a3] (.int (3) :: st) h z bc bs Kr Kx) : QW V iL_meanSalary 18 [a0, a1, a2, a3] (st) h z bc bs Kr Kx := q_iconst dL_meanSalary_18 (by decide) kk
theorem dL_meanSalary_19 : decode (i_b iL_meanSalary) 19 = .ok (.ireturn, 1) := by decide +kernel
theorem wL_meanSalary_19 {x : Int32} {P : Int32 → q_H → Option Nat → Prop} (hk : P x h z) : QW V iL_meanSalary 19 [a0, a1, a2, a3] [.int x] h z bc bs (q_Ki P) Kx := q_iret dL_meanSalary_19 rfl rfl ⟨x, rfl, hk⟩
theorem dL_meanSalary_20 : decode (i_b iL_meanSalary) 20 = .ok (.iconst 0, 1) := by decide +kernel
theorem wL_meanSalary_20  (kk : QW V iL_meanSalary 21 [a0, a1, a2, a3] (.int (0) :: st) h z bc bs Kr Kx) : QW V iL_meanSalary 20 [a0, a1, a2, a3] (st) h z bc bs Kr Kx := q_iconst dL_meanSalary_20 (by decide) kk
theorem dL_meanSalary_21 : decode (i_b iL_meanSalary) 21 = .ok (.ireturn, 1) := by decide +kernel
theorem wL_meanSalary_21 {x : Int32} {P : Int32 → q_H → Option Nat → Prop} (hk : P x h z) : QW V iL_meanSalary 21 [a0, a1, a2, a3] [.int x] h z bc bs (q_Ki P) Kx := q_iret dL_meanSalary_21 rfl rfl ⟨x, rfl, hk⟩
theorem eL_signCode {x0 : Nat} {x1 : Int32} {x2 : Int32} {x3 : Int32} {x4 : Nat} {P : Int32 → q_H → Option Nat → Prop} (kk : QW V iL_signCode 0 [some (.ref x0), some (.int x1), some (.int x2), some (.int x3), some (.ref x4), none] [] h z 4 24 (q_Ki P) Kx) : QMi V iL_signCode [.ref x0, .int x1, .int x2, .int x3, .ref x4] h z P Kx := q_enterH (by decide) (by decide +kernel) rfl (Nat.le_of_ble_eq_true rfl) kk
theorem dL_signCode_0 : decode (i_b iL_signCode) 0 = .ok (.aload 4, 2) := by decide +kernel
theorem wL_signCode_0 {x : Nat} (kk : QW V iL_signCode 2 [a0, a1, a2, a3, some (.ref x), a5] (.ref x :: st) h z bc bs Kr Kx) : QW V iL_signCode 0 [a0, a1, a2, a3, some (.ref x), a5] (st) h z bc bs Kr Kx := q_aload dL_signCode_0 rfl kk
theorem dL_signCode_2 : decode (i_b iL_signCode) 2 = .ok (.iconst 0, 1) := by decide +kernel
theorem wL_signCode_2  (kk : QW V iL_signCode 3 [a0, a1, a2, a3, a4, a5] (.int (0) :: st) h z bc bs Kr Kx) : QW V iL_signCode 2 [a0, a1, a2, a3, a4, a5] (st) h z bc bs Kr Kx := q_iconst dL_signCode_2 (by decide) kk
theorem dL_signCode_3 : decode (i_b iL_signCode) 3 = .ok (.aload_n 0, 1) := by decide +kernel
theorem wL_signCode_3 {x : Nat} (kk : QW V iL_signCode 4 [some (.ref x), a1, a2, a3, a4, a5] (.ref x :: st) h z bc bs Kr Kx) : QW V iL_signCode 3 [some (.ref x), a1, a2, a3, a4, a5] (st) h z bc bs Kr Kx := q_aload_n dL_signCode_3 rfl rfl kk
theorem dL_signCode_4 : decode (i_b iL_signCode) 4 = .ok (.iload_n 1, 1) := by decide +kernel
theorem wL_signCode_4 {x : Int32} (kk : QW V iL_signCode 5 [a0, some (.int x), a2, a3, a4, a5] (.int x :: st) h z bc bs Kr Kx) : QW V iL_signCode 4 [a0, some (.int x), a2, a3, a4, a5] (st) h z bc bs Kr Kx := q_iload_n dL_signCode_4 rfl rfl kk
theorem dL_signCode_5 : decode (i_b iL_signCode) 5 = .ok (.iload_n 2, 1) := by decide +kernel
theorem wL_signCode_5 {x : Int32} (kk : QW V iL_signCode 6 [a0, a1, some (.int x), a3, a4, a5] (.int x :: st) h z bc bs Kr Kx) : QW V iL_signCode 5 [a0, a1, some (.int x), a3, a4, a5] (st) h z bc bs Kr Kx := q_iload_n dL_signCode_5 rfl rfl kk
theorem dL_signCode_6 : decode (i_b iL_signCode) 6 = .ok (.iload_n 3, 1) := by decide +kernel
theorem wL_signCode_6 {x : Int32} (kk : QW V iL_signCode 7 [a0, a1, a2, some (.int x), a4, a5] (.int x :: st) h z bc bs Kr Kx) : QW V iL_signCode 6 [a0, a1, a2, some (.int x), a4, a5] (st) h z bc bs Kr Kx := q_iload_n dL_signCode_6 rfl rfl kk
theorem dL_signCode_7 : decode (i_b iL_signCode) 7 = .ok (.invokevirtual 102, 3) := by decide +kernel
theorem wL_signCode_7 {a : Nat} {fs : List Value} {x0 : Int32} {x1 : Int32} {x2 : Int32} (hb : h a = some (.inr (9, fs))) (hm : QMi V iX8_signCode [.ref a, .int x0, .int x1, .int x2] h z (fun r h' z' => QW V iL_signCode 10 [a0, a1, a2, a3, a4, a5] (.int r :: st) h' z' bc bs Kr Kx) (fun E h2 => (E = "java/lang/IllegalStateException" ∧ ∀ q : Nat, QW V iL_signCode 15 [a0, a1, a2, a3, a4, a5] [.ref q] h2 none bc bs Kr Kx) ∨ (E = "java/lang/IllegalArgumentException" ∧ ∀ q : Nat, QW V iL_signCode 19 [a0, a1, a2, a3, a4, a5] [.ref q] h2 none bc bs Kr Kx))) (hW : (st.map fun v => v.category).sum ≤ 8 := by exact Nat.le_of_ble_eq_true rfl) : QW V iL_signCode 7 [a0, a1, a2, a3, a4, a5] (.int x2 :: .int x1 :: .int x0 :: .ref a :: st) h z (bc + 4) (bs + 24) Kr Kx := by
  refine q_callVX (y' := iX8_signCode) (As := [.int x0, .int x1, .int x2]) (rest := st) dL_signCode_7 k5_76 k5_77 k5_78 k1_1 hhX8_signCode rfl hdX8_signCode rfl rfl (Nat.le_of_ble_eq_true rfl) (Nat.le_of_ble_eq_true rfl) hW hb (fun E h2 => (E = "java/lang/IllegalStateException" ∧ ∀ q : Nat, QW V iL_signCode 15 [a0, a1, a2, a3, a4, a5] [.ref q] h2 none bc bs Kr Kx) ∨ (E = "java/lang/IllegalArgumentException" ∧ ∀ q : Nat, QW V iL_signCode 19 [a0, a1, a2, a3, a4, a5] [.ref q] h2 none bc bs Kr Kx)) (fun E h2 hK => ?_) (QMi.run hm)
  rcases hK with ⟨rfl, hq⟩ | ⟨rfl, hq⟩
  · exact ⟨[], [(0, 12, 19, 19)], (0, 12, 15, 13), rfl, (fun q hq => nomatch hq), by decide, by decide, k3_19, by decide +kernel, hq⟩
  · exact ⟨[(0, 12, 15, 13)], [], (0, 12, 19, 19), rfl, (by intro q hq; simp only [List.mem_cons, List.not_mem_nil, or_false] at hq; subst hq; exact ⟨by decide, "java/lang/IllegalStateException", k3_19, by decide +kernel⟩), by decide, by decide, k3_99, by decide +kernel, hq⟩
theorem dL_signCode_10 : decode (i_b iL_signCode) 10 = .ok (.i2l, 1) := by decide +kernel
theorem wL_signCode_10 {x : Int32} (kk : QW V iL_signCode 11 [a0, a1, a2, a3, a4, a5] (.long (x.toInt64) :: st) h z bc bs Kr Kx) : QW V iL_signCode 10 [a0, a1, a2, a3, a4, a5] (.int x :: st) h z bc bs Kr Kx := q_i2l dL_signCode_10 kk
theorem dL_signCode_11 : decode (i_b iL_signCode) 11 = .ok (.lastore, 1) := by decide +kernel
theorem wL_signCode_11 {a n j : Nat} {f : Nat → Int64} {i : Int32} {x : Int64} (ha : h a = some (.inl (2, n, .inr (.inl f)))) (hi : i = nI j) (hj : j < n) (hn : n < 2147483648) (kk : QW V iL_signCode 12 [a0, a1, a2, a3, a4, a5] (st) (q_up h a (.inl (2, n, .inr (.inl (vp_updL f j x))))) z bc bs Kr Kx) : QW V iL_signCode 11 [a0, a1, a2, a3, a4, a5] (.long x :: .int i :: .ref a :: st) h z bc bs Kr Kx := q_last dL_signCode_11 ha hi hj hn kk
theorem wL_signCode_11u {a n j : Nat} {f : Nat → Int64} {i : Int32} {x : Int64} (hi : i = nI j) (hj : j < n) (hn : n < 2147483648) (kk : QW V iL_signCode 12 [a0, a1, a2, a3, a4, a5] (st) (q_up h a (.inl (2, n, .inr (.inl (vp_updL f j x))))) z bc bs Kr Kx) : QW V iL_signCode 11 [a0, a1, a2, a3, a4, a5] (.long x :: .int i :: .ref a :: st) (q_up h a (.inl (2, n, .inr (.inl f)))) z bc bs Kr Kx := wL_signCode_11 q_up_s hi hj hn (by rw [q_up_u]; exact kk)
theorem dL_signCode_12 : decode (i_b iL_signCode) 12 = .ok (.goto 11, 3) := by decide +kernel
theorem wL_signCode_12  (kk : QW V iL_signCode 23 [a0, a1, a2, a3, a4, a5] (st) h z bc bs Kr Kx) : QW V iL_signCode 12 [a0, a1, a2, a3, a4, a5] (st) h z bc bs Kr Kx := q_goto dL_signCode_12 (by decide) kk
theorem dL_signCode_15 : decode (i_b iL_signCode) 15 = .ok (.astore 5, 2) := by decide +kernel
theorem wL_signCode_15 {x : Nat} (kk : QW V iL_signCode 17 [a0, a1, a2, a3, a4, some (.ref x)] (st) h z bc bs Kr Kx) (hp : q_n2 a4 = true := by rfl) : QW V iL_signCode 15 [a0, a1, a2, a3, a4, a5] (.ref x :: st) h z bc bs Kr Kx := q_astore dL_signCode_15 (Nat.le_of_ble_eq_true rfl) hp kk
theorem dL_signCode_17 : decode (i_b iL_signCode) 17 = .ok (.iconst 1, 1) := by decide +kernel
theorem wL_signCode_17  (kk : QW V iL_signCode 18 [a0, a1, a2, a3, a4, a5] (.int (1) :: st) h z bc bs Kr Kx) : QW V iL_signCode 17 [a0, a1, a2, a3, a4, a5] (st) h z bc bs Kr Kx := q_iconst dL_signCode_17 (by decide) kk
theorem dL_signCode_18 : decode (i_b iL_signCode) 18 = .ok (.ireturn, 1) := by decide +kernel
theorem wL_signCode_18 {x : Int32} {P : Int32 → q_H → Option Nat → Prop} (hk : P x h z) : QW V iL_signCode 18 [a0, a1, a2, a3, a4, a5] [.int x] h z bc bs (q_Ki P) Kx := q_iret dL_signCode_18 rfl rfl ⟨x, rfl, hk⟩
theorem dL_signCode_19 : decode (i_b iL_signCode) 19 = .ok (.astore 5, 2) := by decide +kernel
theorem wL_signCode_19 {x : Nat} (kk : QW V iL_signCode 21 [a0, a1, a2, a3, a4, some (.ref x)] (st) h z bc bs Kr Kx) (hp : q_n2 a4 = true := by rfl) : QW V iL_signCode 19 [a0, a1, a2, a3, a4, a5] (.ref x :: st) h z bc bs Kr Kx := q_astore dL_signCode_19 (Nat.le_of_ble_eq_true rfl) hp kk
theorem dL_signCode_21 : decode (i_b iL_signCode) 21 = .ok (.iconst 2, 1) := by decide +kernel
theorem wL_signCode_21  (kk : QW V iL_signCode 22 [a0, a1, a2, a3, a4, a5] (.int (2) :: st) h z bc bs Kr Kx) : QW V iL_signCode 21 [a0, a1, a2, a3, a4, a5] (st) h z bc bs Kr Kx := q_iconst dL_signCode_21 (by decide) kk
theorem dL_signCode_22 : decode (i_b iL_signCode) 22 = .ok (.ireturn, 1) := by decide +kernel
theorem wL_signCode_22 {x : Int32} {P : Int32 → q_H → Option Nat → Prop} (hk : P x h z) : QW V iL_signCode 22 [a0, a1, a2, a3, a4, a5] [.int x] h z bc bs (q_Ki P) Kx := q_iret dL_signCode_22 rfl rfl ⟨x, rfl, hk⟩
theorem dL_signCode_23 : decode (i_b iL_signCode) 23 = .ok (.iconst 0, 1) := by decide +kernel
theorem wL_signCode_23  (kk : QW V iL_signCode 24 [a0, a1, a2, a3, a4, a5] (.int (0) :: st) h z bc bs Kr Kx) : QW V iL_signCode 23 [a0, a1, a2, a3, a4, a5] (st) h z bc bs Kr Kx := q_iconst dL_signCode_23 (by decide) kk
theorem dL_signCode_24 : decode (i_b iL_signCode) 24 = .ok (.ireturn, 1) := by decide +kernel
theorem wL_signCode_24 {x : Int32} {P : Int32 → q_H → Option Nat → Prop} (hk : P x h z) : QW V iL_signCode 24 [a0, a1, a2, a3, a4, a5] [.int x] h z bc bs (q_Ki P) Kx := q_iret dL_signCode_24 rfl rfl ⟨x, rfl, hk⟩
theorem eL_bestRule {x0 : Nat} {x1 : Int32} {x2 : Int32} {x3 : Nat} {P : Int32 → q_H → Option Nat → Prop} (kk : QW V iL_bestRule 0 [some (.ref x0), some (.int x1), some (.int x2), some (.ref x3), none] [] h z 3 18 (q_Ki P) Kx) : QMi V iL_bestRule [.ref x0, .int x1, .int x2, .ref x3] h z P Kx := q_enterH (by decide) (by decide +kernel) rfl (Nat.le_of_ble_eq_true rfl) kk
theorem dL_bestRule_0 : decode (i_b iL_bestRule) 0 = .ok (.aload_n 3, 1) := by decide +kernel
theorem wL_bestRule_0 {x : Nat} (kk : QW V iL_bestRule 1 [a0, a1, a2, some (.ref x), a4] (.ref x :: st) h z bc bs Kr Kx) : QW V iL_bestRule 0 [a0, a1, a2, some (.ref x), a4] (st) h z bc bs Kr Kx := q_aload_n dL_bestRule_0 rfl rfl kk
theorem dL_bestRule_1 : decode (i_b iL_bestRule) 1 = .ok (.iconst 0, 1) := by decide +kernel
theorem wL_bestRule_1  (kk : QW V iL_bestRule 2 [a0, a1, a2, a3, a4] (.int (0) :: st) h z bc bs Kr Kx) : QW V iL_bestRule 1 [a0, a1, a2, a3, a4] (st) h z bc bs Kr Kx := q_iconst dL_bestRule_1 (by decide) kk
theorem dL_bestRule_2 : decode (i_b iL_bestRule) 2 = .ok (.aload_n 0, 1) := by decide +kernel
theorem wL_bestRule_2 {x : Nat} (kk : QW V iL_bestRule 3 [some (.ref x), a1, a2, a3, a4] (.ref x :: st) h z bc bs Kr Kx) : QW V iL_bestRule 2 [some (.ref x), a1, a2, a3, a4] (st) h z bc bs Kr Kx := q_aload_n dL_bestRule_2 rfl rfl kk
theorem dL_bestRule_3 : decode (i_b iL_bestRule) 3 = .ok (.iload_n 1, 1) := by decide +kernel
theorem wL_bestRule_3 {x : Int32} (kk : QW V iL_bestRule 4 [a0, some (.int x), a2, a3, a4] (.int x :: st) h z bc bs Kr Kx) : QW V iL_bestRule 3 [a0, some (.int x), a2, a3, a4] (st) h z bc bs Kr Kx := q_iload_n dL_bestRule_3 rfl rfl kk
theorem dL_bestRule_4 : decode (i_b iL_bestRule) 4 = .ok (.iload_n 2, 1) := by decide +kernel
theorem wL_bestRule_4 {x : Int32} (kk : QW V iL_bestRule 5 [a0, a1, some (.int x), a3, a4] (.int x :: st) h z bc bs Kr Kx) : QW V iL_bestRule 4 [a0, a1, some (.int x), a3, a4] (st) h z bc bs Kr Kx := q_iload_n dL_bestRule_4 rfl rfl kk
theorem dL_bestRule_5 : decode (i_b iL_bestRule) 5 = .ok (.invokevirtual 105, 3) := by decide +kernel
theorem wL_bestRule_5 {a : Nat} {fs : List Value} {x0 : Int32} {x1 : Int32} (hb : h a = some (.inr (9, fs))) (hm : QMi V iX8_bestRule [.ref a, .int x0, .int x1] h z (fun r h' z' => QW V iL_bestRule 8 [a0, a1, a2, a3, a4] (.int r :: st) h' z' bc bs Kr Kx) (fun E h2 => (E = "java/lang/IllegalStateException" ∧ ∀ q : Nat, QW V iL_bestRule 13 [a0, a1, a2, a3, a4] [.ref q] h2 none bc bs Kr Kx) ∨ (E = "java/lang/IllegalArgumentException" ∧ ∀ q : Nat, QW V iL_bestRule 17 [a0, a1, a2, a3, a4] [.ref q] h2 none bc bs Kr Kx))) (hW : (st.map fun v => v.category).sum ≤ 8 := by exact Nat.le_of_ble_eq_true rfl) : QW V iL_bestRule 5 [a0, a1, a2, a3, a4] (.int x1 :: .int x0 :: .ref a :: st) h z (bc + 3) (bs + 18) Kr Kx := by
  refine q_callVX (y' := iX8_bestRule) (As := [.int x0, .int x1]) (rest := st) dL_bestRule_5 k5_83 k5_84 k5_85 k1_1 hhX8_bestRule rfl hdX8_bestRule rfl rfl (Nat.le_of_ble_eq_true rfl) (Nat.le_of_ble_eq_true rfl) hW hb (fun E h2 => (E = "java/lang/IllegalStateException" ∧ ∀ q : Nat, QW V iL_bestRule 13 [a0, a1, a2, a3, a4] [.ref q] h2 none bc bs Kr Kx) ∨ (E = "java/lang/IllegalArgumentException" ∧ ∀ q : Nat, QW V iL_bestRule 17 [a0, a1, a2, a3, a4] [.ref q] h2 none bc bs Kr Kx)) (fun E h2 hK => ?_) (QMi.run hm)
  rcases hK with ⟨rfl, hq⟩ | ⟨rfl, hq⟩
  · exact ⟨[], [(0, 10, 17, 19)], (0, 10, 13, 13), rfl, (fun q hq => nomatch hq), by decide, by decide, k3_19, by decide +kernel, hq⟩
  · exact ⟨[(0, 10, 13, 13)], [], (0, 10, 17, 19), rfl, (by intro q hq; simp only [List.mem_cons, List.not_mem_nil, or_false] at hq; subst hq; exact ⟨by decide, "java/lang/IllegalStateException", k3_19, by decide +kernel⟩), by decide, by decide, k3_99, by decide +kernel, hq⟩
theorem dL_bestRule_8 : decode (i_b iL_bestRule) 8 = .ok (.i2l, 1) := by decide +kernel
theorem wL_bestRule_8 {x : Int32} (kk : QW V iL_bestRule 9 [a0, a1, a2, a3, a4] (.long (x.toInt64) :: st) h z bc bs Kr Kx) : QW V iL_bestRule 8 [a0, a1, a2, a3, a4] (.int x :: st) h z bc bs Kr Kx := q_i2l dL_bestRule_8 kk
theorem dL_bestRule_9 : decode (i_b iL_bestRule) 9 = .ok (.lastore, 1) := by decide +kernel
theorem wL_bestRule_9 {a n j : Nat} {f : Nat → Int64} {i : Int32} {x : Int64} (ha : h a = some (.inl (2, n, .inr (.inl f)))) (hi : i = nI j) (hj : j < n) (hn : n < 2147483648) (kk : QW V iL_bestRule 10 [a0, a1, a2, a3, a4] (st) (q_up h a (.inl (2, n, .inr (.inl (vp_updL f j x))))) z bc bs Kr Kx) : QW V iL_bestRule 9 [a0, a1, a2, a3, a4] (.long x :: .int i :: .ref a :: st) h z bc bs Kr Kx := q_last dL_bestRule_9 ha hi hj hn kk
theorem wL_bestRule_9u {a n j : Nat} {f : Nat → Int64} {i : Int32} {x : Int64} (hi : i = nI j) (hj : j < n) (hn : n < 2147483648) (kk : QW V iL_bestRule 10 [a0, a1, a2, a3, a4] (st) (q_up h a (.inl (2, n, .inr (.inl (vp_updL f j x))))) z bc bs Kr Kx) : QW V iL_bestRule 9 [a0, a1, a2, a3, a4] (.long x :: .int i :: .ref a :: st) (q_up h a (.inl (2, n, .inr (.inl f)))) z bc bs Kr Kx := wL_bestRule_9 q_up_s hi hj hn (by rw [q_up_u]; exact kk)
theorem dL_bestRule_10 : decode (i_b iL_bestRule) 10 = .ok (.goto 11, 3) := by decide +kernel
theorem wL_bestRule_10  (kk : QW V iL_bestRule 21 [a0, a1, a2, a3, a4] (st) h z bc bs Kr Kx) : QW V iL_bestRule 10 [a0, a1, a2, a3, a4] (st) h z bc bs Kr Kx := q_goto dL_bestRule_10 (by decide) kk
theorem dL_bestRule_13 : decode (i_b iL_bestRule) 13 = .ok (.astore 4, 2) := by decide +kernel
theorem wL_bestRule_13 {x : Nat} (kk : QW V iL_bestRule 15 [a0, a1, a2, a3, some (.ref x)] (st) h z bc bs Kr Kx) (hp : q_n2 a3 = true := by rfl) : QW V iL_bestRule 13 [a0, a1, a2, a3, a4] (.ref x :: st) h z bc bs Kr Kx := q_astore dL_bestRule_13 (Nat.le_of_ble_eq_true rfl) hp kk
theorem dL_bestRule_15 : decode (i_b iL_bestRule) 15 = .ok (.iconst 1, 1) := by decide +kernel
theorem wL_bestRule_15  (kk : QW V iL_bestRule 16 [a0, a1, a2, a3, a4] (.int (1) :: st) h z bc bs Kr Kx) : QW V iL_bestRule 15 [a0, a1, a2, a3, a4] (st) h z bc bs Kr Kx := q_iconst dL_bestRule_15 (by decide) kk
theorem dL_bestRule_16 : decode (i_b iL_bestRule) 16 = .ok (.ireturn, 1) := by decide +kernel
theorem wL_bestRule_16 {x : Int32} {P : Int32 → q_H → Option Nat → Prop} (hk : P x h z) : QW V iL_bestRule 16 [a0, a1, a2, a3, a4] [.int x] h z bc bs (q_Ki P) Kx := q_iret dL_bestRule_16 rfl rfl ⟨x, rfl, hk⟩
theorem dL_bestRule_17 : decode (i_b iL_bestRule) 17 = .ok (.astore 4, 2) := by decide +kernel
theorem wL_bestRule_17 {x : Nat} (kk : QW V iL_bestRule 19 [a0, a1, a2, a3, some (.ref x)] (st) h z bc bs Kr Kx) (hp : q_n2 a3 = true := by rfl) : QW V iL_bestRule 17 [a0, a1, a2, a3, a4] (.ref x :: st) h z bc bs Kr Kx := q_astore dL_bestRule_17 (Nat.le_of_ble_eq_true rfl) hp kk
theorem dL_bestRule_19 : decode (i_b iL_bestRule) 19 = .ok (.iconst 2, 1) := by decide +kernel
theorem wL_bestRule_19  (kk : QW V iL_bestRule 20 [a0, a1, a2, a3, a4] (.int (2) :: st) h z bc bs Kr Kx) : QW V iL_bestRule 19 [a0, a1, a2, a3, a4] (st) h z bc bs Kr Kx := q_iconst dL_bestRule_19 (by decide) kk
theorem dL_bestRule_20 : decode (i_b iL_bestRule) 20 = .ok (.ireturn, 1) := by decide +kernel
theorem wL_bestRule_20 {x : Int32} {P : Int32 → q_H → Option Nat → Prop} (hk : P x h z) : QW V iL_bestRule 20 [a0, a1, a2, a3, a4] [.int x] h z bc bs (q_Ki P) Kx := q_iret dL_bestRule_20 rfl rfl ⟨x, rfl, hk⟩
theorem dL_bestRule_21 : decode (i_b iL_bestRule) 21 = .ok (.iconst 0, 1) := by decide +kernel
theorem wL_bestRule_21  (kk : QW V iL_bestRule 22 [a0, a1, a2, a3, a4] (.int (0) :: st) h z bc bs Kr Kx) : QW V iL_bestRule 21 [a0, a1, a2, a3, a4] (st) h z bc bs Kr Kx := q_iconst dL_bestRule_21 (by decide) kk
theorem dL_bestRule_22 : decode (i_b iL_bestRule) 22 = .ok (.ireturn, 1) := by decide +kernel
theorem wL_bestRule_22 {x : Int32} {P : Int32 → q_H → Option Nat → Prop} (hk : P x h z) : QW V iL_bestRule 22 [a0, a1, a2, a3, a4] [.int x] h z bc bs (q_Ki P) Kx := q_iret dL_bestRule_22 rfl rfl ⟨x, rfl, hk⟩
theorem eL_greatestBase {x0 : Nat} {x1 : Int32} {x2 : Int32} {x3 : Int32} {x4 : Nat} {P : Int32 → q_H → Option Nat → Prop} (kk : QW V iL_greatestBase 0 [some (.ref x0), some (.int x1), some (.int x2), some (.int x3), some (.ref x4), none] [] h z 4 24 (q_Ki P) Kx) : QMi V iL_greatestBase [.ref x0, .int x1, .int x2, .int x3, .ref x4] h z P Kx := q_enterH (by decide) (by decide +kernel) rfl (Nat.le_of_ble_eq_true rfl) kk
theorem dL_greatestBase_0 : decode (i_b iL_greatestBase) 0 = .ok (.aload 4, 2) := by decide +kernel
theorem wL_greatestBase_0 {x : Nat} (kk : QW V iL_greatestBase 2 [a0, a1, a2, a3, some (.ref x), a5] (.ref x :: st) h z bc bs Kr Kx) : QW V iL_greatestBase 0 [a0, a1, a2, a3, some (.ref x), a5] (st) h z bc bs Kr Kx := q_aload dL_greatestBase_0 rfl kk
theorem dL_greatestBase_2 : decode (i_b iL_greatestBase) 2 = .ok (.iconst 0, 1) := by decide +kernel
theorem wL_greatestBase_2  (kk : QW V iL_greatestBase 3 [a0, a1, a2, a3, a4, a5] (.int (0) :: st) h z bc bs Kr Kx) : QW V iL_greatestBase 2 [a0, a1, a2, a3, a4, a5] (st) h z bc bs Kr Kx := q_iconst dL_greatestBase_2 (by decide) kk
theorem dL_greatestBase_3 : decode (i_b iL_greatestBase) 3 = .ok (.aload_n 0, 1) := by decide +kernel
theorem wL_greatestBase_3 {x : Nat} (kk : QW V iL_greatestBase 4 [some (.ref x), a1, a2, a3, a4, a5] (.ref x :: st) h z bc bs Kr Kx) : QW V iL_greatestBase 3 [some (.ref x), a1, a2, a3, a4, a5] (st) h z bc bs Kr Kx := q_aload_n dL_greatestBase_3 rfl rfl kk
theorem dL_greatestBase_4 : decode (i_b iL_greatestBase) 4 = .ok (.iload_n 1, 1) := by decide +kernel
theorem wL_greatestBase_4 {x : Int32} (kk : QW V iL_greatestBase 5 [a0, some (.int x), a2, a3, a4, a5] (.int x :: st) h z bc bs Kr Kx) : QW V iL_greatestBase 4 [a0, some (.int x), a2, a3, a4, a5] (st) h z bc bs Kr Kx := q_iload_n dL_greatestBase_4 rfl rfl kk
theorem dL_greatestBase_5 : decode (i_b iL_greatestBase) 5 = .ok (.iload_n 2, 1) := by decide +kernel
theorem wL_greatestBase_5 {x : Int32} (kk : QW V iL_greatestBase 6 [a0, a1, some (.int x), a3, a4, a5] (.int x :: st) h z bc bs Kr Kx) : QW V iL_greatestBase 5 [a0, a1, some (.int x), a3, a4, a5] (st) h z bc bs Kr Kx := q_iload_n dL_greatestBase_5 rfl rfl kk
theorem dL_greatestBase_6 : decode (i_b iL_greatestBase) 6 = .ok (.iload_n 3, 1) := by decide +kernel
theorem wL_greatestBase_6 {x : Int32} (kk : QW V iL_greatestBase 7 [a0, a1, a2, some (.int x), a4, a5] (.int x :: st) h z bc bs Kr Kx) : QW V iL_greatestBase 6 [a0, a1, a2, some (.int x), a4, a5] (st) h z bc bs Kr Kx := q_iload_n dL_greatestBase_6 rfl rfl kk
theorem dL_greatestBase_7 : decode (i_b iL_greatestBase) 7 = .ok (.invokevirtual 108, 3) := by decide +kernel
theorem wL_greatestBase_7 {a : Nat} {fs : List Value} {x0 : Int32} {x1 : Int32} {x2 : Int32} (hb : h a = some (.inr (9, fs))) (hm : QMi V iX8_greatestBase [.ref a, .int x0, .int x1, .int x2] h z (fun r h' z' => QW V iL_greatestBase 10 [a0, a1, a2, a3, a4, a5] (.int r :: st) h' z' bc bs Kr Kx) (fun E h2 => (E = "java/lang/IllegalStateException" ∧ ∀ q : Nat, QW V iL_greatestBase 15 [a0, a1, a2, a3, a4, a5] [.ref q] h2 none bc bs Kr Kx) ∨ (E = "java/lang/IllegalArgumentException" ∧ ∀ q : Nat, QW V iL_greatestBase 19 [a0, a1, a2, a3, a4, a5] [.ref q] h2 none bc bs Kr Kx))) (hW : (st.map fun v => v.category).sum ≤ 8 := by exact Nat.le_of_ble_eq_true rfl) : QW V iL_greatestBase 7 [a0, a1, a2, a3, a4, a5] (.int x2 :: .int x1 :: .int x0 :: .ref a :: st) h z (bc + 4) (bs + 24) Kr Kx := by
  refine q_callVX (y' := iX8_greatestBase) (As := [.int x0, .int x1, .int x2]) (rest := st) dL_greatestBase_7 k5_90 k5_91 k5_92 k1_1 hhX8_greatestBase rfl hdX8_greatestBase rfl rfl (Nat.le_of_ble_eq_true rfl) (Nat.le_of_ble_eq_true rfl) hW hb (fun E h2 => (E = "java/lang/IllegalStateException" ∧ ∀ q : Nat, QW V iL_greatestBase 15 [a0, a1, a2, a3, a4, a5] [.ref q] h2 none bc bs Kr Kx) ∨ (E = "java/lang/IllegalArgumentException" ∧ ∀ q : Nat, QW V iL_greatestBase 19 [a0, a1, a2, a3, a4, a5] [.ref q] h2 none bc bs Kr Kx)) (fun E h2 hK => ?_) (QMi.run hm)
  rcases hK with ⟨rfl, hq⟩ | ⟨rfl, hq⟩
  · exact ⟨[], [(0, 12, 19, 19)], (0, 12, 15, 13), rfl, (fun q hq => nomatch hq), by decide, by decide, k3_19, by decide +kernel, hq⟩
  · exact ⟨[(0, 12, 15, 13)], [], (0, 12, 19, 19), rfl, (by intro q hq; simp only [List.mem_cons, List.not_mem_nil, or_false] at hq; subst hq; exact ⟨by decide, "java/lang/IllegalStateException", k3_19, by decide +kernel⟩), by decide, by decide, k3_99, by decide +kernel, hq⟩
theorem dL_greatestBase_10 : decode (i_b iL_greatestBase) 10 = .ok (.i2l, 1) := by decide +kernel
theorem wL_greatestBase_10 {x : Int32} (kk : QW V iL_greatestBase 11 [a0, a1, a2, a3, a4, a5] (.long (x.toInt64) :: st) h z bc bs Kr Kx) : QW V iL_greatestBase 10 [a0, a1, a2, a3, a4, a5] (.int x :: st) h z bc bs Kr Kx := q_i2l dL_greatestBase_10 kk
theorem dL_greatestBase_11 : decode (i_b iL_greatestBase) 11 = .ok (.lastore, 1) := by decide +kernel
theorem wL_greatestBase_11 {a n j : Nat} {f : Nat → Int64} {i : Int32} {x : Int64} (ha : h a = some (.inl (2, n, .inr (.inl f)))) (hi : i = nI j) (hj : j < n) (hn : n < 2147483648) (kk : QW V iL_greatestBase 12 [a0, a1, a2, a3, a4, a5] (st) (q_up h a (.inl (2, n, .inr (.inl (vp_updL f j x))))) z bc bs Kr Kx) : QW V iL_greatestBase 11 [a0, a1, a2, a3, a4, a5] (.long x :: .int i :: .ref a :: st) h z bc bs Kr Kx := q_last dL_greatestBase_11 ha hi hj hn kk
theorem wL_greatestBase_11u {a n j : Nat} {f : Nat → Int64} {i : Int32} {x : Int64} (hi : i = nI j) (hj : j < n) (hn : n < 2147483648) (kk : QW V iL_greatestBase 12 [a0, a1, a2, a3, a4, a5] (st) (q_up h a (.inl (2, n, .inr (.inl (vp_updL f j x))))) z bc bs Kr Kx) : QW V iL_greatestBase 11 [a0, a1, a2, a3, a4, a5] (.long x :: .int i :: .ref a :: st) (q_up h a (.inl (2, n, .inr (.inl f)))) z bc bs Kr Kx := wL_greatestBase_11 q_up_s hi hj hn (by rw [q_up_u]; exact kk)
theorem dL_greatestBase_12 : decode (i_b iL_greatestBase) 12 = .ok (.goto 11, 3) := by decide +kernel
theorem wL_greatestBase_12  (kk : QW V iL_greatestBase 23 [a0, a1, a2, a3, a4, a5] (st) h z bc bs Kr Kx) : QW V iL_greatestBase 12 [a0, a1, a2, a3, a4, a5] (st) h z bc bs Kr Kx := q_goto dL_greatestBase_12 (by decide) kk
theorem dL_greatestBase_15 : decode (i_b iL_greatestBase) 15 = .ok (.astore 5, 2) := by decide +kernel
theorem wL_greatestBase_15 {x : Nat} (kk : QW V iL_greatestBase 17 [a0, a1, a2, a3, a4, some (.ref x)] (st) h z bc bs Kr Kx) (hp : q_n2 a4 = true := by rfl) : QW V iL_greatestBase 15 [a0, a1, a2, a3, a4, a5] (.ref x :: st) h z bc bs Kr Kx := q_astore dL_greatestBase_15 (Nat.le_of_ble_eq_true rfl) hp kk
theorem dL_greatestBase_17 : decode (i_b iL_greatestBase) 17 = .ok (.iconst 1, 1) := by decide +kernel
theorem wL_greatestBase_17  (kk : QW V iL_greatestBase 18 [a0, a1, a2, a3, a4, a5] (.int (1) :: st) h z bc bs Kr Kx) : QW V iL_greatestBase 17 [a0, a1, a2, a3, a4, a5] (st) h z bc bs Kr Kx := q_iconst dL_greatestBase_17 (by decide) kk
theorem dL_greatestBase_18 : decode (i_b iL_greatestBase) 18 = .ok (.ireturn, 1) := by decide +kernel
theorem wL_greatestBase_18 {x : Int32} {P : Int32 → q_H → Option Nat → Prop} (hk : P x h z) : QW V iL_greatestBase 18 [a0, a1, a2, a3, a4, a5] [.int x] h z bc bs (q_Ki P) Kx := q_iret dL_greatestBase_18 rfl rfl ⟨x, rfl, hk⟩
theorem dL_greatestBase_19 : decode (i_b iL_greatestBase) 19 = .ok (.astore 5, 2) := by decide +kernel
theorem wL_greatestBase_19 {x : Nat} (kk : QW V iL_greatestBase 21 [a0, a1, a2, a3, a4, some (.ref x)] (st) h z bc bs Kr Kx) (hp : q_n2 a4 = true := by rfl) : QW V iL_greatestBase 19 [a0, a1, a2, a3, a4, a5] (.ref x :: st) h z bc bs Kr Kx := q_astore dL_greatestBase_19 (Nat.le_of_ble_eq_true rfl) hp kk
theorem dL_greatestBase_21 : decode (i_b iL_greatestBase) 21 = .ok (.iconst 2, 1) := by decide +kernel
theorem wL_greatestBase_21  (kk : QW V iL_greatestBase 22 [a0, a1, a2, a3, a4, a5] (.int (2) :: st) h z bc bs Kr Kx) : QW V iL_greatestBase 21 [a0, a1, a2, a3, a4, a5] (st) h z bc bs Kr Kx := q_iconst dL_greatestBase_21 (by decide) kk
theorem dL_greatestBase_22 : decode (i_b iL_greatestBase) 22 = .ok (.ireturn, 1) := by decide +kernel
theorem wL_greatestBase_22 {x : Int32} {P : Int32 → q_H → Option Nat → Prop} (hk : P x h z) : QW V iL_greatestBase 22 [a0, a1, a2, a3, a4, a5] [.int x] h z bc bs (q_Ki P) Kx := q_iret dL_greatestBase_22 rfl rfl ⟨x, rfl, hk⟩
theorem dL_greatestBase_23 : decode (i_b iL_greatestBase) 23 = .ok (.iconst 0, 1) := by decide +kernel
theorem wL_greatestBase_23  (kk : QW V iL_greatestBase 24 [a0, a1, a2, a3, a4, a5] (.int (0) :: st) h z bc bs Kr Kx) : QW V iL_greatestBase 23 [a0, a1, a2, a3, a4, a5] (st) h z bc bs Kr Kx := q_iconst dL_greatestBase_23 (by decide) kk
theorem dL_greatestBase_24 : decode (i_b iL_greatestBase) 24 = .ok (.ireturn, 1) := by decide +kernel
theorem wL_greatestBase_24 {x : Int32} {P : Int32 → q_H → Option Nat → Prop} (hk : P x h z) : QW V iL_greatestBase 24 [a0, a1, a2, a3, a4, a5] [.int x] h z bc bs (q_Ki P) Kx := q_iret dL_greatestBase_24 rfl rfl ⟨x, rfl, hk⟩
theorem eL_releaseCost {x0 : Nat} {x1 : Int32} {x2 : Int32} {x3 : Int32} {x4 : Nat} {P : Int32 → q_H → Option Nat → Prop} (kk : QW V iL_releaseCost 0 [some (.ref x0), some (.int x1), some (.int x2), some (.int x3), some (.ref x4), none] [] h z 3 18 (q_Ki P) Kx) : QMi V iL_releaseCost [.ref x0, .int x1, .int x2, .int x3, .ref x4] h z P Kx := q_enterH (by decide) (by decide +kernel) rfl (Nat.le_of_ble_eq_true rfl) kk
theorem dL_releaseCost_0 : decode (i_b iL_releaseCost) 0 = .ok (.aload 4, 2) := by decide +kernel
theorem wL_releaseCost_0 {x : Nat} (kk : QW V iL_releaseCost 2 [a0, a1, a2, a3, some (.ref x), a5] (.ref x :: st) h z bc bs Kr Kx) : QW V iL_releaseCost 0 [a0, a1, a2, a3, some (.ref x), a5] (st) h z bc bs Kr Kx := q_aload dL_releaseCost_0 rfl kk
theorem dL_releaseCost_2 : decode (i_b iL_releaseCost) 2 = .ok (.iconst 0, 1) := by decide +kernel
theorem wL_releaseCost_2  (kk : QW V iL_releaseCost 3 [a0, a1, a2, a3, a4, a5] (.int (0) :: st) h z bc bs Kr Kx) : QW V iL_releaseCost 2 [a0, a1, a2, a3, a4, a5] (st) h z bc bs Kr Kx := q_iconst dL_releaseCost_2 (by decide) kk
theorem dL_releaseCost_3 : decode (i_b iL_releaseCost) 3 = .ok (.aload_n 0, 1) := by decide +kernel
theorem wL_releaseCost_3 {x : Nat} (kk : QW V iL_releaseCost 4 [some (.ref x), a1, a2, a3, a4, a5] (.ref x :: st) h z bc bs Kr Kx) : QW V iL_releaseCost 3 [some (.ref x), a1, a2, a3, a4, a5] (st) h z bc bs Kr Kx := q_aload_n dL_releaseCost_3 rfl rfl kk
theorem dL_releaseCost_4 : decode (i_b iL_releaseCost) 4 = .ok (.iload_n 1, 1) := by decide +kernel
theorem wL_releaseCost_4 {x : Int32} (kk : QW V iL_releaseCost 5 [a0, some (.int x), a2, a3, a4, a5] (.int x :: st) h z bc bs Kr Kx) : QW V iL_releaseCost 4 [a0, some (.int x), a2, a3, a4, a5] (st) h z bc bs Kr Kx := q_iload_n dL_releaseCost_4 rfl rfl kk
theorem dL_releaseCost_5 : decode (i_b iL_releaseCost) 5 = .ok (.iload_n 2, 1) := by decide +kernel
theorem wL_releaseCost_5 {x : Int32} (kk : QW V iL_releaseCost 6 [a0, a1, some (.int x), a3, a4, a5] (.int x :: st) h z bc bs Kr Kx) : QW V iL_releaseCost 5 [a0, a1, some (.int x), a3, a4, a5] (st) h z bc bs Kr Kx := q_iload_n dL_releaseCost_5 rfl rfl kk
theorem dL_releaseCost_6 : decode (i_b iL_releaseCost) 6 = .ok (.iload_n 3, 1) := by decide +kernel
theorem wL_releaseCost_6 {x : Int32} (kk : QW V iL_releaseCost 7 [a0, a1, a2, some (.int x), a4, a5] (.int x :: st) h z bc bs Kr Kx) : QW V iL_releaseCost 6 [a0, a1, a2, some (.int x), a4, a5] (st) h z bc bs Kr Kx := q_iload_n dL_releaseCost_6 rfl rfl kk
theorem dL_releaseCost_7 : decode (i_b iL_releaseCost) 7 = .ok (.invokevirtual 111, 3) := by decide +kernel
theorem wL_releaseCost_7 {a : Nat} {fs : List Value} {x0 : Int32} {x1 : Int32} {x2 : Int32} (hb : h a = some (.inr (9, fs))) (hm : QMi V iX8_releaseCost [.ref a, .int x0, .int x1, .int x2] h z (fun r h' z' => QW V iL_releaseCost 10 [a0, a1, a2, a3, a4, a5] (.int r :: st) h' z' bc bs Kr Kx) (fun E h2 => (E = "java/lang/IllegalStateException" ∧ ∀ q : Nat, QW V iL_releaseCost 15 [a0, a1, a2, a3, a4, a5] [.ref q] h2 none bc bs Kr Kx) ∨ (E = "java/lang/IllegalArgumentException" ∧ ∀ q : Nat, QW V iL_releaseCost 19 [a0, a1, a2, a3, a4, a5] [.ref q] h2 none bc bs Kr Kx))) (hW : (st.map fun v => v.category).sum ≤ 8 := by exact Nat.le_of_ble_eq_true rfl) : QW V iL_releaseCost 7 [a0, a1, a2, a3, a4, a5] (.int x2 :: .int x1 :: .int x0 :: .ref a :: st) h z (bc + 3) (bs + 18) Kr Kx := by
  refine q_callVX (y' := iX8_releaseCost) (As := [.int x0, .int x1, .int x2]) (rest := st) dL_releaseCost_7 k5_98 k5_99 k5_100 k1_1 hhX8_releaseCost rfl hdX8_releaseCost rfl rfl (Nat.le_of_ble_eq_true rfl) (Nat.le_of_ble_eq_true rfl) hW hb (fun E h2 => (E = "java/lang/IllegalStateException" ∧ ∀ q : Nat, QW V iL_releaseCost 15 [a0, a1, a2, a3, a4, a5] [.ref q] h2 none bc bs Kr Kx) ∨ (E = "java/lang/IllegalArgumentException" ∧ ∀ q : Nat, QW V iL_releaseCost 19 [a0, a1, a2, a3, a4, a5] [.ref q] h2 none bc bs Kr Kx)) (fun E h2 hK => ?_) (QMi.run hm)
  rcases hK with ⟨rfl, hq⟩ | ⟨rfl, hq⟩
  · exact ⟨[], [(0, 12, 19, 19)], (0, 12, 15, 13), rfl, (fun q hq => nomatch hq), by decide, by decide, k3_19, by decide +kernel, hq⟩
  · exact ⟨[(0, 12, 15, 13)], [], (0, 12, 19, 19), rfl, (by intro q hq; simp only [List.mem_cons, List.not_mem_nil, or_false] at hq; subst hq; exact ⟨by decide, "java/lang/IllegalStateException", k3_19, by decide +kernel⟩), by decide, by decide, k3_99, by decide +kernel, hq⟩
theorem dL_releaseCost_10 : decode (i_b iL_releaseCost) 10 = .ok (.i2l, 1) := by decide +kernel
theorem wL_releaseCost_10 {x : Int32} (kk : QW V iL_releaseCost 11 [a0, a1, a2, a3, a4, a5] (.long (x.toInt64) :: st) h z bc bs Kr Kx) : QW V iL_releaseCost 10 [a0, a1, a2, a3, a4, a5] (.int x :: st) h z bc bs Kr Kx := q_i2l dL_releaseCost_10 kk
theorem dL_releaseCost_11 : decode (i_b iL_releaseCost) 11 = .ok (.lastore, 1) := by decide +kernel
theorem wL_releaseCost_11 {a n j : Nat} {f : Nat → Int64} {i : Int32} {x : Int64} (ha : h a = some (.inl (2, n, .inr (.inl f)))) (hi : i = nI j) (hj : j < n) (hn : n < 2147483648) (kk : QW V iL_releaseCost 12 [a0, a1, a2, a3, a4, a5] (st) (q_up h a (.inl (2, n, .inr (.inl (vp_updL f j x))))) z bc bs Kr Kx) : QW V iL_releaseCost 11 [a0, a1, a2, a3, a4, a5] (.long x :: .int i :: .ref a :: st) h z bc bs Kr Kx := q_last dL_releaseCost_11 ha hi hj hn kk
theorem wL_releaseCost_11u {a n j : Nat} {f : Nat → Int64} {i : Int32} {x : Int64} (hi : i = nI j) (hj : j < n) (hn : n < 2147483648) (kk : QW V iL_releaseCost 12 [a0, a1, a2, a3, a4, a5] (st) (q_up h a (.inl (2, n, .inr (.inl (vp_updL f j x))))) z bc bs Kr Kx) : QW V iL_releaseCost 11 [a0, a1, a2, a3, a4, a5] (.long x :: .int i :: .ref a :: st) (q_up h a (.inl (2, n, .inr (.inl f)))) z bc bs Kr Kx := wL_releaseCost_11 q_up_s hi hj hn (by rw [q_up_u]; exact kk)
theorem dL_releaseCost_12 : decode (i_b iL_releaseCost) 12 = .ok (.goto 11, 3) := by decide +kernel
theorem wL_releaseCost_12  (kk : QW V iL_releaseCost 23 [a0, a1, a2, a3, a4, a5] (st) h z bc bs Kr Kx) : QW V iL_releaseCost 12 [a0, a1, a2, a3, a4, a5] (st) h z bc bs Kr Kx := q_goto dL_releaseCost_12 (by decide) kk
theorem dL_releaseCost_15 : decode (i_b iL_releaseCost) 15 = .ok (.astore 5, 2) := by decide +kernel
theorem wL_releaseCost_15 {x : Nat} (kk : QW V iL_releaseCost 17 [a0, a1, a2, a3, a4, some (.ref x)] (st) h z bc bs Kr Kx) (hp : q_n2 a4 = true := by rfl) : QW V iL_releaseCost 15 [a0, a1, a2, a3, a4, a5] (.ref x :: st) h z bc bs Kr Kx := q_astore dL_releaseCost_15 (Nat.le_of_ble_eq_true rfl) hp kk
theorem dL_releaseCost_17 : decode (i_b iL_releaseCost) 17 = .ok (.iconst 1, 1) := by decide +kernel
theorem wL_releaseCost_17  (kk : QW V iL_releaseCost 18 [a0, a1, a2, a3, a4, a5] (.int (1) :: st) h z bc bs Kr Kx) : QW V iL_releaseCost 17 [a0, a1, a2, a3, a4, a5] (st) h z bc bs Kr Kx := q_iconst dL_releaseCost_17 (by decide) kk
theorem dL_releaseCost_18 : decode (i_b iL_releaseCost) 18 = .ok (.ireturn, 1) := by decide +kernel
theorem wL_releaseCost_18 {x : Int32} {P : Int32 → q_H → Option Nat → Prop} (hk : P x h z) : QW V iL_releaseCost 18 [a0, a1, a2, a3, a4, a5] [.int x] h z bc bs (q_Ki P) Kx := q_iret dL_releaseCost_18 rfl rfl ⟨x, rfl, hk⟩
theorem dL_releaseCost_19 : decode (i_b iL_releaseCost) 19 = .ok (.astore 5, 2) := by decide +kernel
theorem wL_releaseCost_19 {x : Nat} (kk : QW V iL_releaseCost 21 [a0, a1, a2, a3, a4, some (.ref x)] (st) h z bc bs Kr Kx) (hp : q_n2 a4 = true := by rfl) : QW V iL_releaseCost 19 [a0, a1, a2, a3, a4, a5] (.ref x :: st) h z bc bs Kr Kx := q_astore dL_releaseCost_19 (Nat.le_of_ble_eq_true rfl) hp kk
theorem dL_releaseCost_21 : decode (i_b iL_releaseCost) 21 = .ok (.iconst 2, 1) := by decide +kernel
theorem wL_releaseCost_21  (kk : QW V iL_releaseCost 22 [a0, a1, a2, a3, a4, a5] (.int (2) :: st) h z bc bs Kr Kx) : QW V iL_releaseCost 21 [a0, a1, a2, a3, a4, a5] (st) h z bc bs Kr Kx := q_iconst dL_releaseCost_21 (by decide) kk
theorem dL_releaseCost_22 : decode (i_b iL_releaseCost) 22 = .ok (.ireturn, 1) := by decide +kernel
theorem wL_releaseCost_22 {x : Int32} {P : Int32 → q_H → Option Nat → Prop} (hk : P x h z) : QW V iL_releaseCost 22 [a0, a1, a2, a3, a4, a5] [.int x] h z bc bs (q_Ki P) Kx := q_iret dL_releaseCost_22 rfl rfl ⟨x, rfl, hk⟩
theorem dL_releaseCost_23 : decode (i_b iL_releaseCost) 23 = .ok (.iconst 0, 1) := by decide +kernel
theorem wL_releaseCost_23  (kk : QW V iL_releaseCost 24 [a0, a1, a2, a3, a4, a5] (.int (0) :: st) h z bc bs Kr Kx) : QW V iL_releaseCost 23 [a0, a1, a2, a3, a4, a5] (st) h z bc bs Kr Kx := q_iconst dL_releaseCost_23 (by decide) kk
theorem dL_releaseCost_24 : decode (i_b iL_releaseCost) 24 = .ok (.ireturn, 1) := by decide +kernel
theorem wL_releaseCost_24 {x : Int32} {P : Int32 → q_H → Option Nat → Prop} (hk : P x h z) : QW V iL_releaseCost 24 [a0, a1, a2, a3, a4, a5] [.int x] h z bc bs (q_Ki P) Kx := q_iret dL_releaseCost_24 rfl rfl ⟨x, rfl, hk⟩
theorem eL_releaseGain {x0 : Nat} {x1 : Int32} {x2 : Int32} {x3 : Nat} {P : Int32 → q_H → Option Nat → Prop} (kk : QW V iL_releaseGain 0 [some (.ref x0), some (.int x1), some (.int x2), some (.ref x3), none] [] h z 2 12 (q_Ki P) Kx) : QMi V iL_releaseGain [.ref x0, .int x1, .int x2, .ref x3] h z P Kx := q_enterH (by decide) (by decide +kernel) rfl (Nat.le_of_ble_eq_true rfl) kk
theorem dL_releaseGain_0 : decode (i_b iL_releaseGain) 0 = .ok (.aload_n 3, 1) := by decide +kernel
theorem wL_releaseGain_0 {x : Nat} (kk : QW V iL_releaseGain 1 [a0, a1, a2, some (.ref x), a4] (.ref x :: st) h z bc bs Kr Kx) : QW V iL_releaseGain 0 [a0, a1, a2, some (.ref x), a4] (st) h z bc bs Kr Kx := q_aload_n dL_releaseGain_0 rfl rfl kk
theorem dL_releaseGain_1 : decode (i_b iL_releaseGain) 1 = .ok (.iconst 0, 1) := by decide +kernel
theorem wL_releaseGain_1  (kk : QW V iL_releaseGain 2 [a0, a1, a2, a3, a4] (.int (0) :: st) h z bc bs Kr Kx) : QW V iL_releaseGain 1 [a0, a1, a2, a3, a4] (st) h z bc bs Kr Kx := q_iconst dL_releaseGain_1 (by decide) kk
theorem dL_releaseGain_2 : decode (i_b iL_releaseGain) 2 = .ok (.aload_n 0, 1) := by decide +kernel
theorem wL_releaseGain_2 {x : Nat} (kk : QW V iL_releaseGain 3 [some (.ref x), a1, a2, a3, a4] (.ref x :: st) h z bc bs Kr Kx) : QW V iL_releaseGain 2 [some (.ref x), a1, a2, a3, a4] (st) h z bc bs Kr Kx := q_aload_n dL_releaseGain_2 rfl rfl kk
theorem dL_releaseGain_3 : decode (i_b iL_releaseGain) 3 = .ok (.iload_n 1, 1) := by decide +kernel
theorem wL_releaseGain_3 {x : Int32} (kk : QW V iL_releaseGain 4 [a0, some (.int x), a2, a3, a4] (.int x :: st) h z bc bs Kr Kx) : QW V iL_releaseGain 3 [a0, some (.int x), a2, a3, a4] (st) h z bc bs Kr Kx := q_iload_n dL_releaseGain_3 rfl rfl kk
theorem dL_releaseGain_4 : decode (i_b iL_releaseGain) 4 = .ok (.iload_n 2, 1) := by decide +kernel
theorem wL_releaseGain_4 {x : Int32} (kk : QW V iL_releaseGain 5 [a0, a1, some (.int x), a3, a4] (.int x :: st) h z bc bs Kr Kx) : QW V iL_releaseGain 4 [a0, a1, some (.int x), a3, a4] (st) h z bc bs Kr Kx := q_iload_n dL_releaseGain_4 rfl rfl kk
theorem dL_releaseGain_5 : decode (i_b iL_releaseGain) 5 = .ok (.invokevirtual 115, 3) := by decide +kernel
theorem wL_releaseGain_5 {a : Nat} {fs : List Value} {x0 : Int32} {x1 : Int32} (hb : h a = some (.inr (9, fs))) (hm : QMi V iX8_releaseGain [.ref a, .int x0, .int x1] h z (fun r h' z' => QW V iL_releaseGain 8 [a0, a1, a2, a3, a4] (.int r :: st) h' z' bc bs Kr Kx) (fun E h2 => (E = "java/lang/IllegalStateException" ∧ ∀ q : Nat, QW V iL_releaseGain 13 [a0, a1, a2, a3, a4] [.ref q] h2 none bc bs Kr Kx) ∨ (E = "java/lang/IllegalArgumentException" ∧ ∀ q : Nat, QW V iL_releaseGain 17 [a0, a1, a2, a3, a4] [.ref q] h2 none bc bs Kr Kx))) (hW : (st.map fun v => v.category).sum ≤ 8 := by exact Nat.le_of_ble_eq_true rfl) : QW V iL_releaseGain 5 [a0, a1, a2, a3, a4] (.int x1 :: .int x0 :: .ref a :: st) h z (bc + 2) (bs + 12) Kr Kx := by
  refine q_callVX (y' := iX8_releaseGain) (As := [.int x0, .int x1]) (rest := st) dL_releaseGain_5 k5_106 k5_107 k5_108 k1_1 hhX8_releaseGain rfl hdX8_releaseGain rfl rfl (Nat.le_of_ble_eq_true rfl) (Nat.le_of_ble_eq_true rfl) hW hb (fun E h2 => (E = "java/lang/IllegalStateException" ∧ ∀ q : Nat, QW V iL_releaseGain 13 [a0, a1, a2, a3, a4] [.ref q] h2 none bc bs Kr Kx) ∨ (E = "java/lang/IllegalArgumentException" ∧ ∀ q : Nat, QW V iL_releaseGain 17 [a0, a1, a2, a3, a4] [.ref q] h2 none bc bs Kr Kx)) (fun E h2 hK => ?_) (QMi.run hm)
  rcases hK with ⟨rfl, hq⟩ | ⟨rfl, hq⟩
  · exact ⟨[], [(0, 10, 17, 19)], (0, 10, 13, 13), rfl, (fun q hq => nomatch hq), by decide, by decide, k3_19, by decide +kernel, hq⟩
  · exact ⟨[(0, 10, 13, 13)], [], (0, 10, 17, 19), rfl, (by intro q hq; simp only [List.mem_cons, List.not_mem_nil, or_false] at hq; subst hq; exact ⟨by decide, "java/lang/IllegalStateException", k3_19, by decide +kernel⟩), by decide, by decide, k3_99, by decide +kernel, hq⟩
theorem dL_releaseGain_8 : decode (i_b iL_releaseGain) 8 = .ok (.i2l, 1) := by decide +kernel
theorem wL_releaseGain_8 {x : Int32} (kk : QW V iL_releaseGain 9 [a0, a1, a2, a3, a4] (.long (x.toInt64) :: st) h z bc bs Kr Kx) : QW V iL_releaseGain 8 [a0, a1, a2, a3, a4] (.int x :: st) h z bc bs Kr Kx := q_i2l dL_releaseGain_8 kk
theorem dL_releaseGain_9 : decode (i_b iL_releaseGain) 9 = .ok (.lastore, 1) := by decide +kernel
theorem wL_releaseGain_9 {a n j : Nat} {f : Nat → Int64} {i : Int32} {x : Int64} (ha : h a = some (.inl (2, n, .inr (.inl f)))) (hi : i = nI j) (hj : j < n) (hn : n < 2147483648) (kk : QW V iL_releaseGain 10 [a0, a1, a2, a3, a4] (st) (q_up h a (.inl (2, n, .inr (.inl (vp_updL f j x))))) z bc bs Kr Kx) : QW V iL_releaseGain 9 [a0, a1, a2, a3, a4] (.long x :: .int i :: .ref a :: st) h z bc bs Kr Kx := q_last dL_releaseGain_9 ha hi hj hn kk
theorem wL_releaseGain_9u {a n j : Nat} {f : Nat → Int64} {i : Int32} {x : Int64} (hi : i = nI j) (hj : j < n) (hn : n < 2147483648) (kk : QW V iL_releaseGain 10 [a0, a1, a2, a3, a4] (st) (q_up h a (.inl (2, n, .inr (.inl (vp_updL f j x))))) z bc bs Kr Kx) : QW V iL_releaseGain 9 [a0, a1, a2, a3, a4] (.long x :: .int i :: .ref a :: st) (q_up h a (.inl (2, n, .inr (.inl f)))) z bc bs Kr Kx := wL_releaseGain_9 q_up_s hi hj hn (by rw [q_up_u]; exact kk)
theorem dL_releaseGain_10 : decode (i_b iL_releaseGain) 10 = .ok (.goto 11, 3) := by decide +kernel
theorem wL_releaseGain_10  (kk : QW V iL_releaseGain 21 [a0, a1, a2, a3, a4] (st) h z bc bs Kr Kx) : QW V iL_releaseGain 10 [a0, a1, a2, a3, a4] (st) h z bc bs Kr Kx := q_goto dL_releaseGain_10 (by decide) kk
theorem dL_releaseGain_13 : decode (i_b iL_releaseGain) 13 = .ok (.astore 4, 2) := by decide +kernel
theorem wL_releaseGain_13 {x : Nat} (kk : QW V iL_releaseGain 15 [a0, a1, a2, a3, some (.ref x)] (st) h z bc bs Kr Kx) (hp : q_n2 a3 = true := by rfl) : QW V iL_releaseGain 13 [a0, a1, a2, a3, a4] (.ref x :: st) h z bc bs Kr Kx := q_astore dL_releaseGain_13 (Nat.le_of_ble_eq_true rfl) hp kk
theorem dL_releaseGain_15 : decode (i_b iL_releaseGain) 15 = .ok (.iconst 1, 1) := by decide +kernel
theorem wL_releaseGain_15  (kk : QW V iL_releaseGain 16 [a0, a1, a2, a3, a4] (.int (1) :: st) h z bc bs Kr Kx) : QW V iL_releaseGain 15 [a0, a1, a2, a3, a4] (st) h z bc bs Kr Kx := q_iconst dL_releaseGain_15 (by decide) kk
theorem dL_releaseGain_16 : decode (i_b iL_releaseGain) 16 = .ok (.ireturn, 1) := by decide +kernel
theorem wL_releaseGain_16 {x : Int32} {P : Int32 → q_H → Option Nat → Prop} (hk : P x h z) : QW V iL_releaseGain 16 [a0, a1, a2, a3, a4] [.int x] h z bc bs (q_Ki P) Kx := q_iret dL_releaseGain_16 rfl rfl ⟨x, rfl, hk⟩
theorem dL_releaseGain_17 : decode (i_b iL_releaseGain) 17 = .ok (.astore 4, 2) := by decide +kernel
theorem wL_releaseGain_17 {x : Nat} (kk : QW V iL_releaseGain 19 [a0, a1, a2, a3, some (.ref x)] (st) h z bc bs Kr Kx) (hp : q_n2 a3 = true := by rfl) : QW V iL_releaseGain 17 [a0, a1, a2, a3, a4] (.ref x :: st) h z bc bs Kr Kx := q_astore dL_releaseGain_17 (Nat.le_of_ble_eq_true rfl) hp kk
theorem dL_releaseGain_19 : decode (i_b iL_releaseGain) 19 = .ok (.iconst 2, 1) := by decide +kernel
theorem wL_releaseGain_19  (kk : QW V iL_releaseGain 20 [a0, a1, a2, a3, a4] (.int (2) :: st) h z bc bs Kr Kx) : QW V iL_releaseGain 19 [a0, a1, a2, a3, a4] (st) h z bc bs Kr Kx := q_iconst dL_releaseGain_19 (by decide) kk
theorem dL_releaseGain_20 : decode (i_b iL_releaseGain) 20 = .ok (.ireturn, 1) := by decide +kernel
theorem wL_releaseGain_20 {x : Int32} {P : Int32 → q_H → Option Nat → Prop} (hk : P x h z) : QW V iL_releaseGain 20 [a0, a1, a2, a3, a4] [.int x] h z bc bs (q_Ki P) Kx := q_iret dL_releaseGain_20 rfl rfl ⟨x, rfl, hk⟩
theorem dL_releaseGain_21 : decode (i_b iL_releaseGain) 21 = .ok (.iconst 0, 1) := by decide +kernel
theorem wL_releaseGain_21  (kk : QW V iL_releaseGain 22 [a0, a1, a2, a3, a4] (.int (0) :: st) h z bc bs Kr Kx) : QW V iL_releaseGain 21 [a0, a1, a2, a3, a4] (st) h z bc bs Kr Kx := q_iconst dL_releaseGain_21 (by decide) kk
theorem dL_releaseGain_22 : decode (i_b iL_releaseGain) 22 = .ok (.ireturn, 1) := by decide +kernel
theorem wL_releaseGain_22 {x : Int32} {P : Int32 → q_H → Option Nat → Prop} (hk : P x h z) : QW V iL_releaseGain 22 [a0, a1, a2, a3, a4] [.int x] h z bc bs (q_Ki P) Kx := q_iret dL_releaseGain_22 rfl rfl ⟨x, rfl, hk⟩
theorem eL_fewestReleases {x0 : Nat} {x1 : Int32} {x2 : Nat} {P : Int32 → q_H → Option Nat → Prop} (kk : QW V iL_fewestReleases 0 [some (.ref x0), some (.int x1), some (.ref x2), none] [] h z 2 12 (q_Ki P) Kx) : QMi V iL_fewestReleases [.ref x0, .int x1, .ref x2] h z P Kx := q_enterH (by decide) (by decide +kernel) rfl (Nat.le_of_ble_eq_true rfl) kk
theorem dL_fewestReleases_0 : decode (i_b iL_fewestReleases) 0 = .ok (.aload_n 2, 1) := by decide +kernel
theorem wL_fewestReleases_0 {x : Nat} (kk : QW V iL_fewestReleases 1 [a0, a1, some (.ref x), a3] (.ref x :: st) h z bc bs Kr Kx) : QW V iL_fewestReleases 0 [a0, a1, some (.ref x), a3] (st) h z bc bs Kr Kx := q_aload_n dL_fewestReleases_0 rfl rfl kk
theorem dL_fewestReleases_1 : decode (i_b iL_fewestReleases) 1 = .ok (.iconst 0, 1) := by decide +kernel
theorem wL_fewestReleases_1  (kk : QW V iL_fewestReleases 2 [a0, a1, a2, a3] (.int (0) :: st) h z bc bs Kr Kx) : QW V iL_fewestReleases 1 [a0, a1, a2, a3] (st) h z bc bs Kr Kx := q_iconst dL_fewestReleases_1 (by decide) kk
theorem dL_fewestReleases_2 : decode (i_b iL_fewestReleases) 2 = .ok (.aload_n 0, 1) := by decide +kernel
theorem wL_fewestReleases_2 {x : Nat} (kk : QW V iL_fewestReleases 3 [some (.ref x), a1, a2, a3] (.ref x :: st) h z bc bs Kr Kx) : QW V iL_fewestReleases 2 [some (.ref x), a1, a2, a3] (st) h z bc bs Kr Kx := q_aload_n dL_fewestReleases_2 rfl rfl kk
theorem dL_fewestReleases_3 : decode (i_b iL_fewestReleases) 3 = .ok (.iload_n 1, 1) := by decide +kernel
theorem wL_fewestReleases_3 {x : Int32} (kk : QW V iL_fewestReleases 4 [a0, some (.int x), a2, a3] (.int x :: st) h z bc bs Kr Kx) : QW V iL_fewestReleases 3 [a0, some (.int x), a2, a3] (st) h z bc bs Kr Kx := q_iload_n dL_fewestReleases_3 rfl rfl kk
theorem dL_fewestReleases_4 : decode (i_b iL_fewestReleases) 4 = .ok (.invokevirtual 118, 3) := by decide +kernel
theorem wL_fewestReleases_4 {a : Nat} {fs : List Value} {x0 : Int32} (hb : h a = some (.inr (9, fs))) (hm : QMi V iX8_fewestReleases [.ref a, .int x0] h z (fun r h' z' => QW V iL_fewestReleases 7 [a0, a1, a2, a3] (.int r :: st) h' z' bc bs Kr Kx) (fun E h2 => (E = "java/lang/IllegalStateException" ∧ ∀ q : Nat, QW V iL_fewestReleases 12 [a0, a1, a2, a3] [.ref q] h2 none bc bs Kr Kx) ∨ (E = "java/lang/IllegalArgumentException" ∧ ∀ q : Nat, QW V iL_fewestReleases 15 [a0, a1, a2, a3] [.ref q] h2 none bc bs Kr Kx))) (hW : (st.map fun v => v.category).sum ≤ 8 := by exact Nat.le_of_ble_eq_true rfl) : QW V iL_fewestReleases 4 [a0, a1, a2, a3] (.int x0 :: .ref a :: st) h z (bc + 2) (bs + 12) Kr Kx := by
  refine q_callVX (y' := iX8_fewestReleases) (As := [.int x0]) (rest := st) dL_fewestReleases_4 k5_119 k5_120 k5_121 k1_1 hhX8_fewestReleases rfl hdX8_fewestReleases rfl rfl (Nat.le_of_ble_eq_true rfl) (Nat.le_of_ble_eq_true rfl) hW hb (fun E h2 => (E = "java/lang/IllegalStateException" ∧ ∀ q : Nat, QW V iL_fewestReleases 12 [a0, a1, a2, a3] [.ref q] h2 none bc bs Kr Kx) ∨ (E = "java/lang/IllegalArgumentException" ∧ ∀ q : Nat, QW V iL_fewestReleases 15 [a0, a1, a2, a3] [.ref q] h2 none bc bs Kr Kx)) (fun E h2 hK => ?_) (QMi.run hm)
  rcases hK with ⟨rfl, hq⟩ | ⟨rfl, hq⟩
  · exact ⟨[], [(0, 9, 15, 19)], (0, 9, 12, 13), rfl, (fun q hq => nomatch hq), by decide, by decide, k3_19, by decide +kernel, hq⟩
  · exact ⟨[(0, 9, 12, 13)], [], (0, 9, 15, 19), rfl, (by intro q hq; simp only [List.mem_cons, List.not_mem_nil, or_false] at hq; subst hq; exact ⟨by decide, "java/lang/IllegalStateException", k3_19, by decide +kernel⟩), by decide, by decide, k3_99, by decide +kernel, hq⟩
theorem dL_fewestReleases_7 : decode (i_b iL_fewestReleases) 7 = .ok (.i2l, 1) := by decide +kernel
theorem wL_fewestReleases_7 {x : Int32} (kk : QW V iL_fewestReleases 8 [a0, a1, a2, a3] (.long (x.toInt64) :: st) h z bc bs Kr Kx) : QW V iL_fewestReleases 7 [a0, a1, a2, a3] (.int x :: st) h z bc bs Kr Kx := q_i2l dL_fewestReleases_7 kk
theorem dL_fewestReleases_8 : decode (i_b iL_fewestReleases) 8 = .ok (.lastore, 1) := by decide +kernel
theorem wL_fewestReleases_8 {a n j : Nat} {f : Nat → Int64} {i : Int32} {x : Int64} (ha : h a = some (.inl (2, n, .inr (.inl f)))) (hi : i = nI j) (hj : j < n) (hn : n < 2147483648) (kk : QW V iL_fewestReleases 9 [a0, a1, a2, a3] (st) (q_up h a (.inl (2, n, .inr (.inl (vp_updL f j x))))) z bc bs Kr Kx) : QW V iL_fewestReleases 8 [a0, a1, a2, a3] (.long x :: .int i :: .ref a :: st) h z bc bs Kr Kx := q_last dL_fewestReleases_8 ha hi hj hn kk
theorem wL_fewestReleases_8u {a n j : Nat} {f : Nat → Int64} {i : Int32} {x : Int64} (hi : i = nI j) (hj : j < n) (hn : n < 2147483648) (kk : QW V iL_fewestReleases 9 [a0, a1, a2, a3] (st) (q_up h a (.inl (2, n, .inr (.inl (vp_updL f j x))))) z bc bs Kr Kx) : QW V iL_fewestReleases 8 [a0, a1, a2, a3] (.long x :: .int i :: .ref a :: st) (q_up h a (.inl (2, n, .inr (.inl f)))) z bc bs Kr Kx := wL_fewestReleases_8 q_up_s hi hj hn (by rw [q_up_u]; exact kk)
theorem dL_fewestReleases_9 : decode (i_b iL_fewestReleases) 9 = .ok (.goto 9, 3) := by decide +kernel
theorem wL_fewestReleases_9  (kk : QW V iL_fewestReleases 18 [a0, a1, a2, a3] (st) h z bc bs Kr Kx) : QW V iL_fewestReleases 9 [a0, a1, a2, a3] (st) h z bc bs Kr Kx := q_goto dL_fewestReleases_9 (by decide) kk
theorem dL_fewestReleases_12 : decode (i_b iL_fewestReleases) 12 = .ok (.astore_n 3, 1) := by decide +kernel
theorem wL_fewestReleases_12 {x : Nat} (kk : QW V iL_fewestReleases 13 [a0, a1, a2, some (.ref x)] (st) h z bc bs Kr Kx) (hp : q_n2 a2 = true := by rfl) : QW V iL_fewestReleases 12 [a0, a1, a2, a3] (.ref x :: st) h z bc bs Kr Kx := q_astore_n dL_fewestReleases_12 rfl (Nat.le_of_ble_eq_true rfl) hp kk
theorem dL_fewestReleases_13 : decode (i_b iL_fewestReleases) 13 = .ok (.iconst 1, 1) := by decide +kernel
theorem wL_fewestReleases_13  (kk : QW V iL_fewestReleases 14 [a0, a1, a2, a3] (.int (1) :: st) h z bc bs Kr Kx) : QW V iL_fewestReleases 13 [a0, a1, a2, a3] (st) h z bc bs Kr Kx := q_iconst dL_fewestReleases_13 (by decide) kk
theorem dL_fewestReleases_14 : decode (i_b iL_fewestReleases) 14 = .ok (.ireturn, 1) := by decide +kernel
theorem wL_fewestReleases_14 {x : Int32} {P : Int32 → q_H → Option Nat → Prop} (hk : P x h z) : QW V iL_fewestReleases 14 [a0, a1, a2, a3] [.int x] h z bc bs (q_Ki P) Kx := q_iret dL_fewestReleases_14 rfl rfl ⟨x, rfl, hk⟩
theorem dL_fewestReleases_15 : decode (i_b iL_fewestReleases) 15 = .ok (.astore_n 3, 1) := by decide +kernel
theorem wL_fewestReleases_15 {x : Nat} (kk : QW V iL_fewestReleases 16 [a0, a1, a2, some (.ref x)] (st) h z bc bs Kr Kx) (hp : q_n2 a2 = true := by rfl) : QW V iL_fewestReleases 15 [a0, a1, a2, a3] (.ref x :: st) h z bc bs Kr Kx := q_astore_n dL_fewestReleases_15 rfl (Nat.le_of_ble_eq_true rfl) hp kk
theorem dL_fewestReleases_16 : decode (i_b iL_fewestReleases) 16 = .ok (.iconst 2, 1) := by decide +kernel
theorem wL_fewestReleases_16  (kk : QW V iL_fewestReleases 17 [a0, a1, a2, a3] (.int (2) :: st) h z bc bs Kr Kx) : QW V iL_fewestReleases 16 [a0, a1, a2, a3] (st) h z bc bs Kr Kx := q_iconst dL_fewestReleases_16 (by decide) kk
theorem dL_fewestReleases_17 : decode (i_b iL_fewestReleases) 17 = .ok (.ireturn, 1) := by decide +kernel
theorem wL_fewestReleases_17 {x : Int32} {P : Int32 → q_H → Option Nat → Prop} (hk : P x h z) : QW V iL_fewestReleases 17 [a0, a1, a2, a3] [.int x] h z bc bs (q_Ki P) Kx := q_iret dL_fewestReleases_17 rfl rfl ⟨x, rfl, hk⟩
theorem dL_fewestReleases_18 : decode (i_b iL_fewestReleases) 18 = .ok (.iconst 0, 1) := by decide +kernel
theorem wL_fewestReleases_18  (kk : QW V iL_fewestReleases 19 [a0, a1, a2, a3] (.int (0) :: st) h z bc bs Kr Kx) : QW V iL_fewestReleases 18 [a0, a1, a2, a3] (st) h z bc bs Kr Kx := q_iconst dL_fewestReleases_18 (by decide) kk
theorem dL_fewestReleases_19 : decode (i_b iL_fewestReleases) 19 = .ok (.ireturn, 1) := by decide +kernel
theorem wL_fewestReleases_19 {x : Int32} {P : Int32 → q_H → Option Nat → Prop} (hk : P x h z) : QW V iL_fewestReleases 19 [a0, a1, a2, a3] [.int x] h z bc bs (q_Ki P) Kx := q_iret dL_fewestReleases_19 rfl rfl ⟨x, rfl, hk⟩
theorem eL_releaseSet {x0 : Nat} {x1 : Int32} {x2 : Nat} {P : Int32 → q_H → Option Nat → Prop} (kk : QW V iL_releaseSet 0 [some (.ref x0), some (.int x1), some (.ref x2), none] [] h z 2 12 (q_Ki P) Kx) : QMi V iL_releaseSet [.ref x0, .int x1, .ref x2] h z P Kx := q_enterH (by decide) (by decide +kernel) rfl (Nat.le_of_ble_eq_true rfl) kk
theorem dL_releaseSet_0 : decode (i_b iL_releaseSet) 0 = .ok (.aload_n 2, 1) := by decide +kernel
theorem wL_releaseSet_0 {x : Nat} (kk : QW V iL_releaseSet 1 [a0, a1, some (.ref x), a3] (.ref x :: st) h z bc bs Kr Kx) : QW V iL_releaseSet 0 [a0, a1, some (.ref x), a3] (st) h z bc bs Kr Kx := q_aload_n dL_releaseSet_0 rfl rfl kk
theorem dL_releaseSet_1 : decode (i_b iL_releaseSet) 1 = .ok (.iconst 0, 1) := by decide +kernel
theorem wL_releaseSet_1  (kk : QW V iL_releaseSet 2 [a0, a1, a2, a3] (.int (0) :: st) h z bc bs Kr Kx) : QW V iL_releaseSet 1 [a0, a1, a2, a3] (st) h z bc bs Kr Kx := q_iconst dL_releaseSet_1 (by decide) kk
theorem dL_releaseSet_2 : decode (i_b iL_releaseSet) 2 = .ok (.aload_n 0, 1) := by decide +kernel
theorem wL_releaseSet_2 {x : Nat} (kk : QW V iL_releaseSet 3 [some (.ref x), a1, a2, a3] (.ref x :: st) h z bc bs Kr Kx) : QW V iL_releaseSet 2 [some (.ref x), a1, a2, a3] (st) h z bc bs Kr Kx := q_aload_n dL_releaseSet_2 rfl rfl kk
theorem dL_releaseSet_3 : decode (i_b iL_releaseSet) 3 = .ok (.iload_n 1, 1) := by decide +kernel
theorem wL_releaseSet_3 {x : Int32} (kk : QW V iL_releaseSet 4 [a0, some (.int x), a2, a3] (.int x :: st) h z bc bs Kr Kx) : QW V iL_releaseSet 3 [a0, some (.int x), a2, a3] (st) h z bc bs Kr Kx := q_iload_n dL_releaseSet_3 rfl rfl kk
theorem dL_releaseSet_4 : decode (i_b iL_releaseSet) 4 = .ok (.invokevirtual 121, 3) := by decide +kernel
theorem wL_releaseSet_4 {a : Nat} {fs : List Value} {x0 : Int32} (hb : h a = some (.inr (9, fs))) (hm : QMi V iX8_releaseSet [.ref a, .int x0] h z (fun r h' z' => QW V iL_releaseSet 7 [a0, a1, a2, a3] (.int r :: st) h' z' bc bs Kr Kx) (fun E h2 => (E = "java/lang/IllegalStateException" ∧ ∀ q : Nat, QW V iL_releaseSet 12 [a0, a1, a2, a3] [.ref q] h2 none bc bs Kr Kx) ∨ (E = "java/lang/IllegalArgumentException" ∧ ∀ q : Nat, QW V iL_releaseSet 15 [a0, a1, a2, a3] [.ref q] h2 none bc bs Kr Kx))) (hW : (st.map fun v => v.category).sum ≤ 8 := by exact Nat.le_of_ble_eq_true rfl) : QW V iL_releaseSet 4 [a0, a1, a2, a3] (.int x0 :: .ref a :: st) h z (bc + 2) (bs + 12) Kr Kx := by
  refine q_callVX (y' := iX8_releaseSet) (As := [.int x0]) (rest := st) dL_releaseSet_4 k5_145 k5_146 k5_147 k1_1 hhX8_releaseSet rfl hdX8_releaseSet rfl rfl (Nat.le_of_ble_eq_true rfl) (Nat.le_of_ble_eq_true rfl) hW hb (fun E h2 => (E = "java/lang/IllegalStateException" ∧ ∀ q : Nat, QW V iL_releaseSet 12 [a0, a1, a2, a3] [.ref q] h2 none bc bs Kr Kx) ∨ (E = "java/lang/IllegalArgumentException" ∧ ∀ q : Nat, QW V iL_releaseSet 15 [a0, a1, a2, a3] [.ref q] h2 none bc bs Kr Kx)) (fun E h2 hK => ?_) (QMi.run hm)
  rcases hK with ⟨rfl, hq⟩ | ⟨rfl, hq⟩
  · exact ⟨[], [(0, 9, 15, 19)], (0, 9, 12, 13), rfl, (fun q hq => nomatch hq), by decide, by decide, k3_19, by decide +kernel, hq⟩
  · exact ⟨[(0, 9, 12, 13)], [], (0, 9, 15, 19), rfl, (by intro q hq; simp only [List.mem_cons, List.not_mem_nil, or_false] at hq; subst hq; exact ⟨by decide, "java/lang/IllegalStateException", k3_19, by decide +kernel⟩), by decide, by decide, k3_99, by decide +kernel, hq⟩
theorem dL_releaseSet_7 : decode (i_b iL_releaseSet) 7 = .ok (.i2l, 1) := by decide +kernel
theorem wL_releaseSet_7 {x : Int32} (kk : QW V iL_releaseSet 8 [a0, a1, a2, a3] (.long (x.toInt64) :: st) h z bc bs Kr Kx) : QW V iL_releaseSet 7 [a0, a1, a2, a3] (.int x :: st) h z bc bs Kr Kx := q_i2l dL_releaseSet_7 kk
theorem dL_releaseSet_8 : decode (i_b iL_releaseSet) 8 = .ok (.lastore, 1) := by decide +kernel
theorem wL_releaseSet_8 {a n j : Nat} {f : Nat → Int64} {i : Int32} {x : Int64} (ha : h a = some (.inl (2, n, .inr (.inl f)))) (hi : i = nI j) (hj : j < n) (hn : n < 2147483648) (kk : QW V iL_releaseSet 9 [a0, a1, a2, a3] (st) (q_up h a (.inl (2, n, .inr (.inl (vp_updL f j x))))) z bc bs Kr Kx) : QW V iL_releaseSet 8 [a0, a1, a2, a3] (.long x :: .int i :: .ref a :: st) h z bc bs Kr Kx := q_last dL_releaseSet_8 ha hi hj hn kk
theorem wL_releaseSet_8u {a n j : Nat} {f : Nat → Int64} {i : Int32} {x : Int64} (hi : i = nI j) (hj : j < n) (hn : n < 2147483648) (kk : QW V iL_releaseSet 9 [a0, a1, a2, a3] (st) (q_up h a (.inl (2, n, .inr (.inl (vp_updL f j x))))) z bc bs Kr Kx) : QW V iL_releaseSet 8 [a0, a1, a2, a3] (.long x :: .int i :: .ref a :: st) (q_up h a (.inl (2, n, .inr (.inl f)))) z bc bs Kr Kx := wL_releaseSet_8 q_up_s hi hj hn (by rw [q_up_u]; exact kk)
theorem dL_releaseSet_9 : decode (i_b iL_releaseSet) 9 = .ok (.goto 9, 3) := by decide +kernel
theorem wL_releaseSet_9  (kk : QW V iL_releaseSet 18 [a0, a1, a2, a3] (st) h z bc bs Kr Kx) : QW V iL_releaseSet 9 [a0, a1, a2, a3] (st) h z bc bs Kr Kx := q_goto dL_releaseSet_9 (by decide) kk
theorem dL_releaseSet_12 : decode (i_b iL_releaseSet) 12 = .ok (.astore_n 3, 1) := by decide +kernel
theorem wL_releaseSet_12 {x : Nat} (kk : QW V iL_releaseSet 13 [a0, a1, a2, some (.ref x)] (st) h z bc bs Kr Kx) (hp : q_n2 a2 = true := by rfl) : QW V iL_releaseSet 12 [a0, a1, a2, a3] (.ref x :: st) h z bc bs Kr Kx := q_astore_n dL_releaseSet_12 rfl (Nat.le_of_ble_eq_true rfl) hp kk
theorem dL_releaseSet_13 : decode (i_b iL_releaseSet) 13 = .ok (.iconst 1, 1) := by decide +kernel
theorem wL_releaseSet_13  (kk : QW V iL_releaseSet 14 [a0, a1, a2, a3] (.int (1) :: st) h z bc bs Kr Kx) : QW V iL_releaseSet 13 [a0, a1, a2, a3] (st) h z bc bs Kr Kx := q_iconst dL_releaseSet_13 (by decide) kk
theorem dL_releaseSet_14 : decode (i_b iL_releaseSet) 14 = .ok (.ireturn, 1) := by decide +kernel
theorem wL_releaseSet_14 {x : Int32} {P : Int32 → q_H → Option Nat → Prop} (hk : P x h z) : QW V iL_releaseSet 14 [a0, a1, a2, a3] [.int x] h z bc bs (q_Ki P) Kx := q_iret dL_releaseSet_14 rfl rfl ⟨x, rfl, hk⟩
theorem dL_releaseSet_15 : decode (i_b iL_releaseSet) 15 = .ok (.astore_n 3, 1) := by decide +kernel
theorem wL_releaseSet_15 {x : Nat} (kk : QW V iL_releaseSet 16 [a0, a1, a2, some (.ref x)] (st) h z bc bs Kr Kx) (hp : q_n2 a2 = true := by rfl) : QW V iL_releaseSet 15 [a0, a1, a2, a3] (.ref x :: st) h z bc bs Kr Kx := q_astore_n dL_releaseSet_15 rfl (Nat.le_of_ble_eq_true rfl) hp kk
theorem dL_releaseSet_16 : decode (i_b iL_releaseSet) 16 = .ok (.iconst 2, 1) := by decide +kernel
theorem wL_releaseSet_16  (kk : QW V iL_releaseSet 17 [a0, a1, a2, a3] (.int (2) :: st) h z bc bs Kr Kx) : QW V iL_releaseSet 16 [a0, a1, a2, a3] (st) h z bc bs Kr Kx := q_iconst dL_releaseSet_16 (by decide) kk
theorem dL_releaseSet_17 : decode (i_b iL_releaseSet) 17 = .ok (.ireturn, 1) := by decide +kernel
theorem wL_releaseSet_17 {x : Int32} {P : Int32 → q_H → Option Nat → Prop} (hk : P x h z) : QW V iL_releaseSet 17 [a0, a1, a2, a3] [.int x] h z bc bs (q_Ki P) Kx := q_iret dL_releaseSet_17 rfl rfl ⟨x, rfl, hk⟩
theorem dL_releaseSet_18 : decode (i_b iL_releaseSet) 18 = .ok (.iconst 0, 1) := by decide +kernel
theorem wL_releaseSet_18  (kk : QW V iL_releaseSet 19 [a0, a1, a2, a3] (.int (0) :: st) h z bc bs Kr Kx) : QW V iL_releaseSet 18 [a0, a1, a2, a3] (st) h z bc bs Kr Kx := q_iconst dL_releaseSet_18 (by decide) kk
theorem dL_releaseSet_19 : decode (i_b iL_releaseSet) 19 = .ok (.ireturn, 1) := by decide +kernel
theorem wL_releaseSet_19 {x : Int32} {P : Int32 → q_H → Option Nat → Prop} (hk : P x h z) : QW V iL_releaseSet 19 [a0, a1, a2, a3] [.int x] h z bc bs (q_Ki P) Kx := q_iret dL_releaseSet_19 rfl rfl ⟨x, rfl, hk⟩
theorem eL_tradeCode {x0 : Nat} {x1 : Int32} {x2 : Int32} {x3 : Int32} {x4 : Int32} {x5 : Nat} {P : Int32 → q_H → Option Nat → Prop} (kk : QW V iL_tradeCode 0 [some (.ref x0), some (.int x1), some (.int x2), some (.int x3), some (.int x4), some (.ref x5), none] [] h z 6 36 (q_Ki P) Kx) : QMi V iL_tradeCode [.ref x0, .int x1, .int x2, .int x3, .int x4, .ref x5] h z P Kx := q_enterH (by decide) (by decide +kernel) rfl (Nat.le_of_ble_eq_true rfl) kk
theorem dL_tradeCode_0 : decode (i_b iL_tradeCode) 0 = .ok (.aload 5, 2) := by decide +kernel
theorem wL_tradeCode_0 {x : Nat} (kk : QW V iL_tradeCode 2 [a0, a1, a2, a3, a4, some (.ref x), a6] (.ref x :: st) h z bc bs Kr Kx) : QW V iL_tradeCode 0 [a0, a1, a2, a3, a4, some (.ref x), a6] (st) h z bc bs Kr Kx := q_aload dL_tradeCode_0 rfl kk
theorem dL_tradeCode_2 : decode (i_b iL_tradeCode) 2 = .ok (.iconst 0, 1) := by decide +kernel
theorem wL_tradeCode_2  (kk : QW V iL_tradeCode 3 [a0, a1, a2, a3, a4, a5, a6] (.int (0) :: st) h z bc bs Kr Kx) : QW V iL_tradeCode 2 [a0, a1, a2, a3, a4, a5, a6] (st) h z bc bs Kr Kx := q_iconst dL_tradeCode_2 (by decide) kk
theorem dL_tradeCode_3 : decode (i_b iL_tradeCode) 3 = .ok (.aload_n 0, 1) := by decide +kernel
theorem wL_tradeCode_3 {x : Nat} (kk : QW V iL_tradeCode 4 [some (.ref x), a1, a2, a3, a4, a5, a6] (.ref x :: st) h z bc bs Kr Kx) : QW V iL_tradeCode 3 [some (.ref x), a1, a2, a3, a4, a5, a6] (st) h z bc bs Kr Kx := q_aload_n dL_tradeCode_3 rfl rfl kk
theorem dL_tradeCode_4 : decode (i_b iL_tradeCode) 4 = .ok (.iload_n 1, 1) := by decide +kernel
theorem wL_tradeCode_4 {x : Int32} (kk : QW V iL_tradeCode 5 [a0, some (.int x), a2, a3, a4, a5, a6] (.int x :: st) h z bc bs Kr Kx) : QW V iL_tradeCode 4 [a0, some (.int x), a2, a3, a4, a5, a6] (st) h z bc bs Kr Kx := q_iload_n dL_tradeCode_4 rfl rfl kk
theorem dL_tradeCode_5 : decode (i_b iL_tradeCode) 5 = .ok (.iload_n 2, 1) := by decide +kernel
theorem wL_tradeCode_5 {x : Int32} (kk : QW V iL_tradeCode 6 [a0, a1, some (.int x), a3, a4, a5, a6] (.int x :: st) h z bc bs Kr Kx) : QW V iL_tradeCode 5 [a0, a1, some (.int x), a3, a4, a5, a6] (st) h z bc bs Kr Kx := q_iload_n dL_tradeCode_5 rfl rfl kk
theorem dL_tradeCode_6 : decode (i_b iL_tradeCode) 6 = .ok (.iload_n 3, 1) := by decide +kernel
theorem wL_tradeCode_6 {x : Int32} (kk : QW V iL_tradeCode 7 [a0, a1, a2, some (.int x), a4, a5, a6] (.int x :: st) h z bc bs Kr Kx) : QW V iL_tradeCode 6 [a0, a1, a2, some (.int x), a4, a5, a6] (st) h z bc bs Kr Kx := q_iload_n dL_tradeCode_6 rfl rfl kk
theorem dL_tradeCode_7 : decode (i_b iL_tradeCode) 7 = .ok (.iload 4, 2) := by decide +kernel
theorem wL_tradeCode_7 {x : Int32} (kk : QW V iL_tradeCode 9 [a0, a1, a2, a3, some (.int x), a5, a6] (.int x :: st) h z bc bs Kr Kx) : QW V iL_tradeCode 7 [a0, a1, a2, a3, some (.int x), a5, a6] (st) h z bc bs Kr Kx := q_iload dL_tradeCode_7 rfl kk
theorem dL_tradeCode_9 : decode (i_b iL_tradeCode) 9 = .ok (.invokevirtual 124, 3) := by decide +kernel
theorem wL_tradeCode_9 {a : Nat} {fs : List Value} {x0 : Int32} {x1 : Int32} {x2 : Int32} {x3 : Int32} (hb : h a = some (.inr (9, fs))) (hm : QMi V iX8_tradeCode [.ref a, .int x0, .int x1, .int x2, .int x3] h z (fun r h' z' => QW V iL_tradeCode 12 [a0, a1, a2, a3, a4, a5, a6] (.int r :: st) h' z' bc bs Kr Kx) (fun E h2 => (E = "java/lang/IllegalStateException" ∧ ∀ q : Nat, QW V iL_tradeCode 17 [a0, a1, a2, a3, a4, a5, a6] [.ref q] h2 none bc bs Kr Kx) ∨ (E = "java/lang/IllegalArgumentException" ∧ ∀ q : Nat, QW V iL_tradeCode 21 [a0, a1, a2, a3, a4, a5, a6] [.ref q] h2 none bc bs Kr Kx))) (hW : (st.map fun v => v.category).sum ≤ 8 := by exact Nat.le_of_ble_eq_true rfl) : QW V iL_tradeCode 9 [a0, a1, a2, a3, a4, a5, a6] (.int x3 :: .int x2 :: .int x1 :: .int x0 :: .ref a :: st) h z (bc + 6) (bs + 36) Kr Kx := by
  refine q_callVX (y' := iX8_tradeCode) (As := [.int x0, .int x1, .int x2, .int x3]) (rest := st) dL_tradeCode_9 k5_166 k5_167 k5_168 k1_1 hhX8_tradeCode rfl hdX8_tradeCode rfl rfl (Nat.le_of_ble_eq_true rfl) (Nat.le_of_ble_eq_true rfl) hW hb (fun E h2 => (E = "java/lang/IllegalStateException" ∧ ∀ q : Nat, QW V iL_tradeCode 17 [a0, a1, a2, a3, a4, a5, a6] [.ref q] h2 none bc bs Kr Kx) ∨ (E = "java/lang/IllegalArgumentException" ∧ ∀ q : Nat, QW V iL_tradeCode 21 [a0, a1, a2, a3, a4, a5, a6] [.ref q] h2 none bc bs Kr Kx)) (fun E h2 hK => ?_) (QMi.run hm)
  rcases hK with ⟨rfl, hq⟩ | ⟨rfl, hq⟩
  · exact ⟨[], [(0, 14, 21, 19)], (0, 14, 17, 13), rfl, (fun q hq => nomatch hq), by decide, by decide, k3_19, by decide +kernel, hq⟩
  · exact ⟨[(0, 14, 17, 13)], [], (0, 14, 21, 19), rfl, (by intro q hq; simp only [List.mem_cons, List.not_mem_nil, or_false] at hq; subst hq; exact ⟨by decide, "java/lang/IllegalStateException", k3_19, by decide +kernel⟩), by decide, by decide, k3_99, by decide +kernel, hq⟩
theorem dL_tradeCode_12 : decode (i_b iL_tradeCode) 12 = .ok (.i2l, 1) := by decide +kernel
theorem wL_tradeCode_12 {x : Int32} (kk : QW V iL_tradeCode 13 [a0, a1, a2, a3, a4, a5, a6] (.long (x.toInt64) :: st) h z bc bs Kr Kx) : QW V iL_tradeCode 12 [a0, a1, a2, a3, a4, a5, a6] (.int x :: st) h z bc bs Kr Kx := q_i2l dL_tradeCode_12 kk
theorem dL_tradeCode_13 : decode (i_b iL_tradeCode) 13 = .ok (.lastore, 1) := by decide +kernel
theorem wL_tradeCode_13 {a n j : Nat} {f : Nat → Int64} {i : Int32} {x : Int64} (ha : h a = some (.inl (2, n, .inr (.inl f)))) (hi : i = nI j) (hj : j < n) (hn : n < 2147483648) (kk : QW V iL_tradeCode 14 [a0, a1, a2, a3, a4, a5, a6] (st) (q_up h a (.inl (2, n, .inr (.inl (vp_updL f j x))))) z bc bs Kr Kx) : QW V iL_tradeCode 13 [a0, a1, a2, a3, a4, a5, a6] (.long x :: .int i :: .ref a :: st) h z bc bs Kr Kx := q_last dL_tradeCode_13 ha hi hj hn kk
theorem wL_tradeCode_13u {a n j : Nat} {f : Nat → Int64} {i : Int32} {x : Int64} (hi : i = nI j) (hj : j < n) (hn : n < 2147483648) (kk : QW V iL_tradeCode 14 [a0, a1, a2, a3, a4, a5, a6] (st) (q_up h a (.inl (2, n, .inr (.inl (vp_updL f j x))))) z bc bs Kr Kx) : QW V iL_tradeCode 13 [a0, a1, a2, a3, a4, a5, a6] (.long x :: .int i :: .ref a :: st) (q_up h a (.inl (2, n, .inr (.inl f)))) z bc bs Kr Kx := wL_tradeCode_13 q_up_s hi hj hn (by rw [q_up_u]; exact kk)
theorem dL_tradeCode_14 : decode (i_b iL_tradeCode) 14 = .ok (.goto 11, 3) := by decide +kernel
theorem wL_tradeCode_14  (kk : QW V iL_tradeCode 25 [a0, a1, a2, a3, a4, a5, a6] (st) h z bc bs Kr Kx) : QW V iL_tradeCode 14 [a0, a1, a2, a3, a4, a5, a6] (st) h z bc bs Kr Kx := q_goto dL_tradeCode_14 (by decide) kk
theorem dL_tradeCode_17 : decode (i_b iL_tradeCode) 17 = .ok (.astore 6, 2) := by decide +kernel
theorem wL_tradeCode_17 {x : Nat} (kk : QW V iL_tradeCode 19 [a0, a1, a2, a3, a4, a5, some (.ref x)] (st) h z bc bs Kr Kx) (hp : q_n2 a5 = true := by rfl) : QW V iL_tradeCode 17 [a0, a1, a2, a3, a4, a5, a6] (.ref x :: st) h z bc bs Kr Kx := q_astore dL_tradeCode_17 (Nat.le_of_ble_eq_true rfl) hp kk
theorem dL_tradeCode_19 : decode (i_b iL_tradeCode) 19 = .ok (.iconst 1, 1) := by decide +kernel
theorem wL_tradeCode_19  (kk : QW V iL_tradeCode 20 [a0, a1, a2, a3, a4, a5, a6] (.int (1) :: st) h z bc bs Kr Kx) : QW V iL_tradeCode 19 [a0, a1, a2, a3, a4, a5, a6] (st) h z bc bs Kr Kx := q_iconst dL_tradeCode_19 (by decide) kk
theorem dL_tradeCode_20 : decode (i_b iL_tradeCode) 20 = .ok (.ireturn, 1) := by decide +kernel
theorem wL_tradeCode_20 {x : Int32} {P : Int32 → q_H → Option Nat → Prop} (hk : P x h z) : QW V iL_tradeCode 20 [a0, a1, a2, a3, a4, a5, a6] [.int x] h z bc bs (q_Ki P) Kx := q_iret dL_tradeCode_20 rfl rfl ⟨x, rfl, hk⟩
theorem dL_tradeCode_21 : decode (i_b iL_tradeCode) 21 = .ok (.astore 6, 2) := by decide +kernel
theorem wL_tradeCode_21 {x : Nat} (kk : QW V iL_tradeCode 23 [a0, a1, a2, a3, a4, a5, some (.ref x)] (st) h z bc bs Kr Kx) (hp : q_n2 a5 = true := by rfl) : QW V iL_tradeCode 21 [a0, a1, a2, a3, a4, a5, a6] (.ref x :: st) h z bc bs Kr Kx := q_astore dL_tradeCode_21 (Nat.le_of_ble_eq_true rfl) hp kk
theorem dL_tradeCode_23 : decode (i_b iL_tradeCode) 23 = .ok (.iconst 2, 1) := by decide +kernel
theorem wL_tradeCode_23  (kk : QW V iL_tradeCode 24 [a0, a1, a2, a3, a4, a5, a6] (.int (2) :: st) h z bc bs Kr Kx) : QW V iL_tradeCode 23 [a0, a1, a2, a3, a4, a5, a6] (st) h z bc bs Kr Kx := q_iconst dL_tradeCode_23 (by decide) kk
theorem dL_tradeCode_24 : decode (i_b iL_tradeCode) 24 = .ok (.ireturn, 1) := by decide +kernel
theorem wL_tradeCode_24 {x : Int32} {P : Int32 → q_H → Option Nat → Prop} (hk : P x h z) : QW V iL_tradeCode 24 [a0, a1, a2, a3, a4, a5, a6] [.int x] h z bc bs (q_Ki P) Kx := q_iret dL_tradeCode_24 rfl rfl ⟨x, rfl, hk⟩
theorem dL_tradeCode_25 : decode (i_b iL_tradeCode) 25 = .ok (.iconst 0, 1) := by decide +kernel
theorem wL_tradeCode_25  (kk : QW V iL_tradeCode 26 [a0, a1, a2, a3, a4, a5, a6] (.int (0) :: st) h z bc bs Kr Kx) : QW V iL_tradeCode 25 [a0, a1, a2, a3, a4, a5, a6] (st) h z bc bs Kr Kx := q_iconst dL_tradeCode_25 (by decide) kk
theorem dL_tradeCode_26 : decode (i_b iL_tradeCode) 26 = .ok (.ireturn, 1) := by decide +kernel
theorem wL_tradeCode_26 {x : Int32} {P : Int32 → q_H → Option Nat → Prop} (hk : P x h z) : QW V iL_tradeCode 26 [a0, a1, a2, a3, a4, a5, a6] [.int x] h z bc bs (q_Ki P) Kx := q_iret dL_tradeCode_26 rfl rfl ⟨x, rfl, hk⟩
theorem eL_swapCount {x0 : Nat} {x1 : Int32} {x2 : Int32} {x3 : Nat} {P : Int32 → q_H → Option Nat → Prop} (kk : QW V iL_swapCount 0 [some (.ref x0), some (.int x1), some (.int x2), some (.ref x3), none] [] h z 4 24 (q_Ki P) Kx) : QMi V iL_swapCount [.ref x0, .int x1, .int x2, .ref x3] h z P Kx := q_enterH (by decide) (by decide +kernel) rfl (Nat.le_of_ble_eq_true rfl) kk
theorem dL_swapCount_0 : decode (i_b iL_swapCount) 0 = .ok (.aload_n 3, 1) := by decide +kernel
theorem wL_swapCount_0 {x : Nat} (kk : QW V iL_swapCount 1 [a0, a1, a2, some (.ref x), a4] (.ref x :: st) h z bc bs Kr Kx) : QW V iL_swapCount 0 [a0, a1, a2, some (.ref x), a4] (st) h z bc bs Kr Kx := q_aload_n dL_swapCount_0 rfl rfl kk
theorem dL_swapCount_1 : decode (i_b iL_swapCount) 1 = .ok (.iconst 0, 1) := by decide +kernel
theorem wL_swapCount_1  (kk : QW V iL_swapCount 2 [a0, a1, a2, a3, a4] (.int (0) :: st) h z bc bs Kr Kx) : QW V iL_swapCount 1 [a0, a1, a2, a3, a4] (st) h z bc bs Kr Kx := q_iconst dL_swapCount_1 (by decide) kk
theorem dL_swapCount_2 : decode (i_b iL_swapCount) 2 = .ok (.aload_n 0, 1) := by decide +kernel
theorem wL_swapCount_2 {x : Nat} (kk : QW V iL_swapCount 3 [some (.ref x), a1, a2, a3, a4] (.ref x :: st) h z bc bs Kr Kx) : QW V iL_swapCount 2 [some (.ref x), a1, a2, a3, a4] (st) h z bc bs Kr Kx := q_aload_n dL_swapCount_2 rfl rfl kk
theorem dL_swapCount_3 : decode (i_b iL_swapCount) 3 = .ok (.iload_n 1, 1) := by decide +kernel
theorem wL_swapCount_3 {x : Int32} (kk : QW V iL_swapCount 4 [a0, some (.int x), a2, a3, a4] (.int x :: st) h z bc bs Kr Kx) : QW V iL_swapCount 3 [a0, some (.int x), a2, a3, a4] (st) h z bc bs Kr Kx := q_iload_n dL_swapCount_3 rfl rfl kk
theorem dL_swapCount_4 : decode (i_b iL_swapCount) 4 = .ok (.iload_n 2, 1) := by decide +kernel
theorem wL_swapCount_4 {x : Int32} (kk : QW V iL_swapCount 5 [a0, a1, some (.int x), a3, a4] (.int x :: st) h z bc bs Kr Kx) : QW V iL_swapCount 4 [a0, a1, some (.int x), a3, a4] (st) h z bc bs Kr Kx := q_iload_n dL_swapCount_4 rfl rfl kk
theorem dL_swapCount_5 : decode (i_b iL_swapCount) 5 = .ok (.invokevirtual 127, 3) := by decide +kernel
theorem wL_swapCount_5 {a : Nat} {fs : List Value} {x0 : Int32} {x1 : Int32} (hb : h a = some (.inr (9, fs))) (hm : QMi V iX8_swapCount [.ref a, .int x0, .int x1] h z (fun r h' z' => QW V iL_swapCount 8 [a0, a1, a2, a3, a4] (.int r :: st) h' z' bc bs Kr Kx) (fun E h2 => (E = "java/lang/IllegalStateException" ∧ ∀ q : Nat, QW V iL_swapCount 13 [a0, a1, a2, a3, a4] [.ref q] h2 none bc bs Kr Kx) ∨ (E = "java/lang/IllegalArgumentException" ∧ ∀ q : Nat, QW V iL_swapCount 17 [a0, a1, a2, a3, a4] [.ref q] h2 none bc bs Kr Kx))) (hW : (st.map fun v => v.category).sum ≤ 8 := by exact Nat.le_of_ble_eq_true rfl) : QW V iL_swapCount 5 [a0, a1, a2, a3, a4] (.int x1 :: .int x0 :: .ref a :: st) h z (bc + 4) (bs + 24) Kr Kx := by
  refine q_callVX (y' := iX8_swapCount) (As := [.int x0, .int x1]) (rest := st) dL_swapCount_5 k5_173 k5_174 k5_175 k1_1 hhX8_swapCount rfl hdX8_swapCount rfl rfl (Nat.le_of_ble_eq_true rfl) (Nat.le_of_ble_eq_true rfl) hW hb (fun E h2 => (E = "java/lang/IllegalStateException" ∧ ∀ q : Nat, QW V iL_swapCount 13 [a0, a1, a2, a3, a4] [.ref q] h2 none bc bs Kr Kx) ∨ (E = "java/lang/IllegalArgumentException" ∧ ∀ q : Nat, QW V iL_swapCount 17 [a0, a1, a2, a3, a4] [.ref q] h2 none bc bs Kr Kx)) (fun E h2 hK => ?_) (QMi.run hm)
  rcases hK with ⟨rfl, hq⟩ | ⟨rfl, hq⟩
  · exact ⟨[], [(0, 10, 17, 19)], (0, 10, 13, 13), rfl, (fun q hq => nomatch hq), by decide, by decide, k3_19, by decide +kernel, hq⟩
  · exact ⟨[(0, 10, 13, 13)], [], (0, 10, 17, 19), rfl, (by intro q hq; simp only [List.mem_cons, List.not_mem_nil, or_false] at hq; subst hq; exact ⟨by decide, "java/lang/IllegalStateException", k3_19, by decide +kernel⟩), by decide, by decide, k3_99, by decide +kernel, hq⟩
theorem dL_swapCount_8 : decode (i_b iL_swapCount) 8 = .ok (.i2l, 1) := by decide +kernel
theorem wL_swapCount_8 {x : Int32} (kk : QW V iL_swapCount 9 [a0, a1, a2, a3, a4] (.long (x.toInt64) :: st) h z bc bs Kr Kx) : QW V iL_swapCount 8 [a0, a1, a2, a3, a4] (.int x :: st) h z bc bs Kr Kx := q_i2l dL_swapCount_8 kk
theorem dL_swapCount_9 : decode (i_b iL_swapCount) 9 = .ok (.lastore, 1) := by decide +kernel
theorem wL_swapCount_9 {a n j : Nat} {f : Nat → Int64} {i : Int32} {x : Int64} (ha : h a = some (.inl (2, n, .inr (.inl f)))) (hi : i = nI j) (hj : j < n) (hn : n < 2147483648) (kk : QW V iL_swapCount 10 [a0, a1, a2, a3, a4] (st) (q_up h a (.inl (2, n, .inr (.inl (vp_updL f j x))))) z bc bs Kr Kx) : QW V iL_swapCount 9 [a0, a1, a2, a3, a4] (.long x :: .int i :: .ref a :: st) h z bc bs Kr Kx := q_last dL_swapCount_9 ha hi hj hn kk
theorem wL_swapCount_9u {a n j : Nat} {f : Nat → Int64} {i : Int32} {x : Int64} (hi : i = nI j) (hj : j < n) (hn : n < 2147483648) (kk : QW V iL_swapCount 10 [a0, a1, a2, a3, a4] (st) (q_up h a (.inl (2, n, .inr (.inl (vp_updL f j x))))) z bc bs Kr Kx) : QW V iL_swapCount 9 [a0, a1, a2, a3, a4] (.long x :: .int i :: .ref a :: st) (q_up h a (.inl (2, n, .inr (.inl f)))) z bc bs Kr Kx := wL_swapCount_9 q_up_s hi hj hn (by rw [q_up_u]; exact kk)
theorem dL_swapCount_10 : decode (i_b iL_swapCount) 10 = .ok (.goto 11, 3) := by decide +kernel
theorem wL_swapCount_10  (kk : QW V iL_swapCount 21 [a0, a1, a2, a3, a4] (st) h z bc bs Kr Kx) : QW V iL_swapCount 10 [a0, a1, a2, a3, a4] (st) h z bc bs Kr Kx := q_goto dL_swapCount_10 (by decide) kk
theorem dL_swapCount_13 : decode (i_b iL_swapCount) 13 = .ok (.astore 4, 2) := by decide +kernel
theorem wL_swapCount_13 {x : Nat} (kk : QW V iL_swapCount 15 [a0, a1, a2, a3, some (.ref x)] (st) h z bc bs Kr Kx) (hp : q_n2 a3 = true := by rfl) : QW V iL_swapCount 13 [a0, a1, a2, a3, a4] (.ref x :: st) h z bc bs Kr Kx := q_astore dL_swapCount_13 (Nat.le_of_ble_eq_true rfl) hp kk
theorem dL_swapCount_15 : decode (i_b iL_swapCount) 15 = .ok (.iconst 1, 1) := by decide +kernel
theorem wL_swapCount_15  (kk : QW V iL_swapCount 16 [a0, a1, a2, a3, a4] (.int (1) :: st) h z bc bs Kr Kx) : QW V iL_swapCount 15 [a0, a1, a2, a3, a4] (st) h z bc bs Kr Kx := q_iconst dL_swapCount_15 (by decide) kk
theorem dL_swapCount_16 : decode (i_b iL_swapCount) 16 = .ok (.ireturn, 1) := by decide +kernel
theorem wL_swapCount_16 {x : Int32} {P : Int32 → q_H → Option Nat → Prop} (hk : P x h z) : QW V iL_swapCount 16 [a0, a1, a2, a3, a4] [.int x] h z bc bs (q_Ki P) Kx := q_iret dL_swapCount_16 rfl rfl ⟨x, rfl, hk⟩
theorem dL_swapCount_17 : decode (i_b iL_swapCount) 17 = .ok (.astore 4, 2) := by decide +kernel
theorem wL_swapCount_17 {x : Nat} (kk : QW V iL_swapCount 19 [a0, a1, a2, a3, some (.ref x)] (st) h z bc bs Kr Kx) (hp : q_n2 a3 = true := by rfl) : QW V iL_swapCount 17 [a0, a1, a2, a3, a4] (.ref x :: st) h z bc bs Kr Kx := q_astore dL_swapCount_17 (Nat.le_of_ble_eq_true rfl) hp kk
theorem dL_swapCount_19 : decode (i_b iL_swapCount) 19 = .ok (.iconst 2, 1) := by decide +kernel
theorem wL_swapCount_19  (kk : QW V iL_swapCount 20 [a0, a1, a2, a3, a4] (.int (2) :: st) h z bc bs Kr Kx) : QW V iL_swapCount 19 [a0, a1, a2, a3, a4] (st) h z bc bs Kr Kx := q_iconst dL_swapCount_19 (by decide) kk
theorem dL_swapCount_20 : decode (i_b iL_swapCount) 20 = .ok (.ireturn, 1) := by decide +kernel
theorem wL_swapCount_20 {x : Int32} {P : Int32 → q_H → Option Nat → Prop} (hk : P x h z) : QW V iL_swapCount 20 [a0, a1, a2, a3, a4] [.int x] h z bc bs (q_Ki P) Kx := q_iret dL_swapCount_20 rfl rfl ⟨x, rfl, hk⟩
theorem dL_swapCount_21 : decode (i_b iL_swapCount) 21 = .ok (.iconst 0, 1) := by decide +kernel
theorem wL_swapCount_21  (kk : QW V iL_swapCount 22 [a0, a1, a2, a3, a4] (.int (0) :: st) h z bc bs Kr Kx) : QW V iL_swapCount 21 [a0, a1, a2, a3, a4] (st) h z bc bs Kr Kx := q_iconst dL_swapCount_21 (by decide) kk
theorem dL_swapCount_22 : decode (i_b iL_swapCount) 22 = .ok (.ireturn, 1) := by decide +kernel
theorem wL_swapCount_22 {x : Int32} {P : Int32 → q_H → Option Nat → Prop} (hk : P x h z) : QW V iL_swapCount 22 [a0, a1, a2, a3, a4] [.int x] h z bc bs (q_Ki P) Kx := q_iret dL_swapCount_22 rfl rfl ⟨x, rfl, hk⟩
theorem eL_bestSwap {x0 : Nat} {x1 : Int32} {x2 : Int32} {x3 : Nat} {P : Int32 → q_H → Option Nat → Prop} (kk : QW V iL_bestSwap 0 [some (.ref x0), some (.int x1), some (.int x2), some (.ref x3), none] [] h z 4 24 (q_Ki P) Kx) : QMi V iL_bestSwap [.ref x0, .int x1, .int x2, .ref x3] h z P Kx := q_enterH (by decide) (by decide +kernel) rfl (Nat.le_of_ble_eq_true rfl) kk
theorem dL_bestSwap_0 : decode (i_b iL_bestSwap) 0 = .ok (.aload_n 3, 1) := by decide +kernel
theorem wL_bestSwap_0 {x : Nat} (kk : QW V iL_bestSwap 1 [a0, a1, a2, some (.ref x), a4] (.ref x :: st) h z bc bs Kr Kx) : QW V iL_bestSwap 0 [a0, a1, a2, some (.ref x), a4] (st) h z bc bs Kr Kx := q_aload_n dL_bestSwap_0 rfl rfl kk
theorem dL_bestSwap_1 : decode (i_b iL_bestSwap) 1 = .ok (.iconst 0, 1) := by decide +kernel
theorem wL_bestSwap_1  (kk : QW V iL_bestSwap 2 [a0, a1, a2, a3, a4] (.int (0) :: st) h z bc bs Kr Kx) : QW V iL_bestSwap 1 [a0, a1, a2, a3, a4] (st) h z bc bs Kr Kx := q_iconst dL_bestSwap_1 (by decide) kk
theorem dL_bestSwap_2 : decode (i_b iL_bestSwap) 2 = .ok (.aload_n 0, 1) := by decide +kernel
theorem wL_bestSwap_2 {x : Nat} (kk : QW V iL_bestSwap 3 [some (.ref x), a1, a2, a3, a4] (.ref x :: st) h z bc bs Kr Kx) : QW V iL_bestSwap 2 [some (.ref x), a1, a2, a3, a4] (st) h z bc bs Kr Kx := q_aload_n dL_bestSwap_2 rfl rfl kk
theorem dL_bestSwap_3 : decode (i_b iL_bestSwap) 3 = .ok (.iload_n 1, 1) := by decide +kernel
theorem wL_bestSwap_3 {x : Int32} (kk : QW V iL_bestSwap 4 [a0, some (.int x), a2, a3, a4] (.int x :: st) h z bc bs Kr Kx) : QW V iL_bestSwap 3 [a0, some (.int x), a2, a3, a4] (st) h z bc bs Kr Kx := q_iload_n dL_bestSwap_3 rfl rfl kk
theorem dL_bestSwap_4 : decode (i_b iL_bestSwap) 4 = .ok (.iload_n 2, 1) := by decide +kernel
theorem wL_bestSwap_4 {x : Int32} (kk : QW V iL_bestSwap 5 [a0, a1, some (.int x), a3, a4] (.int x :: st) h z bc bs Kr Kx) : QW V iL_bestSwap 4 [a0, a1, some (.int x), a3, a4] (st) h z bc bs Kr Kx := q_iload_n dL_bestSwap_4 rfl rfl kk
theorem dL_bestSwap_5 : decode (i_b iL_bestSwap) 5 = .ok (.invokevirtual 130, 3) := by decide +kernel
theorem wL_bestSwap_5 {a : Nat} {fs : List Value} {x0 : Int32} {x1 : Int32} (hb : h a = some (.inr (9, fs))) (hm : QMi V iX8_bestSwap [.ref a, .int x0, .int x1] h z (fun r h' z' => QW V iL_bestSwap 8 [a0, a1, a2, a3, a4] (.int r :: st) h' z' bc bs Kr Kx) (fun E h2 => (E = "java/lang/IllegalStateException" ∧ ∀ q : Nat, QW V iL_bestSwap 13 [a0, a1, a2, a3, a4] [.ref q] h2 none bc bs Kr Kx) ∨ (E = "java/lang/IllegalArgumentException" ∧ ∀ q : Nat, QW V iL_bestSwap 17 [a0, a1, a2, a3, a4] [.ref q] h2 none bc bs Kr Kx))) (hW : (st.map fun v => v.category).sum ≤ 8 := by exact Nat.le_of_ble_eq_true rfl) : QW V iL_bestSwap 5 [a0, a1, a2, a3, a4] (.int x1 :: .int x0 :: .ref a :: st) h z (bc + 4) (bs + 24) Kr Kx := by
  refine q_callVX (y' := iX8_bestSwap) (As := [.int x0, .int x1]) (rest := st) dL_bestSwap_5 k5_185 k5_186 k5_187 k1_1 hhX8_bestSwap rfl hdX8_bestSwap rfl rfl (Nat.le_of_ble_eq_true rfl) (Nat.le_of_ble_eq_true rfl) hW hb (fun E h2 => (E = "java/lang/IllegalStateException" ∧ ∀ q : Nat, QW V iL_bestSwap 13 [a0, a1, a2, a3, a4] [.ref q] h2 none bc bs Kr Kx) ∨ (E = "java/lang/IllegalArgumentException" ∧ ∀ q : Nat, QW V iL_bestSwap 17 [a0, a1, a2, a3, a4] [.ref q] h2 none bc bs Kr Kx)) (fun E h2 hK => ?_) (QMi.run hm)
  rcases hK with ⟨rfl, hq⟩ | ⟨rfl, hq⟩
  · exact ⟨[], [(0, 10, 17, 19)], (0, 10, 13, 13), rfl, (fun q hq => nomatch hq), by decide, by decide, k3_19, by decide +kernel, hq⟩
  · exact ⟨[(0, 10, 13, 13)], [], (0, 10, 17, 19), rfl, (by intro q hq; simp only [List.mem_cons, List.not_mem_nil, or_false] at hq; subst hq; exact ⟨by decide, "java/lang/IllegalStateException", k3_19, by decide +kernel⟩), by decide, by decide, k3_99, by decide +kernel, hq⟩
theorem dL_bestSwap_8 : decode (i_b iL_bestSwap) 8 = .ok (.i2l, 1) := by decide +kernel
theorem wL_bestSwap_8 {x : Int32} (kk : QW V iL_bestSwap 9 [a0, a1, a2, a3, a4] (.long (x.toInt64) :: st) h z bc bs Kr Kx) : QW V iL_bestSwap 8 [a0, a1, a2, a3, a4] (.int x :: st) h z bc bs Kr Kx := q_i2l dL_bestSwap_8 kk
theorem dL_bestSwap_9 : decode (i_b iL_bestSwap) 9 = .ok (.lastore, 1) := by decide +kernel
theorem wL_bestSwap_9 {a n j : Nat} {f : Nat → Int64} {i : Int32} {x : Int64} (ha : h a = some (.inl (2, n, .inr (.inl f)))) (hi : i = nI j) (hj : j < n) (hn : n < 2147483648) (kk : QW V iL_bestSwap 10 [a0, a1, a2, a3, a4] (st) (q_up h a (.inl (2, n, .inr (.inl (vp_updL f j x))))) z bc bs Kr Kx) : QW V iL_bestSwap 9 [a0, a1, a2, a3, a4] (.long x :: .int i :: .ref a :: st) h z bc bs Kr Kx := q_last dL_bestSwap_9 ha hi hj hn kk
theorem wL_bestSwap_9u {a n j : Nat} {f : Nat → Int64} {i : Int32} {x : Int64} (hi : i = nI j) (hj : j < n) (hn : n < 2147483648) (kk : QW V iL_bestSwap 10 [a0, a1, a2, a3, a4] (st) (q_up h a (.inl (2, n, .inr (.inl (vp_updL f j x))))) z bc bs Kr Kx) : QW V iL_bestSwap 9 [a0, a1, a2, a3, a4] (.long x :: .int i :: .ref a :: st) (q_up h a (.inl (2, n, .inr (.inl f)))) z bc bs Kr Kx := wL_bestSwap_9 q_up_s hi hj hn (by rw [q_up_u]; exact kk)
theorem dL_bestSwap_10 : decode (i_b iL_bestSwap) 10 = .ok (.goto 11, 3) := by decide +kernel
theorem wL_bestSwap_10  (kk : QW V iL_bestSwap 21 [a0, a1, a2, a3, a4] (st) h z bc bs Kr Kx) : QW V iL_bestSwap 10 [a0, a1, a2, a3, a4] (st) h z bc bs Kr Kx := q_goto dL_bestSwap_10 (by decide) kk
theorem dL_bestSwap_13 : decode (i_b iL_bestSwap) 13 = .ok (.astore 4, 2) := by decide +kernel
theorem wL_bestSwap_13 {x : Nat} (kk : QW V iL_bestSwap 15 [a0, a1, a2, a3, some (.ref x)] (st) h z bc bs Kr Kx) (hp : q_n2 a3 = true := by rfl) : QW V iL_bestSwap 13 [a0, a1, a2, a3, a4] (.ref x :: st) h z bc bs Kr Kx := q_astore dL_bestSwap_13 (Nat.le_of_ble_eq_true rfl) hp kk
theorem dL_bestSwap_15 : decode (i_b iL_bestSwap) 15 = .ok (.iconst 1, 1) := by decide +kernel
theorem wL_bestSwap_15  (kk : QW V iL_bestSwap 16 [a0, a1, a2, a3, a4] (.int (1) :: st) h z bc bs Kr Kx) : QW V iL_bestSwap 15 [a0, a1, a2, a3, a4] (st) h z bc bs Kr Kx := q_iconst dL_bestSwap_15 (by decide) kk
theorem dL_bestSwap_16 : decode (i_b iL_bestSwap) 16 = .ok (.ireturn, 1) := by decide +kernel
theorem wL_bestSwap_16 {x : Int32} {P : Int32 → q_H → Option Nat → Prop} (hk : P x h z) : QW V iL_bestSwap 16 [a0, a1, a2, a3, a4] [.int x] h z bc bs (q_Ki P) Kx := q_iret dL_bestSwap_16 rfl rfl ⟨x, rfl, hk⟩
theorem dL_bestSwap_17 : decode (i_b iL_bestSwap) 17 = .ok (.astore 4, 2) := by decide +kernel
theorem wL_bestSwap_17 {x : Nat} (kk : QW V iL_bestSwap 19 [a0, a1, a2, a3, some (.ref x)] (st) h z bc bs Kr Kx) (hp : q_n2 a3 = true := by rfl) : QW V iL_bestSwap 17 [a0, a1, a2, a3, a4] (.ref x :: st) h z bc bs Kr Kx := q_astore dL_bestSwap_17 (Nat.le_of_ble_eq_true rfl) hp kk
theorem dL_bestSwap_19 : decode (i_b iL_bestSwap) 19 = .ok (.iconst 2, 1) := by decide +kernel
theorem wL_bestSwap_19  (kk : QW V iL_bestSwap 20 [a0, a1, a2, a3, a4] (.int (2) :: st) h z bc bs Kr Kx) : QW V iL_bestSwap 19 [a0, a1, a2, a3, a4] (st) h z bc bs Kr Kx := q_iconst dL_bestSwap_19 (by decide) kk
theorem dL_bestSwap_20 : decode (i_b iL_bestSwap) 20 = .ok (.ireturn, 1) := by decide +kernel
theorem wL_bestSwap_20 {x : Int32} {P : Int32 → q_H → Option Nat → Prop} (hk : P x h z) : QW V iL_bestSwap 20 [a0, a1, a2, a3, a4] [.int x] h z bc bs (q_Ki P) Kx := q_iret dL_bestSwap_20 rfl rfl ⟨x, rfl, hk⟩
theorem dL_bestSwap_21 : decode (i_b iL_bestSwap) 21 = .ok (.iconst 0, 1) := by decide +kernel
theorem wL_bestSwap_21  (kk : QW V iL_bestSwap 22 [a0, a1, a2, a3, a4] (.int (0) :: st) h z bc bs Kr Kx) : QW V iL_bestSwap 21 [a0, a1, a2, a3, a4] (st) h z bc bs Kr Kx := q_iconst dL_bestSwap_21 (by decide) kk
theorem dL_bestSwap_22 : decode (i_b iL_bestSwap) 22 = .ok (.ireturn, 1) := by decide +kernel
theorem wL_bestSwap_22 {x : Int32} {P : Int32 → q_H → Option Nat → Prop} (hk : P x h z) : QW V iL_bestSwap 22 [a0, a1, a2, a3, a4] [.int x] h z bc bs (q_Ki P) Kx := q_iret dL_bestSwap_22 rfl rfl ⟨x, rfl, hk⟩
theorem eL_taxAhead {x0 : Nat} {x1 : Int32} {x2 : Int32} {x3 : Nat} {P : Int32 → q_H → Option Nat → Prop} (kk : QW V iL_taxAhead 0 [some (.ref x0), some (.int x1), some (.int x2), some (.ref x3), none] [] h z 3 18 (q_Ki P) Kx) : QMi V iL_taxAhead [.ref x0, .int x1, .int x2, .ref x3] h z P Kx := q_enterH (by decide) (by decide +kernel) rfl (Nat.le_of_ble_eq_true rfl) kk
theorem dL_taxAhead_0 : decode (i_b iL_taxAhead) 0 = .ok (.aload_n 3, 1) := by decide +kernel
theorem wL_taxAhead_0 {x : Nat} (kk : QW V iL_taxAhead 1 [a0, a1, a2, some (.ref x), a4] (.ref x :: st) h z bc bs Kr Kx) : QW V iL_taxAhead 0 [a0, a1, a2, some (.ref x), a4] (st) h z bc bs Kr Kx := q_aload_n dL_taxAhead_0 rfl rfl kk
theorem dL_taxAhead_1 : decode (i_b iL_taxAhead) 1 = .ok (.iconst 0, 1) := by decide +kernel
theorem wL_taxAhead_1  (kk : QW V iL_taxAhead 2 [a0, a1, a2, a3, a4] (.int (0) :: st) h z bc bs Kr Kx) : QW V iL_taxAhead 1 [a0, a1, a2, a3, a4] (st) h z bc bs Kr Kx := q_iconst dL_taxAhead_1 (by decide) kk
theorem dL_taxAhead_2 : decode (i_b iL_taxAhead) 2 = .ok (.aload_n 0, 1) := by decide +kernel
theorem wL_taxAhead_2 {x : Nat} (kk : QW V iL_taxAhead 3 [some (.ref x), a1, a2, a3, a4] (.ref x :: st) h z bc bs Kr Kx) : QW V iL_taxAhead 2 [some (.ref x), a1, a2, a3, a4] (st) h z bc bs Kr Kx := q_aload_n dL_taxAhead_2 rfl rfl kk
theorem dL_taxAhead_3 : decode (i_b iL_taxAhead) 3 = .ok (.iload_n 1, 1) := by decide +kernel
theorem wL_taxAhead_3 {x : Int32} (kk : QW V iL_taxAhead 4 [a0, some (.int x), a2, a3, a4] (.int x :: st) h z bc bs Kr Kx) : QW V iL_taxAhead 3 [a0, some (.int x), a2, a3, a4] (st) h z bc bs Kr Kx := q_iload_n dL_taxAhead_3 rfl rfl kk
theorem dL_taxAhead_4 : decode (i_b iL_taxAhead) 4 = .ok (.iload_n 2, 1) := by decide +kernel
theorem wL_taxAhead_4 {x : Int32} (kk : QW V iL_taxAhead 5 [a0, a1, some (.int x), a3, a4] (.int x :: st) h z bc bs Kr Kx) : QW V iL_taxAhead 4 [a0, a1, some (.int x), a3, a4] (st) h z bc bs Kr Kx := q_iload_n dL_taxAhead_4 rfl rfl kk
theorem dL_taxAhead_5 : decode (i_b iL_taxAhead) 5 = .ok (.invokevirtual 133, 3) := by decide +kernel
theorem wL_taxAhead_5 {a : Nat} {fs : List Value} {x0 : Int32} {x1 : Int32} (hb : h a = some (.inr (9, fs))) (hm : QMl V iX8_taxAhead [.ref a, .int x0, .int x1] h z (fun r h' z' => QW V iL_taxAhead 8 [a0, a1, a2, a3, a4] (.long r :: st) h' z' bc bs Kr Kx) (fun E h2 => (E = "java/lang/IllegalStateException" ∧ ∀ q : Nat, QW V iL_taxAhead 12 [a0, a1, a2, a3, a4] [.ref q] h2 none bc bs Kr Kx) ∨ (E = "java/lang/IllegalArgumentException" ∧ ∀ q : Nat, QW V iL_taxAhead 16 [a0, a1, a2, a3, a4] [.ref q] h2 none bc bs Kr Kx))) (hW : (st.map fun v => v.category).sum ≤ 8 := by exact Nat.le_of_ble_eq_true rfl) : QW V iL_taxAhead 5 [a0, a1, a2, a3, a4] (.int x1 :: .int x0 :: .ref a :: st) h z (bc + 3) (bs + 18) Kr Kx := by
  refine q_callVX (y' := iX8_taxAhead) (As := [.int x0, .int x1]) (rest := st) dL_taxAhead_5 k5_192 k5_193 k5_194 k1_1 hhX8_taxAhead rfl hdX8_taxAhead rfl rfl (Nat.le_of_ble_eq_true rfl) (Nat.le_of_ble_eq_true rfl) hW hb (fun E h2 => (E = "java/lang/IllegalStateException" ∧ ∀ q : Nat, QW V iL_taxAhead 12 [a0, a1, a2, a3, a4] [.ref q] h2 none bc bs Kr Kx) ∨ (E = "java/lang/IllegalArgumentException" ∧ ∀ q : Nat, QW V iL_taxAhead 16 [a0, a1, a2, a3, a4] [.ref q] h2 none bc bs Kr Kx)) (fun E h2 hK => ?_) (QMl.run hm)
  rcases hK with ⟨rfl, hq⟩ | ⟨rfl, hq⟩
  · exact ⟨[], [(0, 9, 16, 19)], (0, 9, 12, 13), rfl, (fun q hq => nomatch hq), by decide, by decide, k3_19, by decide +kernel, hq⟩
  · exact ⟨[(0, 9, 12, 13)], [], (0, 9, 16, 19), rfl, (by intro q hq; simp only [List.mem_cons, List.not_mem_nil, or_false] at hq; subst hq; exact ⟨by decide, "java/lang/IllegalStateException", k3_19, by decide +kernel⟩), by decide, by decide, k3_99, by decide +kernel, hq⟩
theorem dL_taxAhead_8 : decode (i_b iL_taxAhead) 8 = .ok (.lastore, 1) := by decide +kernel
theorem wL_taxAhead_8 {a n j : Nat} {f : Nat → Int64} {i : Int32} {x : Int64} (ha : h a = some (.inl (2, n, .inr (.inl f)))) (hi : i = nI j) (hj : j < n) (hn : n < 2147483648) (kk : QW V iL_taxAhead 9 [a0, a1, a2, a3, a4] (st) (q_up h a (.inl (2, n, .inr (.inl (vp_updL f j x))))) z bc bs Kr Kx) : QW V iL_taxAhead 8 [a0, a1, a2, a3, a4] (.long x :: .int i :: .ref a :: st) h z bc bs Kr Kx := q_last dL_taxAhead_8 ha hi hj hn kk
theorem wL_taxAhead_8u {a n j : Nat} {f : Nat → Int64} {i : Int32} {x : Int64} (hi : i = nI j) (hj : j < n) (hn : n < 2147483648) (kk : QW V iL_taxAhead 9 [a0, a1, a2, a3, a4] (st) (q_up h a (.inl (2, n, .inr (.inl (vp_updL f j x))))) z bc bs Kr Kx) : QW V iL_taxAhead 8 [a0, a1, a2, a3, a4] (.long x :: .int i :: .ref a :: st) (q_up h a (.inl (2, n, .inr (.inl f)))) z bc bs Kr Kx := wL_taxAhead_8 q_up_s hi hj hn (by rw [q_up_u]; exact kk)
theorem dL_taxAhead_9 : decode (i_b iL_taxAhead) 9 = .ok (.goto 11, 3) := by decide +kernel
theorem wL_taxAhead_9  (kk : QW V iL_taxAhead 20 [a0, a1, a2, a3, a4] (st) h z bc bs Kr Kx) : QW V iL_taxAhead 9 [a0, a1, a2, a3, a4] (st) h z bc bs Kr Kx := q_goto dL_taxAhead_9 (by decide) kk
theorem dL_taxAhead_12 : decode (i_b iL_taxAhead) 12 = .ok (.astore 4, 2) := by decide +kernel
theorem wL_taxAhead_12 {x : Nat} (kk : QW V iL_taxAhead 14 [a0, a1, a2, a3, some (.ref x)] (st) h z bc bs Kr Kx) (hp : q_n2 a3 = true := by rfl) : QW V iL_taxAhead 12 [a0, a1, a2, a3, a4] (.ref x :: st) h z bc bs Kr Kx := q_astore dL_taxAhead_12 (Nat.le_of_ble_eq_true rfl) hp kk
theorem dL_taxAhead_14 : decode (i_b iL_taxAhead) 14 = .ok (.iconst 1, 1) := by decide +kernel
theorem wL_taxAhead_14  (kk : QW V iL_taxAhead 15 [a0, a1, a2, a3, a4] (.int (1) :: st) h z bc bs Kr Kx) : QW V iL_taxAhead 14 [a0, a1, a2, a3, a4] (st) h z bc bs Kr Kx := q_iconst dL_taxAhead_14 (by decide) kk
theorem dL_taxAhead_15 : decode (i_b iL_taxAhead) 15 = .ok (.ireturn, 1) := by decide +kernel
theorem wL_taxAhead_15 {x : Int32} {P : Int32 → q_H → Option Nat → Prop} (hk : P x h z) : QW V iL_taxAhead 15 [a0, a1, a2, a3, a4] [.int x] h z bc bs (q_Ki P) Kx := q_iret dL_taxAhead_15 rfl rfl ⟨x, rfl, hk⟩
theorem dL_taxAhead_16 : decode (i_b iL_taxAhead) 16 = .ok (.astore 4, 2) := by decide +kernel
theorem wL_taxAhead_16 {x : Nat} (kk : QW V iL_taxAhead 18 [a0, a1, a2, a3, some (.ref x)] (st) h z bc bs Kr Kx) (hp : q_n2 a3 = true := by rfl) : QW V iL_taxAhead 16 [a0, a1, a2, a3, a4] (.ref x :: st) h z bc bs Kr Kx := q_astore dL_taxAhead_16 (Nat.le_of_ble_eq_true rfl) hp kk
theorem dL_taxAhead_18 : decode (i_b iL_taxAhead) 18 = .ok (.iconst 2, 1) := by decide +kernel
theorem wL_taxAhead_18  (kk : QW V iL_taxAhead 19 [a0, a1, a2, a3, a4] (.int (2) :: st) h z bc bs Kr Kx) : QW V iL_taxAhead 18 [a0, a1, a2, a3, a4] (st) h z bc bs Kr Kx := q_iconst dL_taxAhead_18 (by decide) kk
theorem dL_taxAhead_19 : decode (i_b iL_taxAhead) 19 = .ok (.ireturn, 1) := by decide +kernel
theorem wL_taxAhead_19 {x : Int32} {P : Int32 → q_H → Option Nat → Prop} (hk : P x h z) : QW V iL_taxAhead 19 [a0, a1, a2, a3, a4] [.int x] h z bc bs (q_Ki P) Kx := q_iret dL_taxAhead_19 rfl rfl ⟨x, rfl, hk⟩
theorem dL_taxAhead_20 : decode (i_b iL_taxAhead) 20 = .ok (.iconst 0, 1) := by decide +kernel
theorem wL_taxAhead_20  (kk : QW V iL_taxAhead 21 [a0, a1, a2, a3, a4] (.int (0) :: st) h z bc bs Kr Kx) : QW V iL_taxAhead 20 [a0, a1, a2, a3, a4] (st) h z bc bs Kr Kx := q_iconst dL_taxAhead_20 (by decide) kk
theorem dL_taxAhead_21 : decode (i_b iL_taxAhead) 21 = .ok (.ireturn, 1) := by decide +kernel
theorem wL_taxAhead_21 {x : Int32} {P : Int32 → q_H → Option Nat → Prop} (hk : P x h z) : QW V iL_taxAhead 21 [a0, a1, a2, a3, a4] [.int x] h z bc bs (q_Ki P) Kx := q_iret dL_taxAhead_21 rfl rfl ⟨x, rfl, hk⟩
theorem eL_undo {x0 : Nat} {x1 : Nat} {P : Int32 → q_H → Option Nat → Prop} (kk : QW V iL_undo 0 [some (.ref x0), some (.ref x1), none] [] h z 1 6 (q_Ki P) Kx) : QMi V iL_undo [.ref x0, .ref x1] h z P Kx := q_enterH (by decide) (by decide +kernel) rfl (Nat.le_of_ble_eq_true rfl) kk
theorem dL_undo_0 : decode (i_b iL_undo) 0 = .ok (.aload_n 1, 1) := by decide +kernel
theorem wL_undo_0 {x : Nat} (kk : QW V iL_undo 1 [a0, some (.ref x), a2] (.ref x :: st) h z bc bs Kr Kx) : QW V iL_undo 0 [a0, some (.ref x), a2] (st) h z bc bs Kr Kx := q_aload_n dL_undo_0 rfl rfl kk
theorem dL_undo_1 : decode (i_b iL_undo) 1 = .ok (.iconst 0, 1) := by decide +kernel
theorem wL_undo_1  (kk : QW V iL_undo 2 [a0, a1, a2] (.int (0) :: st) h z bc bs Kr Kx) : QW V iL_undo 1 [a0, a1, a2] (st) h z bc bs Kr Kx := q_iconst dL_undo_1 (by decide) kk
theorem dL_undo_2 : decode (i_b iL_undo) 2 = .ok (.aload_n 0, 1) := by decide +kernel
theorem wL_undo_2 {x : Nat} (kk : QW V iL_undo 3 [some (.ref x), a1, a2] (.ref x :: st) h z bc bs Kr Kx) : QW V iL_undo 2 [some (.ref x), a1, a2] (st) h z bc bs Kr Kx := q_aload_n dL_undo_2 rfl rfl kk
theorem dL_undo_3 : decode (i_b iL_undo) 3 = .ok (.invokevirtual 137, 3) := by decide +kernel
theorem wL_undo_3 {a : Nat} {fs : List Value}  (hb : h a = some (.inr (9, fs))) (hm : QMi V iX8_undo [.ref a] h z (fun r h' z' => QW V iL_undo 6 [a0, a1, a2] (.int r :: st) h' z' bc bs Kr Kx) (fun E h2 => (E = "java/lang/IllegalStateException" ∧ ∀ q : Nat, QW V iL_undo 11 [a0, a1, a2] [.ref q] h2 none bc bs Kr Kx))) (hW : (st.map fun v => v.category).sum ≤ 8 := by exact Nat.le_of_ble_eq_true rfl) : QW V iL_undo 3 [a0, a1, a2] (.ref a :: st) h z (bc + 1) (bs + 6) Kr Kx := by
  refine q_callVX (y' := iX8_undo) (As := []) (rest := st) dL_undo_3 k5_199 k5_200 k5_201 k1_1 hhX8_undo rfl hdX8_undo rfl rfl (Nat.le_of_ble_eq_true rfl) (Nat.le_of_ble_eq_true rfl) hW hb (fun E h2 => (E = "java/lang/IllegalStateException" ∧ ∀ q : Nat, QW V iL_undo 11 [a0, a1, a2] [.ref q] h2 none bc bs Kr Kx)) (fun E h2 hK => ?_) (QMi.run hm)
  obtain ⟨rfl, hq⟩ := hK
  exact ⟨[], [], (0, 8, 11, 13), rfl, (fun q hq => nomatch hq), by decide, by decide, k3_19, by decide +kernel, hq⟩
theorem dL_undo_6 : decode (i_b iL_undo) 6 = .ok (.i2l, 1) := by decide +kernel
theorem wL_undo_6 {x : Int32} (kk : QW V iL_undo 7 [a0, a1, a2] (.long (x.toInt64) :: st) h z bc bs Kr Kx) : QW V iL_undo 6 [a0, a1, a2] (.int x :: st) h z bc bs Kr Kx := q_i2l dL_undo_6 kk
theorem dL_undo_7 : decode (i_b iL_undo) 7 = .ok (.lastore, 1) := by decide +kernel
theorem wL_undo_7 {a n j : Nat} {f : Nat → Int64} {i : Int32} {x : Int64} (ha : h a = some (.inl (2, n, .inr (.inl f)))) (hi : i = nI j) (hj : j < n) (hn : n < 2147483648) (kk : QW V iL_undo 8 [a0, a1, a2] (st) (q_up h a (.inl (2, n, .inr (.inl (vp_updL f j x))))) z bc bs Kr Kx) : QW V iL_undo 7 [a0, a1, a2] (.long x :: .int i :: .ref a :: st) h z bc bs Kr Kx := q_last dL_undo_7 ha hi hj hn kk
theorem wL_undo_7u {a n j : Nat} {f : Nat → Int64} {i : Int32} {x : Int64} (hi : i = nI j) (hj : j < n) (hn : n < 2147483648) (kk : QW V iL_undo 8 [a0, a1, a2] (st) (q_up h a (.inl (2, n, .inr (.inl (vp_updL f j x))))) z bc bs Kr Kx) : QW V iL_undo 7 [a0, a1, a2] (.long x :: .int i :: .ref a :: st) (q_up h a (.inl (2, n, .inr (.inl f)))) z bc bs Kr Kx := wL_undo_7 q_up_s hi hj hn (by rw [q_up_u]; exact kk)
theorem dL_undo_8 : decode (i_b iL_undo) 8 = .ok (.goto 6, 3) := by decide +kernel
theorem wL_undo_8  (kk : QW V iL_undo 14 [a0, a1, a2] (st) h z bc bs Kr Kx) : QW V iL_undo 8 [a0, a1, a2] (st) h z bc bs Kr Kx := q_goto dL_undo_8 (by decide) kk
theorem dL_undo_11 : decode (i_b iL_undo) 11 = .ok (.astore_n 2, 1) := by decide +kernel
theorem wL_undo_11 {x : Nat} (kk : QW V iL_undo 12 [a0, a1, some (.ref x)] (st) h z bc bs Kr Kx) (hp : q_n2 a1 = true := by rfl) : QW V iL_undo 11 [a0, a1, a2] (.ref x :: st) h z bc bs Kr Kx := q_astore_n dL_undo_11 rfl (Nat.le_of_ble_eq_true rfl) hp kk
theorem dL_undo_12 : decode (i_b iL_undo) 12 = .ok (.iconst 1, 1) := by decide +kernel
theorem wL_undo_12  (kk : QW V iL_undo 13 [a0, a1, a2] (.int (1) :: st) h z bc bs Kr Kx) : QW V iL_undo 12 [a0, a1, a2] (st) h z bc bs Kr Kx := q_iconst dL_undo_12 (by decide) kk
theorem dL_undo_13 : decode (i_b iL_undo) 13 = .ok (.ireturn, 1) := by decide +kernel
theorem wL_undo_13 {x : Int32} {P : Int32 → q_H → Option Nat → Prop} (hk : P x h z) : QW V iL_undo 13 [a0, a1, a2] [.int x] h z bc bs (q_Ki P) Kx := q_iret dL_undo_13 rfl rfl ⟨x, rfl, hk⟩
theorem dL_undo_14 : decode (i_b iL_undo) 14 = .ok (.iconst 0, 1) := by decide +kernel
theorem wL_undo_14  (kk : QW V iL_undo 15 [a0, a1, a2] (.int (0) :: st) h z bc bs Kr Kx) : QW V iL_undo 14 [a0, a1, a2] (st) h z bc bs Kr Kx := q_iconst dL_undo_14 (by decide) kk
theorem dL_undo_15 : decode (i_b iL_undo) 15 = .ok (.ireturn, 1) := by decide +kernel
theorem wL_undo_15 {x : Int32} {P : Int32 → q_H → Option Nat → Prop} (hk : P x h z) : QW V iL_undo 15 [a0, a1, a2] [.int x] h z bc bs (q_Ki P) Kx := q_iret dL_undo_15 rfl rfl ⟨x, rfl, hk⟩
end QXL
