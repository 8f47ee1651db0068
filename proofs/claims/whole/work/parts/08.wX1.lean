section QX1
variable {V : q_En} {st : List Value} {h : q_H} {z : Option Nat} {bc bs : Nat} {Kr : q_KR} {Kx : q_KX} {a0 a1 a2 a3 a4 a5 a6 a7 a8 a9 a10 a11 a12 a13 a14 a15 : Option Value}

theorem eX1_init {o : Nat} {P : q_H → Option Nat → Prop} (kk : QW V iX1_init 0 [some (.ref o)] [] h z 0 0 (q_Kv P) Kx) : QMv V iX1_init [.ref o] h z P Kx := q_enter rfl (by decide +kernel) rfl (Nat.le_of_ble_eq_true rfl) kk
theorem dX1_init_0 : decode (i_b iX1_init) 0 = .ok (.aload_n 0, 1) := by decide +kernel
theorem wX1_init_0 {x : Nat} (kk : QW V iX1_init 1 [some (.ref x)] (.ref x :: st) h z bc bs Kr Kx) : QW V iX1_init 0 [some (.ref x)] (st) h z bc bs Kr Kx := q_aload_n dX1_init_0 rfl rfl kk
theorem dX1_init_1 : decode (i_b iX1_init) 1 = .ok (.invokespecial 1, 3) := by decide +kernel
theorem wX1_init_1 {a : Nat} (kk : QW V iX1_init 4 [a0] (st) h z bc bs Kr Kx) (hW : (st.map fun v => v.category).sum ≤ 8 := by exact Nat.le_of_ble_eq_true rfl) : QW V iX1_init 1 [a0] (.ref a :: st) h z bc bs Kr Kx := q_objI dX1_init_1 k1_44 k1_31 kObj (Nat.le_of_ble_eq_true rfl) (Nat.le_trans (Nat.add_le_add_right hW 12) (Nat.le_of_ble_eq_true rfl)) kk
theorem dX1_init_4 : decode (i_b iX1_init) 4 = .ok (.aload_n 0, 1) := by decide +kernel
theorem wX1_init_4 {x : Nat} (kk : QW V iX1_init 5 [some (.ref x)] (.ref x :: st) h z bc bs Kr Kx) : QW V iX1_init 4 [some (.ref x)] (st) h z bc bs Kr Kx := q_aload_n dX1_init_4 rfl rfl kk
theorem dX1_init_5 : decode (i_b iX1_init) 5 = .ok (.iconst 1, 1) := by decide +kernel
theorem wX1_init_5  (kk : QW V iX1_init 6 [a0] (.int (1) :: st) h z bc bs Kr Kx) : QW V iX1_init 5 [a0] (st) h z bc bs Kr Kx := q_iconst dX1_init_5 (by decide) kk
theorem dX1_init_6 : decode (i_b iX1_init) 6 = .ok (.putfield 7, 3) := by decide +kernel
theorem wX1_init_6 {a : Nat} {f0 f1 f2 f3 f4 : Value} {x : Int32} (ha : h a = some (.inr (2, [f0, f1, f2, f3, f4]))) (kk : QW V iX1_init 9 [a0] (st) (q_up h a (.inr (2, [.int x, f1, f2, f3, f4]))) z bc bs Kr Kx) : QW V iX1_init 6 [a0] (.int x :: .ref a :: st) h z bc bs Kr Kx := q_putf (k := 0) tyX1 dX1_init_6 klX1 tyX1_ok nmX1 rfl (Nat.le_of_ble_eq_true rfl : 0 < 5) k1_45 rfl rfl rfl rfl (Nat.le_of_ble_eq_true rfl) ha kk
theorem wX1_init_6u {a : Nat} {f0 f1 f2 f3 f4 : Value} {x : Int32} (kk : QW V iX1_init 9 [a0] (st) (q_up h a (.inr (2, [.int x, f1, f2, f3, f4]))) z bc bs Kr Kx) : QW V iX1_init 6 [a0] (.int x :: .ref a :: st) (q_up h a (.inr (2, [f0, f1, f2, f3, f4]))) z bc bs Kr Kx := wX1_init_6 q_up_s (by rw [q_up_u]; exact kk)
theorem dX1_init_9 : decode (i_b iX1_init) 9 = .ok (.aload_n 0, 1) := by decide +kernel
theorem wX1_init_9 {x : Nat} (kk : QW V iX1_init 10 [some (.ref x)] (.ref x :: st) h z bc bs Kr Kx) : QW V iX1_init 9 [some (.ref x)] (st) h z bc bs Kr Kx := q_aload_n dX1_init_9 rfl rfl kk
theorem dX1_init_10 : decode (i_b iX1_init) 10 = .ok (.iconst 0, 1) := by decide +kernel
theorem wX1_init_10  (kk : QW V iX1_init 11 [a0] (.int (0) :: st) h z bc bs Kr Kx) : QW V iX1_init 10 [a0] (st) h z bc bs Kr Kx := q_iconst dX1_init_10 (by decide) kk
theorem dX1_init_11 : decode (i_b iX1_init) 11 = .ok (.putfield 13, 3) := by decide +kernel
theorem wX1_init_11 {a : Nat} {f0 f1 f2 f3 f4 : Value} {x : Int32} (ha : h a = some (.inr (2, [f0, f1, f2, f3, f4]))) (kk : QW V iX1_init 14 [a0] (st) (q_up h a (.inr (2, [f0, .int x, f2, f3, f4]))) z bc bs Kr Kx) : QW V iX1_init 11 [a0] (.int x :: .ref a :: st) h z bc bs Kr Kx := q_putf (k := 1) tyX1 dX1_init_11 klX1 tyX1_ok nmX1 rfl (Nat.le_of_ble_eq_true rfl : 1 < 5) k1_47 rfl rfl rfl rfl (Nat.le_of_ble_eq_true rfl) ha kk
theorem wX1_init_11u {a : Nat} {f0 f1 f2 f3 f4 : Value} {x : Int32} (kk : QW V iX1_init 14 [a0] (st) (q_up h a (.inr (2, [f0, .int x, f2, f3, f4]))) z bc bs Kr Kx) : QW V iX1_init 11 [a0] (.int x :: .ref a :: st) (q_up h a (.inr (2, [f0, f1, f2, f3, f4]))) z bc bs Kr Kx := wX1_init_11 q_up_s (by rw [q_up_u]; exact kk)
theorem dX1_init_14 : decode (i_b iX1_init) 14 = .ok (.aload_n 0, 1) := by decide +kernel
theorem wX1_init_14 {x : Nat} (kk : QW V iX1_init 15 [some (.ref x)] (.ref x :: st) h z bc bs Kr Kx) : QW V iX1_init 14 [some (.ref x)] (st) h z bc bs Kr Kx := q_aload_n dX1_init_14 rfl rfl kk
theorem dX1_init_15 : decode (i_b iX1_init) 15 = .ok (.iconst 1, 1) := by decide +kernel
theorem wX1_init_15  (kk : QW V iX1_init 16 [a0] (.int (1) :: st) h z bc bs Kr Kx) : QW V iX1_init 15 [a0] (st) h z bc bs Kr Kx := q_iconst dX1_init_15 (by decide) kk
theorem dX1_init_16 : decode (i_b iX1_init) 16 = .ok (.putfield 16, 3) := by decide +kernel
theorem wX1_init_16 {a : Nat} {f0 f1 f2 f3 f4 : Value} {x : Int32} (ha : h a = some (.inr (2, [f0, f1, f2, f3, f4]))) (kk : QW V iX1_init 19 [a0] (st) (q_up h a (.inr (2, [f0, f1, .int x, f3, f4]))) z bc bs Kr Kx) : QW V iX1_init 16 [a0] (.int x :: .ref a :: st) h z bc bs Kr Kx := q_putf (k := 2) tyX1 dX1_init_16 klX1 tyX1_ok nmX1 rfl (Nat.le_of_ble_eq_true rfl : 2 < 5) k1_49 rfl rfl rfl rfl (Nat.le_of_ble_eq_true rfl) ha kk
theorem wX1_init_16u {a : Nat} {f0 f1 f2 f3 f4 : Value} {x : Int32} (kk : QW V iX1_init 19 [a0] (st) (q_up h a (.inr (2, [f0, f1, .int x, f3, f4]))) z bc bs Kr Kx) : QW V iX1_init 16 [a0] (.int x :: .ref a :: st) (q_up h a (.inr (2, [f0, f1, f2, f3, f4]))) z bc bs Kr Kx := wX1_init_16 q_up_s (by rw [q_up_u]; exact kk)
theorem dX1_init_19 : decode (i_b iX1_init) 19 = .ok (.aload_n 0, 1) := by decide +kernel
theorem wX1_init_19 {x : Nat} (kk : QW V iX1_init 20 [some (.ref x)] (.ref x :: st) h z bc bs Kr Kx) : QW V iX1_init 19 [some (.ref x)] (st) h z bc bs Kr Kx := q_aload_n dX1_init_19 rfl rfl kk
theorem dX1_init_20 : decode (i_b iX1_init) 20 = .ok (.iconst 0, 1) := by decide +kernel
theorem wX1_init_20  (kk : QW V iX1_init 21 [a0] (.int (0) :: st) h z bc bs Kr Kx) : QW V iX1_init 20 [a0] (st) h z bc bs Kr Kx := q_iconst dX1_init_20 (by decide) kk
theorem dX1_init_21 : decode (i_b iX1_init) 21 = .ok (.putfield 19, 3) := by decide +kernel
theorem wX1_init_21 {a : Nat} {f0 f1 f2 f3 f4 : Value} {x : Int32} (ha : h a = some (.inr (2, [f0, f1, f2, f3, f4]))) (kk : QW V iX1_init 24 [a0] (st) (q_up h a (.inr (2, [f0, f1, f2, .int x, f4]))) z bc bs Kr Kx) : QW V iX1_init 21 [a0] (.int x :: .ref a :: st) h z bc bs Kr Kx := q_putf (k := 3) tyX1 dX1_init_21 klX1 tyX1_ok nmX1 rfl (Nat.le_of_ble_eq_true rfl : 3 < 5) k1_52 rfl rfl rfl rfl (Nat.le_of_ble_eq_true rfl) ha kk
theorem wX1_init_21u {a : Nat} {f0 f1 f2 f3 f4 : Value} {x : Int32} (kk : QW V iX1_init 24 [a0] (st) (q_up h a (.inr (2, [f0, f1, f2, .int x, f4]))) z bc bs Kr Kx) : QW V iX1_init 21 [a0] (.int x :: .ref a :: st) (q_up h a (.inr (2, [f0, f1, f2, f3, f4]))) z bc bs Kr Kx := wX1_init_21 q_up_s (by rw [q_up_u]; exact kk)
theorem dX1_init_24 : decode (i_b iX1_init) 24 = .ok (.aload_n 0, 1) := by decide +kernel
theorem wX1_init_24 {x : Nat} (kk : QW V iX1_init 25 [some (.ref x)] (.ref x :: st) h z bc bs Kr Kx) : QW V iX1_init 24 [some (.ref x)] (st) h z bc bs Kr Kx := q_aload_n dX1_init_24 rfl rfl kk
theorem dX1_init_25 : decode (i_b iX1_init) 25 = .ok (.iconst 0, 1) := by decide +kernel
theorem wX1_init_25  (kk : QW V iX1_init 26 [a0] (.int (0) :: st) h z bc bs Kr Kx) : QW V iX1_init 25 [a0] (st) h z bc bs Kr Kx := q_iconst dX1_init_25 (by decide) kk
theorem dX1_init_26 : decode (i_b iX1_init) 26 = .ok (.putfield 22, 3) := by decide +kernel
theorem wX1_init_26 {a : Nat} {f0 f1 f2 f3 f4 : Value} {x : Int32} (ha : h a = some (.inr (2, [f0, f1, f2, f3, f4]))) (kk : QW V iX1_init 29 [a0] (st) (q_up h a (.inr (2, [f0, f1, f2, f3, .int x]))) z bc bs Kr Kx) : QW V iX1_init 26 [a0] (.int x :: .ref a :: st) h z bc bs Kr Kx := q_putf (k := 4) tyX1 dX1_init_26 klX1 tyX1_ok nmX1 rfl (Nat.le_of_ble_eq_true rfl : 4 < 5) k1_55 rfl rfl rfl rfl (Nat.le_of_ble_eq_true rfl) ha kk
theorem wX1_init_26u {a : Nat} {f0 f1 f2 f3 f4 : Value} {x : Int32} (kk : QW V iX1_init 29 [a0] (st) (q_up h a (.inr (2, [f0, f1, f2, f3, .int x]))) z bc bs Kr Kx) : QW V iX1_init 26 [a0] (.int x :: .ref a :: st) (q_up h a (.inr (2, [f0, f1, f2, f3, f4]))) z bc bs Kr Kx := wX1_init_26 q_up_s (by rw [q_up_u]; exact kk)
theorem dX1_init_29 : decode (i_b iX1_init) 29 = .ok (.return_, 1) := by decide +kernel
theorem wX1_init_29 {P : q_H → Option Nat → Prop} (hk : P h z) : QW V iX1_init 29 [a0] [] h z bc bs (q_Kv P) Kx := q_vret dX1_init_29 rfl ⟨rfl, hk⟩
theorem eX1_agree {o : Nat} {x0 : Int32} {x1 : Int32} {x2 : Int32} {x3 : Int32} {x4 : Int32} {P : q_H → Option Nat → Prop} (kk : QW V iX1_agree 0 [some (.ref o), some (.int x0), some (.int x1), some (.int x2), some (.int x3), some (.int x4)] [] h z 0 0 (q_Kv P) Kx) : QMv V iX1_agree [.ref o, .int x0, .int x1, .int x2, .int x3, .int x4] h z P Kx := q_enter rfl (by decide +kernel) rfl (Nat.le_of_ble_eq_true rfl) kk
theorem dX1_agree_0 : decode (i_b iX1_agree) 0 = .ok (.aload_n 0, 1) := by decide +kernel
theorem wX1_agree_0 {x : Nat} (kk : QW V iX1_agree 1 [some (.ref x), a1, a2, a3, a4, a5] (.ref x :: st) h z bc bs Kr Kx) : QW V iX1_agree 0 [some (.ref x), a1, a2, a3, a4, a5] (st) h z bc bs Kr Kx := q_aload_n dX1_agree_0 rfl rfl kk
theorem dX1_agree_1 : decode (i_b iX1_agree) 1 = .ok (.iload_n 1, 1) := by decide +kernel
theorem wX1_agree_1 {x : Int32} (kk : QW V iX1_agree 2 [a0, some (.int x), a2, a3, a4, a5] (.int x :: st) h z bc bs Kr Kx) : QW V iX1_agree 1 [a0, some (.int x), a2, a3, a4, a5] (st) h z bc bs Kr Kx := q_iload_n dX1_agree_1 rfl rfl kk
theorem dX1_agree_2 : decode (i_b iX1_agree) 2 = .ok (.putfield 7, 3) := by decide +kernel
theorem wX1_agree_2 {a : Nat} {f0 f1 f2 f3 f4 : Value} {x : Int32} (ha : h a = some (.inr (2, [f0, f1, f2, f3, f4]))) (kk : QW V iX1_agree 5 [a0, a1, a2, a3, a4, a5] (st) (q_up h a (.inr (2, [.int x, f1, f2, f3, f4]))) z bc bs Kr Kx) : QW V iX1_agree 2 [a0, a1, a2, a3, a4, a5] (.int x :: .ref a :: st) h z bc bs Kr Kx := q_putf (k := 0) tyX1 dX1_agree_2 klX1 tyX1_ok nmX1 rfl (Nat.le_of_ble_eq_true rfl : 0 < 5) k1_45 rfl rfl rfl rfl (Nat.le_of_ble_eq_true rfl) ha kk
theorem wX1_agree_2u {a : Nat} {f0 f1 f2 f3 f4 : Value} {x : Int32} (kk : QW V iX1_agree 5 [a0, a1, a2, a3, a4, a5] (st) (q_up h a (.inr (2, [.int x, f1, f2, f3, f4]))) z bc bs Kr Kx) : QW V iX1_agree 2 [a0, a1, a2, a3, a4, a5] (.int x :: .ref a :: st) (q_up h a (.inr (2, [f0, f1, f2, f3, f4]))) z bc bs Kr Kx := wX1_agree_2 q_up_s (by rw [q_up_u]; exact kk)
theorem dX1_agree_5 : decode (i_b iX1_agree) 5 = .ok (.aload_n 0, 1) := by decide +kernel
theorem wX1_agree_5 {x : Nat} (kk : QW V iX1_agree 6 [some (.ref x), a1, a2, a3, a4, a5] (.ref x :: st) h z bc bs Kr Kx) : QW V iX1_agree 5 [some (.ref x), a1, a2, a3, a4, a5] (st) h z bc bs Kr Kx := q_aload_n dX1_agree_5 rfl rfl kk
theorem dX1_agree_6 : decode (i_b iX1_agree) 6 = .ok (.iload_n 2, 1) := by decide +kernel
theorem wX1_agree_6 {x : Int32} (kk : QW V iX1_agree 7 [a0, a1, some (.int x), a3, a4, a5] (.int x :: st) h z bc bs Kr Kx) : QW V iX1_agree 6 [a0, a1, some (.int x), a3, a4, a5] (st) h z bc bs Kr Kx := q_iload_n dX1_agree_6 rfl rfl kk
theorem dX1_agree_7 : decode (i_b iX1_agree) 7 = .ok (.putfield 13, 3) := by decide +kernel
theorem wX1_agree_7 {a : Nat} {f0 f1 f2 f3 f4 : Value} {x : Int32} (ha : h a = some (.inr (2, [f0, f1, f2, f3, f4]))) (kk : QW V iX1_agree 10 [a0, a1, a2, a3, a4, a5] (st) (q_up h a (.inr (2, [f0, .int x, f2, f3, f4]))) z bc bs Kr Kx) : QW V iX1_agree 7 [a0, a1, a2, a3, a4, a5] (.int x :: .ref a :: st) h z bc bs Kr Kx := q_putf (k := 1) tyX1 dX1_agree_7 klX1 tyX1_ok nmX1 rfl (Nat.le_of_ble_eq_true rfl : 1 < 5) k1_47 rfl rfl rfl rfl (Nat.le_of_ble_eq_true rfl) ha kk
theorem wX1_agree_7u {a : Nat} {f0 f1 f2 f3 f4 : Value} {x : Int32} (kk : QW V iX1_agree 10 [a0, a1, a2, a3, a4, a5] (st) (q_up h a (.inr (2, [f0, .int x, f2, f3, f4]))) z bc bs Kr Kx) : QW V iX1_agree 7 [a0, a1, a2, a3, a4, a5] (.int x :: .ref a :: st) (q_up h a (.inr (2, [f0, f1, f2, f3, f4]))) z bc bs Kr Kx := wX1_agree_7 q_up_s (by rw [q_up_u]; exact kk)
theorem dX1_agree_10 : decode (i_b iX1_agree) 10 = .ok (.aload_n 0, 1) := by decide +kernel
theorem wX1_agree_10 {x : Nat} (kk : QW V iX1_agree 11 [some (.ref x), a1, a2, a3, a4, a5] (.ref x :: st) h z bc bs Kr Kx) : QW V iX1_agree 10 [some (.ref x), a1, a2, a3, a4, a5] (st) h z bc bs Kr Kx := q_aload_n dX1_agree_10 rfl rfl kk
theorem dX1_agree_11 : decode (i_b iX1_agree) 11 = .ok (.iload_n 3, 1) := by decide +kernel
theorem wX1_agree_11 {x : Int32} (kk : QW V iX1_agree 12 [a0, a1, a2, some (.int x), a4, a5] (.int x :: st) h z bc bs Kr Kx) : QW V iX1_agree 11 [a0, a1, a2, some (.int x), a4, a5] (st) h z bc bs Kr Kx := q_iload_n dX1_agree_11 rfl rfl kk
theorem dX1_agree_12 : decode (i_b iX1_agree) 12 = .ok (.putfield 16, 3) := by decide +kernel
theorem wX1_agree_12 {a : Nat} {f0 f1 f2 f3 f4 : Value} {x : Int32} (ha : h a = some (.inr (2, [f0, f1, f2, f3, f4]))) (kk : QW V iX1_agree 15 [a0, a1, a2, a3, a4, a5] (st) (q_up h a (.inr (2, [f0, f1, .int x, f3, f4]))) z bc bs Kr Kx) : QW V iX1_agree 12 [a0, a1, a2, a3, a4, a5] (.int x :: .ref a :: st) h z bc bs Kr Kx := q_putf (k := 2) tyX1 dX1_agree_12 klX1 tyX1_ok nmX1 rfl (Nat.le_of_ble_eq_true rfl : 2 < 5) k1_49 rfl rfl rfl rfl (Nat.le_of_ble_eq_true rfl) ha kk
theorem wX1_agree_12u {a : Nat} {f0 f1 f2 f3 f4 : Value} {x : Int32} (kk : QW V iX1_agree 15 [a0, a1, a2, a3, a4, a5] (st) (q_up h a (.inr (2, [f0, f1, .int x, f3, f4]))) z bc bs Kr Kx) : QW V iX1_agree 12 [a0, a1, a2, a3, a4, a5] (.int x :: .ref a :: st) (q_up h a (.inr (2, [f0, f1, f2, f3, f4]))) z bc bs Kr Kx := wX1_agree_12 q_up_s (by rw [q_up_u]; exact kk)
theorem dX1_agree_15 : decode (i_b iX1_agree) 15 = .ok (.aload_n 0, 1) := by decide +kernel
theorem wX1_agree_15 {x : Nat} (kk : QW V iX1_agree 16 [some (.ref x), a1, a2, a3, a4, a5] (.ref x :: st) h z bc bs Kr Kx) : QW V iX1_agree 15 [some (.ref x), a1, a2, a3, a4, a5] (st) h z bc bs Kr Kx := q_aload_n dX1_agree_15 rfl rfl kk
theorem dX1_agree_16 : decode (i_b iX1_agree) 16 = .ok (.iload 4, 2) := by decide +kernel
theorem wX1_agree_16 {x : Int32} (kk : QW V iX1_agree 18 [a0, a1, a2, a3, some (.int x), a5] (.int x :: st) h z bc bs Kr Kx) : QW V iX1_agree 16 [a0, a1, a2, a3, some (.int x), a5] (st) h z bc bs Kr Kx := q_iload dX1_agree_16 rfl kk
theorem dX1_agree_18 : decode (i_b iX1_agree) 18 = .ok (.putfield 19, 3) := by decide +kernel
theorem wX1_agree_18 {a : Nat} {f0 f1 f2 f3 f4 : Value} {x : Int32} (ha : h a = some (.inr (2, [f0, f1, f2, f3, f4]))) (kk : QW V iX1_agree 21 [a0, a1, a2, a3, a4, a5] (st) (q_up h a (.inr (2, [f0, f1, f2, .int x, f4]))) z bc bs Kr Kx) : QW V iX1_agree 18 [a0, a1, a2, a3, a4, a5] (.int x :: .ref a :: st) h z bc bs Kr Kx := q_putf (k := 3) tyX1 dX1_agree_18 klX1 tyX1_ok nmX1 rfl (Nat.le_of_ble_eq_true rfl : 3 < 5) k1_52 rfl rfl rfl rfl (Nat.le_of_ble_eq_true rfl) ha kk
theorem wX1_agree_18u {a : Nat} {f0 f1 f2 f3 f4 : Value} {x : Int32} (kk : QW V iX1_agree 21 [a0, a1, a2, a3, a4, a5] (st) (q_up h a (.inr (2, [f0, f1, f2, .int x, f4]))) z bc bs Kr Kx) : QW V iX1_agree 18 [a0, a1, a2, a3, a4, a5] (.int x :: .ref a :: st) (q_up h a (.inr (2, [f0, f1, f2, f3, f4]))) z bc bs Kr Kx := wX1_agree_18 q_up_s (by rw [q_up_u]; exact kk)
theorem dX1_agree_21 : decode (i_b iX1_agree) 21 = .ok (.aload_n 0, 1) := by decide +kernel
theorem wX1_agree_21 {x : Nat} (kk : QW V iX1_agree 22 [some (.ref x), a1, a2, a3, a4, a5] (.ref x :: st) h z bc bs Kr Kx) : QW V iX1_agree 21 [some (.ref x), a1, a2, a3, a4, a5] (st) h z bc bs Kr Kx := q_aload_n dX1_agree_21 rfl rfl kk
theorem dX1_agree_22 : decode (i_b iX1_agree) 22 = .ok (.iload 5, 2) := by decide +kernel
theorem wX1_agree_22 {x : Int32} (kk : QW V iX1_agree 24 [a0, a1, a2, a3, a4, some (.int x)] (.int x :: st) h z bc bs Kr Kx) : QW V iX1_agree 22 [a0, a1, a2, a3, a4, some (.int x)] (st) h z bc bs Kr Kx := q_iload dX1_agree_22 rfl kk
theorem dX1_agree_24 : decode (i_b iX1_agree) 24 = .ok (.putfield 22, 3) := by decide +kernel
theorem wX1_agree_24 {a : Nat} {f0 f1 f2 f3 f4 : Value} {x : Int32} (ha : h a = some (.inr (2, [f0, f1, f2, f3, f4]))) (kk : QW V iX1_agree 27 [a0, a1, a2, a3, a4, a5] (st) (q_up h a (.inr (2, [f0, f1, f2, f3, .int x]))) z bc bs Kr Kx) : QW V iX1_agree 24 [a0, a1, a2, a3, a4, a5] (.int x :: .ref a :: st) h z bc bs Kr Kx := q_putf (k := 4) tyX1 dX1_agree_24 klX1 tyX1_ok nmX1 rfl (Nat.le_of_ble_eq_true rfl : 4 < 5) k1_55 rfl rfl rfl rfl (Nat.le_of_ble_eq_true rfl) ha kk
theorem wX1_agree_24u {a : Nat} {f0 f1 f2 f3 f4 : Value} {x : Int32} (kk : QW V iX1_agree 27 [a0, a1, a2, a3, a4, a5] (st) (q_up h a (.inr (2, [f0, f1, f2, f3, .int x]))) z bc bs Kr Kx) : QW V iX1_agree 24 [a0, a1, a2, a3, a4, a5] (.int x :: .ref a :: st) (q_up h a (.inr (2, [f0, f1, f2, f3, f4]))) z bc bs Kr Kx := wX1_agree_24 q_up_s (by rw [q_up_u]; exact kk)
theorem dX1_agree_27 : decode (i_b iX1_agree) 27 = .ok (.return_, 1) := by decide +kernel
theorem wX1_agree_27 {P : q_H → Option Nat → Prop} (hk : P h z) : QW V iX1_agree 27 [a0, a1, a2, a3, a4, a5] [] h z bc bs (q_Kv P) Kx := q_vret dX1_agree_27 rfl ⟨rfl, hk⟩
theorem eX1_copyFrom {o : Nat} {x0 : Nat} {P : q_H → Option Nat → Prop} (kk : QW V iX1_copyFrom 0 [some (.ref o), some (.ref x0)] [] h z 0 0 (q_Kv P) Kx) : QMv V iX1_copyFrom [.ref o, .ref x0] h z P Kx := q_enter rfl (by decide +kernel) rfl (Nat.le_of_ble_eq_true rfl) kk
theorem dX1_copyFrom_0 : decode (i_b iX1_copyFrom) 0 = .ok (.aload_n 0, 1) := by decide +kernel
theorem wX1_copyFrom_0 {x : Nat} (kk : QW V iX1_copyFrom 1 [some (.ref x), a1] (.ref x :: st) h z bc bs Kr Kx) : QW V iX1_copyFrom 0 [some (.ref x), a1] (st) h z bc bs Kr Kx := q_aload_n dX1_copyFrom_0 rfl rfl kk
theorem dX1_copyFrom_1 : decode (i_b iX1_copyFrom) 1 = .ok (.aload_n 1, 1) := by decide +kernel
theorem wX1_copyFrom_1 {x : Nat} (kk : QW V iX1_copyFrom 2 [a0, some (.ref x)] (.ref x :: st) h z bc bs Kr Kx) : QW V iX1_copyFrom 1 [a0, some (.ref x)] (st) h z bc bs Kr Kx := q_aload_n dX1_copyFrom_1 rfl rfl kk
theorem dX1_copyFrom_2 : decode (i_b iX1_copyFrom) 2 = .ok (.getfield 7, 3) := by decide +kernel
theorem wX1_copyFrom_2 {a : Nat} {f0 f1 f2 f3 f4 : Value} (ha : h a = some (.inr (2, [f0, f1, f2, f3, f4]))) (kk : QW V iX1_copyFrom 5 [a0, a1] (f0 :: st) h z bc bs Kr Kx) : QW V iX1_copyFrom 2 [a0, a1] (.ref a :: st) h z bc bs Kr Kx := q_getf (k := 0) dX1_copyFrom_2 klX1 rfl (Nat.le_of_ble_eq_true rfl : 0 < 5) k1_45 rfl ha rfl kk
theorem wX1_copyFrom_2u {a : Nat} {f0 f1 f2 f3 f4 : Value} (kk : QW V iX1_copyFrom 5 [a0, a1] (f0 :: st) (q_up h a (.inr (2, [f0, f1, f2, f3, f4]))) z bc bs Kr Kx) : QW V iX1_copyFrom 2 [a0, a1] (.ref a :: st) (q_up h a (.inr (2, [f0, f1, f2, f3, f4]))) z bc bs Kr Kx := wX1_copyFrom_2 q_up_s kk
theorem dX1_copyFrom_5 : decode (i_b iX1_copyFrom) 5 = .ok (.aload_n 1, 1) := by decide +kernel
theorem wX1_copyFrom_5 {x : Nat} (kk : QW V iX1_copyFrom 6 [a0, some (.ref x)] (.ref x :: st) h z bc bs Kr Kx) : QW V iX1_copyFrom 5 [a0, some (.ref x)] (st) h z bc bs Kr Kx := q_aload_n dX1_copyFrom_5 rfl rfl kk
theorem dX1_copyFrom_6 : decode (i_b iX1_copyFrom) 6 = .ok (.getfield 13, 3) := by decide +kernel
theorem wX1_copyFrom_6 {a : Nat} {f0 f1 f2 f3 f4 : Value} (ha : h a = some (.inr (2, [f0, f1, f2, f3, f4]))) (kk : QW V iX1_copyFrom 9 [a0, a1] (f1 :: st) h z bc bs Kr Kx) : QW V iX1_copyFrom 6 [a0, a1] (.ref a :: st) h z bc bs Kr Kx := q_getf (k := 1) dX1_copyFrom_6 klX1 rfl (Nat.le_of_ble_eq_true rfl : 1 < 5) k1_47 rfl ha rfl kk
theorem wX1_copyFrom_6u {a : Nat} {f0 f1 f2 f3 f4 : Value} (kk : QW V iX1_copyFrom 9 [a0, a1] (f1 :: st) (q_up h a (.inr (2, [f0, f1, f2, f3, f4]))) z bc bs Kr Kx) : QW V iX1_copyFrom 6 [a0, a1] (.ref a :: st) (q_up h a (.inr (2, [f0, f1, f2, f3, f4]))) z bc bs Kr Kx := wX1_copyFrom_6 q_up_s kk
theorem dX1_copyFrom_9 : decode (i_b iX1_copyFrom) 9 = .ok (.aload_n 1, 1) := by decide +kernel
theorem wX1_copyFrom_9 {x : Nat} (kk : QW V iX1_copyFrom 10 [a0, some (.ref x)] (.ref x :: st) h z bc bs Kr Kx) : QW V iX1_copyFrom 9 [a0, some (.ref x)] (st) h z bc bs Kr Kx := q_aload_n dX1_copyFrom_9 rfl rfl kk
theorem dX1_copyFrom_10 : decode (i_b iX1_copyFrom) 10 = .ok (.getfield 16, 3) := by decide +kernel
theorem wX1_copyFrom_10 {a : Nat} {f0 f1 f2 f3 f4 : Value} (ha : h a = some (.inr (2, [f0, f1, f2, f3, f4]))) (kk : QW V iX1_copyFrom 13 [a0, a1] (f2 :: st) h z bc bs Kr Kx) : QW V iX1_copyFrom 10 [a0, a1] (.ref a :: st) h z bc bs Kr Kx := q_getf (k := 2) dX1_copyFrom_10 klX1 rfl (Nat.le_of_ble_eq_true rfl : 2 < 5) k1_49 rfl ha rfl kk
theorem wX1_copyFrom_10u {a : Nat} {f0 f1 f2 f3 f4 : Value} (kk : QW V iX1_copyFrom 13 [a0, a1] (f2 :: st) (q_up h a (.inr (2, [f0, f1, f2, f3, f4]))) z bc bs Kr Kx) : QW V iX1_copyFrom 10 [a0, a1] (.ref a :: st) (q_up h a (.inr (2, [f0, f1, f2, f3, f4]))) z bc bs Kr Kx := wX1_copyFrom_10 q_up_s kk
theorem dX1_copyFrom_13 : decode (i_b iX1_copyFrom) 13 = .ok (.aload_n 1, 1) := by decide +kernel
theorem wX1_copyFrom_13 {x : Nat} (kk : QW V iX1_copyFrom 14 [a0, some (.ref x)] (.ref x :: st) h z bc bs Kr Kx) : QW V iX1_copyFrom 13 [a0, some (.ref x)] (st) h z bc bs Kr Kx := q_aload_n dX1_copyFrom_13 rfl rfl kk
theorem dX1_copyFrom_14 : decode (i_b iX1_copyFrom) 14 = .ok (.getfield 19, 3) := by decide +kernel
theorem wX1_copyFrom_14 {a : Nat} {f0 f1 f2 f3 f4 : Value} (ha : h a = some (.inr (2, [f0, f1, f2, f3, f4]))) (kk : QW V iX1_copyFrom 17 [a0, a1] (f3 :: st) h z bc bs Kr Kx) : QW V iX1_copyFrom 14 [a0, a1] (.ref a :: st) h z bc bs Kr Kx := q_getf (k := 3) dX1_copyFrom_14 klX1 rfl (Nat.le_of_ble_eq_true rfl : 3 < 5) k1_52 rfl ha rfl kk
theorem wX1_copyFrom_14u {a : Nat} {f0 f1 f2 f3 f4 : Value} (kk : QW V iX1_copyFrom 17 [a0, a1] (f3 :: st) (q_up h a (.inr (2, [f0, f1, f2, f3, f4]))) z bc bs Kr Kx) : QW V iX1_copyFrom 14 [a0, a1] (.ref a :: st) (q_up h a (.inr (2, [f0, f1, f2, f3, f4]))) z bc bs Kr Kx := wX1_copyFrom_14 q_up_s kk
theorem dX1_copyFrom_17 : decode (i_b iX1_copyFrom) 17 = .ok (.aload_n 1, 1) := by decide +kernel
theorem wX1_copyFrom_17 {x : Nat} (kk : QW V iX1_copyFrom 18 [a0, some (.ref x)] (.ref x :: st) h z bc bs Kr Kx) : QW V iX1_copyFrom 17 [a0, some (.ref x)] (st) h z bc bs Kr Kx := q_aload_n dX1_copyFrom_17 rfl rfl kk
theorem dX1_copyFrom_18 : decode (i_b iX1_copyFrom) 18 = .ok (.getfield 22, 3) := by decide +kernel
theorem wX1_copyFrom_18 {a : Nat} {f0 f1 f2 f3 f4 : Value} (ha : h a = some (.inr (2, [f0, f1, f2, f3, f4]))) (kk : QW V iX1_copyFrom 21 [a0, a1] (f4 :: st) h z bc bs Kr Kx) : QW V iX1_copyFrom 18 [a0, a1] (.ref a :: st) h z bc bs Kr Kx := q_getf (k := 4) dX1_copyFrom_18 klX1 rfl (Nat.le_of_ble_eq_true rfl : 4 < 5) k1_55 rfl ha rfl kk
theorem wX1_copyFrom_18u {a : Nat} {f0 f1 f2 f3 f4 : Value} (kk : QW V iX1_copyFrom 21 [a0, a1] (f4 :: st) (q_up h a (.inr (2, [f0, f1, f2, f3, f4]))) z bc bs Kr Kx) : QW V iX1_copyFrom 18 [a0, a1] (.ref a :: st) (q_up h a (.inr (2, [f0, f1, f2, f3, f4]))) z bc bs Kr Kx := wX1_copyFrom_18 q_up_s kk
theorem dX1_copyFrom_21 : decode (i_b iX1_copyFrom) 21 = .ok (.invokevirtual 25, 3) := by decide +kernel
theorem wX1_copyFrom_21 {a : Nat} {fs : List Value} {x0 : Int32} {x1 : Int32} {x2 : Int32} {x3 : Int32} {x4 : Int32} (hb : h a = some (.inr (2, fs))) (hm : QMv V iX1_agree [.ref a, .int x0, .int x1, .int x2, .int x3, .int x4] h z (fun h' z' => QW V iX1_copyFrom 24 [a0, a1] (st) h' z' bc bs Kr Kx) Kx) (hW : (st.map fun v => v.category).sum ≤ 8 := by exact Nat.le_of_ble_eq_true rfl) : QW V iX1_copyFrom 21 [a0, a1] (.int x4 :: .int x3 :: .int x2 :: .int x1 :: .int x0 :: .ref a :: st) h z bc bs Kr Kx := q_callV (y' := iX1_agree) (As := [.int x0, .int x1, .int x2, .int x3, .int x4]) (rest := st) dX1_copyFrom_21 k2_238 k2_92 k2_93 k1_3 hhX1_agree rfl hdX1_agree rfl rfl (Nat.le_of_ble_eq_true rfl) (Nat.le_of_ble_eq_true rfl) hW rfl hb (QMv.run hm)
theorem dX1_copyFrom_24 : decode (i_b iX1_copyFrom) 24 = .ok (.return_, 1) := by decide +kernel
theorem wX1_copyFrom_24 {P : q_H → Option Nat → Prop} (hk : P h z) : QW V iX1_copyFrom 24 [a0, a1] [] h z bc bs (q_Kv P) Kx := q_vret dX1_copyFrom_24 rfl ⟨rfl, hk⟩
theorem eX1_salaryOf {o : Nat} {x0 : Int32} {P : Int32 → q_H → Option Nat → Prop} (kk : QW V iX1_salaryOf 0 [some (.ref o), some (.int x0)] [] h z 0 0 (q_Ki P) Kx) : QMi V iX1_salaryOf [.ref o, .int x0] h z P Kx := q_enter rfl (by decide +kernel) rfl (Nat.le_of_ble_eq_true rfl) kk
theorem dX1_salaryOf_0 : decode (i_b iX1_salaryOf) 0 = .ok (.iload_n 1, 1) := by decide +kernel
theorem wX1_salaryOf_0 {x : Int32} (kk : QW V iX1_salaryOf 1 [a0, some (.int x)] (.int x :: st) h z bc bs Kr Kx) : QW V iX1_salaryOf 0 [a0, some (.int x)] (st) h z bc bs Kr Kx := q_iload_n dX1_salaryOf_0 rfl rfl kk
theorem dX1_salaryOf_1 : decode (i_b iX1_salaryOf) 1 = .ok (.ifCond .lt 11, 3) := by decide +kernel
theorem wX1_salaryOf_1 {x : Int32} (kt : x < 0 → QW V iX1_salaryOf 12 [a0, a1] (st) h z bc bs Kr Kx) (kf : ¬ x < 0 → QW V iX1_salaryOf 4 [a0, a1] (st) h z bc bs Kr Kx) : QW V iX1_salaryOf 1 [a0, a1] (.int x :: st) h z bc bs Kr Kx := q_if_lt dX1_salaryOf_1 (by decide) kt kf
theorem dX1_salaryOf_4 : decode (i_b iX1_salaryOf) 4 = .ok (.iload_n 1, 1) := by decide +kernel
theorem wX1_salaryOf_4 {x : Int32} (kk : QW V iX1_salaryOf 5 [a0, some (.int x)] (.int x :: st) h z bc bs Kr Kx) : QW V iX1_salaryOf 4 [a0, some (.int x)] (st) h z bc bs Kr Kx := q_iload_n dX1_salaryOf_4 rfl rfl kk
theorem dX1_salaryOf_5 : decode (i_b iX1_salaryOf) 5 = .ok (.aload_n 0, 1) := by decide +kernel
theorem wX1_salaryOf_5 {x : Nat} (kk : QW V iX1_salaryOf 6 [some (.ref x), a1] (.ref x :: st) h z bc bs Kr Kx) : QW V iX1_salaryOf 5 [some (.ref x), a1] (st) h z bc bs Kr Kx := q_aload_n dX1_salaryOf_5 rfl rfl kk
theorem dX1_salaryOf_6 : decode (i_b iX1_salaryOf) 6 = .ok (.getfield 16, 3) := by decide +kernel
theorem wX1_salaryOf_6 {a : Nat} {f0 f1 f2 f3 f4 : Value} (ha : h a = some (.inr (2, [f0, f1, f2, f3, f4]))) (kk : QW V iX1_salaryOf 9 [a0, a1] (f2 :: st) h z bc bs Kr Kx) : QW V iX1_salaryOf 6 [a0, a1] (.ref a :: st) h z bc bs Kr Kx := q_getf (k := 2) dX1_salaryOf_6 klX1 rfl (Nat.le_of_ble_eq_true rfl : 2 < 5) k1_49 rfl ha rfl kk
theorem wX1_salaryOf_6u {a : Nat} {f0 f1 f2 f3 f4 : Value} (kk : QW V iX1_salaryOf 9 [a0, a1] (f2 :: st) (q_up h a (.inr (2, [f0, f1, f2, f3, f4]))) z bc bs Kr Kx) : QW V iX1_salaryOf 6 [a0, a1] (.ref a :: st) (q_up h a (.inr (2, [f0, f1, f2, f3, f4]))) z bc bs Kr Kx := wX1_salaryOf_6 q_up_s kk
theorem dX1_salaryOf_9 : decode (i_b iX1_salaryOf) 9 = .ok (.if_icmp .lt 5, 3) := by decide +kernel
theorem wX1_salaryOf_9 {x y : Int32} (kt : x < y → QW V iX1_salaryOf 14 [a0, a1] (st) h z bc bs Kr Kx) (kf : ¬ x < y → QW V iX1_salaryOf 12 [a0, a1] (st) h z bc bs Kr Kx) : QW V iX1_salaryOf 9 [a0, a1] (.int y :: .int x :: st) h z bc bs Kr Kx := q_icmp_lt dX1_salaryOf_9 (by decide) kt kf
theorem dX1_salaryOf_12 : decode (i_b iX1_salaryOf) 12 = .ok (.iconst 0, 1) := by decide +kernel
theorem wX1_salaryOf_12  (kk : QW V iX1_salaryOf 13 [a0, a1] (.int (0) :: st) h z bc bs Kr Kx) : QW V iX1_salaryOf 12 [a0, a1] (st) h z bc bs Kr Kx := q_iconst dX1_salaryOf_12 (by decide) kk
theorem dX1_salaryOf_13 : decode (i_b iX1_salaryOf) 13 = .ok (.ireturn, 1) := by decide +kernel
theorem wX1_salaryOf_13 {x : Int32} {P : Int32 → q_H → Option Nat → Prop} (hk : P x h z) : QW V iX1_salaryOf 13 [a0, a1] [.int x] h z bc bs (q_Ki P) Kx := q_iret dX1_salaryOf_13 rfl rfl ⟨x, rfl, hk⟩
theorem dX1_salaryOf_14 : decode (i_b iX1_salaryOf) 14 = .ok (.aload_n 0, 1) := by decide +kernel
theorem wX1_salaryOf_14 {x : Nat} (kk : QW V iX1_salaryOf 15 [some (.ref x), a1] (.ref x :: st) h z bc bs Kr Kx) : QW V iX1_salaryOf 14 [some (.ref x), a1] (st) h z bc bs Kr Kx := q_aload_n dX1_salaryOf_14 rfl rfl kk
theorem dX1_salaryOf_15 : decode (i_b iX1_salaryOf) 15 = .ok (.getfield 7, 3) := by decide +kernel
theorem wX1_salaryOf_15 {a : Nat} {f0 f1 f2 f3 f4 : Value} (ha : h a = some (.inr (2, [f0, f1, f2, f3, f4]))) (kk : QW V iX1_salaryOf 18 [a0, a1] (f0 :: st) h z bc bs Kr Kx) : QW V iX1_salaryOf 15 [a0, a1] (.ref a :: st) h z bc bs Kr Kx := q_getf (k := 0) dX1_salaryOf_15 klX1 rfl (Nat.le_of_ble_eq_true rfl : 0 < 5) k1_45 rfl ha rfl kk
theorem wX1_salaryOf_15u {a : Nat} {f0 f1 f2 f3 f4 : Value} (kk : QW V iX1_salaryOf 18 [a0, a1] (f0 :: st) (q_up h a (.inr (2, [f0, f1, f2, f3, f4]))) z bc bs Kr Kx) : QW V iX1_salaryOf 15 [a0, a1] (.ref a :: st) (q_up h a (.inr (2, [f0, f1, f2, f3, f4]))) z bc bs Kr Kx := wX1_salaryOf_15 q_up_s kk
theorem dX1_salaryOf_18 : decode (i_b iX1_salaryOf) 18 = .ok (.aload_n 0, 1) := by decide +kernel
theorem wX1_salaryOf_18 {x : Nat} (kk : QW V iX1_salaryOf 19 [some (.ref x), a1] (.ref x :: st) h z bc bs Kr Kx) : QW V iX1_salaryOf 18 [some (.ref x), a1] (st) h z bc bs Kr Kx := q_aload_n dX1_salaryOf_18 rfl rfl kk
theorem dX1_salaryOf_19 : decode (i_b iX1_salaryOf) 19 = .ok (.getfield 7, 3) := by decide +kernel
theorem wX1_salaryOf_19 {a : Nat} {f0 f1 f2 f3 f4 : Value} (ha : h a = some (.inr (2, [f0, f1, f2, f3, f4]))) (kk : QW V iX1_salaryOf 22 [a0, a1] (f0 :: st) h z bc bs Kr Kx) : QW V iX1_salaryOf 19 [a0, a1] (.ref a :: st) h z bc bs Kr Kx := q_getf (k := 0) dX1_salaryOf_19 klX1 rfl (Nat.le_of_ble_eq_true rfl : 0 < 5) k1_45 rfl ha rfl kk
theorem wX1_salaryOf_19u {a : Nat} {f0 f1 f2 f3 f4 : Value} (kk : QW V iX1_salaryOf 22 [a0, a1] (f0 :: st) (q_up h a (.inr (2, [f0, f1, f2, f3, f4]))) z bc bs Kr Kx) : QW V iX1_salaryOf 19 [a0, a1] (.ref a :: st) (q_up h a (.inr (2, [f0, f1, f2, f3, f4]))) z bc bs Kr Kx := wX1_salaryOf_19 q_up_s kk
theorem dX1_salaryOf_22 : decode (i_b iX1_salaryOf) 22 = .ok (.aload_n 0, 1) := by decide +kernel
theorem wX1_salaryOf_22 {x : Nat} (kk : QW V iX1_salaryOf 23 [some (.ref x), a1] (.ref x :: st) h z bc bs Kr Kx) : QW V iX1_salaryOf 22 [some (.ref x), a1] (st) h z bc bs Kr Kx := q_aload_n dX1_salaryOf_22 rfl rfl kk
theorem dX1_salaryOf_23 : decode (i_b iX1_salaryOf) 23 = .ok (.getfield 13, 3) := by decide +kernel
theorem wX1_salaryOf_23 {a : Nat} {f0 f1 f2 f3 f4 : Value} (ha : h a = some (.inr (2, [f0, f1, f2, f3, f4]))) (kk : QW V iX1_salaryOf 26 [a0, a1] (f1 :: st) h z bc bs Kr Kx) : QW V iX1_salaryOf 23 [a0, a1] (.ref a :: st) h z bc bs Kr Kx := q_getf (k := 1) dX1_salaryOf_23 klX1 rfl (Nat.le_of_ble_eq_true rfl : 1 < 5) k1_47 rfl ha rfl kk
theorem wX1_salaryOf_23u {a : Nat} {f0 f1 f2 f3 f4 : Value} (kk : QW V iX1_salaryOf 26 [a0, a1] (f1 :: st) (q_up h a (.inr (2, [f0, f1, f2, f3, f4]))) z bc bs Kr Kx) : QW V iX1_salaryOf 23 [a0, a1] (.ref a :: st) (q_up h a (.inr (2, [f0, f1, f2, f3, f4]))) z bc bs Kr Kx := wX1_salaryOf_23 q_up_s kk
theorem dX1_salaryOf_26 : decode (i_b iX1_salaryOf) 26 = .ok (.imul, 1) := by decide +kernel
theorem wX1_salaryOf_26 {x y : Int32} (kk : QW V iX1_salaryOf 27 [a0, a1] (.int (x * y) :: st) h z bc bs Kr Kx) : QW V iX1_salaryOf 26 [a0, a1] (.int y :: .int x :: st) h z bc bs Kr Kx := q_imul dX1_salaryOf_26 kk
theorem dX1_salaryOf_27 : decode (i_b iX1_salaryOf) 27 = .ok (.iload_n 1, 1) := by decide +kernel
theorem wX1_salaryOf_27 {x : Int32} (kk : QW V iX1_salaryOf 28 [a0, some (.int x)] (.int x :: st) h z bc bs Kr Kx) : QW V iX1_salaryOf 27 [a0, some (.int x)] (st) h z bc bs Kr Kx := q_iload_n dX1_salaryOf_27 rfl rfl kk
theorem dX1_salaryOf_28 : decode (i_b iX1_salaryOf) 28 = .ok (.imul, 1) := by decide +kernel
theorem wX1_salaryOf_28 {x y : Int32} (kk : QW V iX1_salaryOf 29 [a0, a1] (.int (x * y) :: st) h z bc bs Kr Kx) : QW V iX1_salaryOf 28 [a0, a1] (.int y :: .int x :: st) h z bc bs Kr Kx := q_imul dX1_salaryOf_28 kk
theorem dX1_salaryOf_29 : decode (i_b iX1_salaryOf) 29 = .ok (.bipush 100, 2) := by decide +kernel
theorem wX1_salaryOf_29  (kk : QW V iX1_salaryOf 31 [a0, a1] (.int (100) :: st) h z bc bs Kr Kx) : QW V iX1_salaryOf 29 [a0, a1] (st) h z bc bs Kr Kx := q_bipush dX1_salaryOf_29 (by decide) kk
theorem dX1_salaryOf_31 : decode (i_b iX1_salaryOf) 31 = .ok (.idiv, 1) := by decide +kernel
theorem wX1_salaryOf_31 {x y : Int32} (hne : ¬ y = 0) (kk : QW V iX1_salaryOf 32 [a0, a1] (.int (x / y) :: st) h z bc bs Kr Kx) : QW V iX1_salaryOf 31 [a0, a1] (.int y :: .int x :: st) h z bc bs Kr Kx := q_idiv dX1_salaryOf_31 hne kk
theorem dX1_salaryOf_32 : decode (i_b iX1_salaryOf) 32 = .ok (.iadd, 1) := by decide +kernel
theorem wX1_salaryOf_32 {x y : Int32} (kk : QW V iX1_salaryOf 33 [a0, a1] (.int (x + y) :: st) h z bc bs Kr Kx) : QW V iX1_salaryOf 32 [a0, a1] (.int y :: .int x :: st) h z bc bs Kr Kx := q_iadd dX1_salaryOf_32 kk
theorem dX1_salaryOf_33 : decode (i_b iX1_salaryOf) 33 = .ok (.ireturn, 1) := by decide +kernel
theorem wX1_salaryOf_33 {x : Int32} {P : Int32 → q_H → Option Nat → Prop} (hk : P x h z) : QW V iX1_salaryOf 33 [a0, a1] [.int x] h z bc bs (q_Ki P) Kx := q_iret dX1_salaryOf_33 rfl rfl ⟨x, rfl, hk⟩
theorem eX1_shareOf {o : Nat} {x0 : Int32} {P : Int32 → q_H → Option Nat → Prop} (kk : QW V iX1_shareOf 0 [some (.ref o), some (.int x0)] [] h z 0 0 (q_Ki P) Kx) : QMi V iX1_shareOf [.ref o, .int x0] h z P Kx := q_enter rfl (by decide +kernel) rfl (Nat.le_of_ble_eq_true rfl) kk
theorem dX1_shareOf_0 : decode (i_b iX1_shareOf) 0 = .ok (.iload_n 1, 1) := by decide +kernel
theorem wX1_shareOf_0 {x : Int32} (kk : QW V iX1_shareOf 1 [a0, some (.int x)] (.int x :: st) h z bc bs Kr Kx) : QW V iX1_shareOf 0 [a0, some (.int x)] (st) h z bc bs Kr Kx := q_iload_n dX1_shareOf_0 rfl rfl kk
theorem dX1_shareOf_1 : decode (i_b iX1_shareOf) 1 = .ok (.ifCond .lt 11, 3) := by decide +kernel
theorem wX1_shareOf_1 {x : Int32} (kt : x < 0 → QW V iX1_shareOf 12 [a0, a1] (st) h z bc bs Kr Kx) (kf : ¬ x < 0 → QW V iX1_shareOf 4 [a0, a1] (st) h z bc bs Kr Kx) : QW V iX1_shareOf 1 [a0, a1] (.int x :: st) h z bc bs Kr Kx := q_if_lt dX1_shareOf_1 (by decide) kt kf
theorem dX1_shareOf_4 : decode (i_b iX1_shareOf) 4 = .ok (.iload_n 1, 1) := by decide +kernel
theorem wX1_shareOf_4 {x : Int32} (kk : QW V iX1_shareOf 5 [a0, some (.int x)] (.int x :: st) h z bc bs Kr Kx) : QW V iX1_shareOf 4 [a0, some (.int x)] (st) h z bc bs Kr Kx := q_iload_n dX1_shareOf_4 rfl rfl kk
theorem dX1_shareOf_5 : decode (i_b iX1_shareOf) 5 = .ok (.aload_n 0, 1) := by decide +kernel
theorem wX1_shareOf_5 {x : Nat} (kk : QW V iX1_shareOf 6 [some (.ref x), a1] (.ref x :: st) h z bc bs Kr Kx) : QW V iX1_shareOf 5 [some (.ref x), a1] (st) h z bc bs Kr Kx := q_aload_n dX1_shareOf_5 rfl rfl kk
theorem dX1_shareOf_6 : decode (i_b iX1_shareOf) 6 = .ok (.getfield 16, 3) := by decide +kernel
theorem wX1_shareOf_6 {a : Nat} {f0 f1 f2 f3 f4 : Value} (ha : h a = some (.inr (2, [f0, f1, f2, f3, f4]))) (kk : QW V iX1_shareOf 9 [a0, a1] (f2 :: st) h z bc bs Kr Kx) : QW V iX1_shareOf 6 [a0, a1] (.ref a :: st) h z bc bs Kr Kx := q_getf (k := 2) dX1_shareOf_6 klX1 rfl (Nat.le_of_ble_eq_true rfl : 2 < 5) k1_49 rfl ha rfl kk
theorem wX1_shareOf_6u {a : Nat} {f0 f1 f2 f3 f4 : Value} (kk : QW V iX1_shareOf 9 [a0, a1] (f2 :: st) (q_up h a (.inr (2, [f0, f1, f2, f3, f4]))) z bc bs Kr Kx) : QW V iX1_shareOf 6 [a0, a1] (.ref a :: st) (q_up h a (.inr (2, [f0, f1, f2, f3, f4]))) z bc bs Kr Kx := wX1_shareOf_6 q_up_s kk
theorem dX1_shareOf_9 : decode (i_b iX1_shareOf) 9 = .ok (.if_icmp .lt 5, 3) := by decide +kernel
theorem wX1_shareOf_9 {x y : Int32} (kt : x < y → QW V iX1_shareOf 14 [a0, a1] (st) h z bc bs Kr Kx) (kf : ¬ x < y → QW V iX1_shareOf 12 [a0, a1] (st) h z bc bs Kr Kx) : QW V iX1_shareOf 9 [a0, a1] (.int y :: .int x :: st) h z bc bs Kr Kx := q_icmp_lt dX1_shareOf_9 (by decide) kt kf
theorem dX1_shareOf_12 : decode (i_b iX1_shareOf) 12 = .ok (.iconst 0, 1) := by decide +kernel
theorem wX1_shareOf_12  (kk : QW V iX1_shareOf 13 [a0, a1] (.int (0) :: st) h z bc bs Kr Kx) : QW V iX1_shareOf 12 [a0, a1] (st) h z bc bs Kr Kx := q_iconst dX1_shareOf_12 (by decide) kk
theorem dX1_shareOf_13 : decode (i_b iX1_shareOf) 13 = .ok (.ireturn, 1) := by decide +kernel
theorem wX1_shareOf_13 {x : Int32} {P : Int32 → q_H → Option Nat → Prop} (hk : P x h z) : QW V iX1_shareOf 13 [a0, a1] [.int x] h z bc bs (q_Ki P) Kx := q_iret dX1_shareOf_13 rfl rfl ⟨x, rfl, hk⟩
theorem dX1_shareOf_14 : decode (i_b iX1_shareOf) 14 = .ok (.aload_n 0, 1) := by decide +kernel
theorem wX1_shareOf_14 {x : Nat} (kk : QW V iX1_shareOf 15 [some (.ref x), a1] (.ref x :: st) h z bc bs Kr Kx) : QW V iX1_shareOf 14 [some (.ref x), a1] (st) h z bc bs Kr Kx := q_aload_n dX1_shareOf_14 rfl rfl kk
theorem dX1_shareOf_15 : decode (i_b iX1_shareOf) 15 = .ok (.getfield 19, 3) := by decide +kernel
theorem wX1_shareOf_15 {a : Nat} {f0 f1 f2 f3 f4 : Value} (ha : h a = some (.inr (2, [f0, f1, f2, f3, f4]))) (kk : QW V iX1_shareOf 18 [a0, a1] (f3 :: st) h z bc bs Kr Kx) : QW V iX1_shareOf 15 [a0, a1] (.ref a :: st) h z bc bs Kr Kx := q_getf (k := 3) dX1_shareOf_15 klX1 rfl (Nat.le_of_ble_eq_true rfl : 3 < 5) k1_52 rfl ha rfl kk
theorem wX1_shareOf_15u {a : Nat} {f0 f1 f2 f3 f4 : Value} (kk : QW V iX1_shareOf 18 [a0, a1] (f3 :: st) (q_up h a (.inr (2, [f0, f1, f2, f3, f4]))) z bc bs Kr Kx) : QW V iX1_shareOf 15 [a0, a1] (.ref a :: st) (q_up h a (.inr (2, [f0, f1, f2, f3, f4]))) z bc bs Kr Kx := wX1_shareOf_15 q_up_s kk
theorem dX1_shareOf_18 : decode (i_b iX1_shareOf) 18 = .ok (.aload_n 0, 1) := by decide +kernel
theorem wX1_shareOf_18 {x : Nat} (kk : QW V iX1_shareOf 19 [some (.ref x), a1] (.ref x :: st) h z bc bs Kr Kx) : QW V iX1_shareOf 18 [some (.ref x), a1] (st) h z bc bs Kr Kx := q_aload_n dX1_shareOf_18 rfl rfl kk
theorem dX1_shareOf_19 : decode (i_b iX1_shareOf) 19 = .ok (.getfield 16, 3) := by decide +kernel
theorem wX1_shareOf_19 {a : Nat} {f0 f1 f2 f3 f4 : Value} (ha : h a = some (.inr (2, [f0, f1, f2, f3, f4]))) (kk : QW V iX1_shareOf 22 [a0, a1] (f2 :: st) h z bc bs Kr Kx) : QW V iX1_shareOf 19 [a0, a1] (.ref a :: st) h z bc bs Kr Kx := q_getf (k := 2) dX1_shareOf_19 klX1 rfl (Nat.le_of_ble_eq_true rfl : 2 < 5) k1_49 rfl ha rfl kk
theorem wX1_shareOf_19u {a : Nat} {f0 f1 f2 f3 f4 : Value} (kk : QW V iX1_shareOf 22 [a0, a1] (f2 :: st) (q_up h a (.inr (2, [f0, f1, f2, f3, f4]))) z bc bs Kr Kx) : QW V iX1_shareOf 19 [a0, a1] (.ref a :: st) (q_up h a (.inr (2, [f0, f1, f2, f3, f4]))) z bc bs Kr Kx := wX1_shareOf_19 q_up_s kk
theorem dX1_shareOf_22 : decode (i_b iX1_shareOf) 22 = .ok (.idiv, 1) := by decide +kernel
theorem wX1_shareOf_22 {x y : Int32} (hne : ¬ y = 0) (kk : QW V iX1_shareOf 23 [a0, a1] (.int (x / y) :: st) h z bc bs Kr Kx) : QW V iX1_shareOf 22 [a0, a1] (.int y :: .int x :: st) h z bc bs Kr Kx := q_idiv dX1_shareOf_22 hne kk
theorem dX1_shareOf_23 : decode (i_b iX1_shareOf) 23 = .ok (.iload_n 1, 1) := by decide +kernel
theorem wX1_shareOf_23 {x : Int32} (kk : QW V iX1_shareOf 24 [a0, some (.int x)] (.int x :: st) h z bc bs Kr Kx) : QW V iX1_shareOf 23 [a0, some (.int x)] (st) h z bc bs Kr Kx := q_iload_n dX1_shareOf_23 rfl rfl kk
theorem dX1_shareOf_24 : decode (i_b iX1_shareOf) 24 = .ok (.aload_n 0, 1) := by decide +kernel
theorem wX1_shareOf_24 {x : Nat} (kk : QW V iX1_shareOf 25 [some (.ref x), a1] (.ref x :: st) h z bc bs Kr Kx) : QW V iX1_shareOf 24 [some (.ref x), a1] (st) h z bc bs Kr Kx := q_aload_n dX1_shareOf_24 rfl rfl kk
theorem dX1_shareOf_25 : decode (i_b iX1_shareOf) 25 = .ok (.getfield 19, 3) := by decide +kernel
theorem wX1_shareOf_25 {a : Nat} {f0 f1 f2 f3 f4 : Value} (ha : h a = some (.inr (2, [f0, f1, f2, f3, f4]))) (kk : QW V iX1_shareOf 28 [a0, a1] (f3 :: st) h z bc bs Kr Kx) : QW V iX1_shareOf 25 [a0, a1] (.ref a :: st) h z bc bs Kr Kx := q_getf (k := 3) dX1_shareOf_25 klX1 rfl (Nat.le_of_ble_eq_true rfl : 3 < 5) k1_52 rfl ha rfl kk
theorem wX1_shareOf_25u {a : Nat} {f0 f1 f2 f3 f4 : Value} (kk : QW V iX1_shareOf 28 [a0, a1] (f3 :: st) (q_up h a (.inr (2, [f0, f1, f2, f3, f4]))) z bc bs Kr Kx) : QW V iX1_shareOf 25 [a0, a1] (.ref a :: st) (q_up h a (.inr (2, [f0, f1, f2, f3, f4]))) z bc bs Kr Kx := wX1_shareOf_25 q_up_s kk
theorem dX1_shareOf_28 : decode (i_b iX1_shareOf) 28 = .ok (.aload_n 0, 1) := by decide +kernel
theorem wX1_shareOf_28 {x : Nat} (kk : QW V iX1_shareOf 29 [some (.ref x), a1] (.ref x :: st) h z bc bs Kr Kx) : QW V iX1_shareOf 28 [some (.ref x), a1] (st) h z bc bs Kr Kx := q_aload_n dX1_shareOf_28 rfl rfl kk
theorem dX1_shareOf_29 : decode (i_b iX1_shareOf) 29 = .ok (.getfield 16, 3) := by decide +kernel
theorem wX1_shareOf_29 {a : Nat} {f0 f1 f2 f3 f4 : Value} (ha : h a = some (.inr (2, [f0, f1, f2, f3, f4]))) (kk : QW V iX1_shareOf 32 [a0, a1] (f2 :: st) h z bc bs Kr Kx) : QW V iX1_shareOf 29 [a0, a1] (.ref a :: st) h z bc bs Kr Kx := q_getf (k := 2) dX1_shareOf_29 klX1 rfl (Nat.le_of_ble_eq_true rfl : 2 < 5) k1_49 rfl ha rfl kk
theorem wX1_shareOf_29u {a : Nat} {f0 f1 f2 f3 f4 : Value} (kk : QW V iX1_shareOf 32 [a0, a1] (f2 :: st) (q_up h a (.inr (2, [f0, f1, f2, f3, f4]))) z bc bs Kr Kx) : QW V iX1_shareOf 29 [a0, a1] (.ref a :: st) (q_up h a (.inr (2, [f0, f1, f2, f3, f4]))) z bc bs Kr Kx := wX1_shareOf_29 q_up_s kk
theorem dX1_shareOf_32 : decode (i_b iX1_shareOf) 32 = .ok (.irem, 1) := by decide +kernel
theorem wX1_shareOf_32 {x y : Int32} (hne : ¬ y = 0) (kk : QW V iX1_shareOf 33 [a0, a1] (.int (x - x / y * y) :: st) h z bc bs Kr Kx) : QW V iX1_shareOf 32 [a0, a1] (.int y :: .int x :: st) h z bc bs Kr Kx := q_irem dX1_shareOf_32 hne kk
theorem dX1_shareOf_33 : decode (i_b iX1_shareOf) 33 = .ok (.if_icmp .ge 7, 3) := by decide +kernel
theorem wX1_shareOf_33 {x y : Int32} (kt : y ≤ x → QW V iX1_shareOf 40 [a0, a1] (st) h z bc bs Kr Kx) (kf : ¬ y ≤ x → QW V iX1_shareOf 36 [a0, a1] (st) h z bc bs Kr Kx) : QW V iX1_shareOf 33 [a0, a1] (.int y :: .int x :: st) h z bc bs Kr Kx := q_icmp_ge dX1_shareOf_33 (by decide) kt kf
theorem dX1_shareOf_36 : decode (i_b iX1_shareOf) 36 = .ok (.iconst 1, 1) := by decide +kernel
theorem wX1_shareOf_36  (kk : QW V iX1_shareOf 37 [a0, a1] (.int (1) :: st) h z bc bs Kr Kx) : QW V iX1_shareOf 36 [a0, a1] (st) h z bc bs Kr Kx := q_iconst dX1_shareOf_36 (by decide) kk
theorem dX1_shareOf_37 : decode (i_b iX1_shareOf) 37 = .ok (.goto 4, 3) := by decide +kernel
theorem wX1_shareOf_37  (kk : QW V iX1_shareOf 41 [a0, a1] (st) h z bc bs Kr Kx) : QW V iX1_shareOf 37 [a0, a1] (st) h z bc bs Kr Kx := q_goto dX1_shareOf_37 (by decide) kk
theorem dX1_shareOf_40 : decode (i_b iX1_shareOf) 40 = .ok (.iconst 0, 1) := by decide +kernel
theorem wX1_shareOf_40  (kk : QW V iX1_shareOf 41 [a0, a1] (.int (0) :: st) h z bc bs Kr Kx) : QW V iX1_shareOf 40 [a0, a1] (st) h z bc bs Kr Kx := q_iconst dX1_shareOf_40 (by decide) kk
theorem dX1_shareOf_41 : decode (i_b iX1_shareOf) 41 = .ok (.iadd, 1) := by decide +kernel
theorem wX1_shareOf_41 {x y : Int32} (kk : QW V iX1_shareOf 42 [a0, a1] (.int (x + y) :: st) h z bc bs Kr Kx) : QW V iX1_shareOf 41 [a0, a1] (.int y :: .int x :: st) h z bc bs Kr Kx := q_iadd dX1_shareOf_41 kk
theorem dX1_shareOf_42 : decode (i_b iX1_shareOf) 42 = .ok (.ireturn, 1) := by decide +kernel
theorem wX1_shareOf_42 {x : Int32} {P : Int32 → q_H → Option Nat → Prop} (hk : P x h z) : QW V iX1_shareOf 42 [a0, a1] [.int x] h z bc bs (q_Ki P) Kx := q_iret dX1_shareOf_42 rfl rfl ⟨x, rfl, hk⟩
theorem eX1_sharesFrom {o : Nat} {x0 : Int32} {P : Int32 → q_H → Option Nat → Prop} (kk : QW V iX1_sharesFrom 0 [some (.ref o), some (.int x0), none, none] [] h z 0 0 (q_Ki P) Kx) : QMi V iX1_sharesFrom [.ref o, .int x0] h z P Kx := q_enter rfl (by decide +kernel) rfl (Nat.le_of_ble_eq_true rfl) kk
theorem dX1_sharesFrom_0 : decode (i_b iX1_sharesFrom) 0 = .ok (.iconst 0, 1) := by decide +kernel
theorem wX1_sharesFrom_0  (kk : QW V iX1_sharesFrom 1 [a0, a1, a2, a3] (.int (0) :: st) h z bc bs Kr Kx) : QW V iX1_sharesFrom 0 [a0, a1, a2, a3] (st) h z bc bs Kr Kx := q_iconst dX1_sharesFrom_0 (by decide) kk
theorem dX1_sharesFrom_1 : decode (i_b iX1_sharesFrom) 1 = .ok (.istore_n 2, 1) := by decide +kernel
theorem wX1_sharesFrom_1 {x : Int32} (kk : QW V iX1_sharesFrom 2 [a0, a1, some (.int x), a3] (st) h z bc bs Kr Kx) (hp : q_n2 a1 = true := by rfl) : QW V iX1_sharesFrom 1 [a0, a1, a2, a3] (.int x :: st) h z bc bs Kr Kx := q_istore_n dX1_sharesFrom_1 rfl (Nat.le_of_ble_eq_true rfl) hp kk
theorem dX1_sharesFrom_2 : decode (i_b iX1_sharesFrom) 2 = .ok (.iload_n 1, 1) := by decide +kernel
theorem wX1_sharesFrom_2 {x : Int32} (kk : QW V iX1_sharesFrom 3 [a0, some (.int x), a2, a3] (.int x :: st) h z bc bs Kr Kx) : QW V iX1_sharesFrom 2 [a0, some (.int x), a2, a3] (st) h z bc bs Kr Kx := q_iload_n dX1_sharesFrom_2 rfl rfl kk
theorem dX1_sharesFrom_3 : decode (i_b iX1_sharesFrom) 3 = .ok (.istore_n 3, 1) := by decide +kernel
theorem wX1_sharesFrom_3 {x : Int32} (kk : QW V iX1_sharesFrom 4 [a0, a1, a2, some (.int x)] (st) h z bc bs Kr Kx) (hp : q_n2 a2 = true := by rfl) : QW V iX1_sharesFrom 3 [a0, a1, a2, a3] (.int x :: st) h z bc bs Kr Kx := q_istore_n dX1_sharesFrom_3 rfl (Nat.le_of_ble_eq_true rfl) hp kk
theorem dX1_sharesFrom_4 : decode (i_b iX1_sharesFrom) 4 = .ok (.iload_n 3, 1) := by decide +kernel
theorem wX1_sharesFrom_4 {x : Int32} (kk : QW V iX1_sharesFrom 5 [a0, a1, a2, some (.int x)] (.int x :: st) h z bc bs Kr Kx) : QW V iX1_sharesFrom 4 [a0, a1, a2, some (.int x)] (st) h z bc bs Kr Kx := q_iload_n dX1_sharesFrom_4 rfl rfl kk
theorem dX1_sharesFrom_5 : decode (i_b iX1_sharesFrom) 5 = .ok (.aload_n 0, 1) := by decide +kernel
theorem wX1_sharesFrom_5 {x : Nat} (kk : QW V iX1_sharesFrom 6 [some (.ref x), a1, a2, a3] (.ref x :: st) h z bc bs Kr Kx) : QW V iX1_sharesFrom 5 [some (.ref x), a1, a2, a3] (st) h z bc bs Kr Kx := q_aload_n dX1_sharesFrom_5 rfl rfl kk
theorem dX1_sharesFrom_6 : decode (i_b iX1_sharesFrom) 6 = .ok (.getfield 16, 3) := by decide +kernel
theorem wX1_sharesFrom_6 {a : Nat} {f0 f1 f2 f3 f4 : Value} (ha : h a = some (.inr (2, [f0, f1, f2, f3, f4]))) (kk : QW V iX1_sharesFrom 9 [a0, a1, a2, a3] (f2 :: st) h z bc bs Kr Kx) : QW V iX1_sharesFrom 6 [a0, a1, a2, a3] (.ref a :: st) h z bc bs Kr Kx := q_getf (k := 2) dX1_sharesFrom_6 klX1 rfl (Nat.le_of_ble_eq_true rfl : 2 < 5) k1_49 rfl ha rfl kk
theorem wX1_sharesFrom_6u {a : Nat} {f0 f1 f2 f3 f4 : Value} (kk : QW V iX1_sharesFrom 9 [a0, a1, a2, a3] (f2 :: st) (q_up h a (.inr (2, [f0, f1, f2, f3, f4]))) z bc bs Kr Kx) : QW V iX1_sharesFrom 6 [a0, a1, a2, a3] (.ref a :: st) (q_up h a (.inr (2, [f0, f1, f2, f3, f4]))) z bc bs Kr Kx := wX1_sharesFrom_6 q_up_s kk
theorem dX1_sharesFrom_9 : decode (i_b iX1_sharesFrom) 9 = .ok (.if_icmp .ge 17, 3) := by decide +kernel
theorem wX1_sharesFrom_9 {x y : Int32} (kt : y ≤ x → QW V iX1_sharesFrom 26 [a0, a1, a2, a3] (st) h z bc bs Kr Kx) (kf : ¬ y ≤ x → QW V iX1_sharesFrom 12 [a0, a1, a2, a3] (st) h z bc bs Kr Kx) : QW V iX1_sharesFrom 9 [a0, a1, a2, a3] (.int y :: .int x :: st) h z bc bs Kr Kx := q_icmp_ge dX1_sharesFrom_9 (by decide) kt kf
theorem dX1_sharesFrom_12 : decode (i_b iX1_sharesFrom) 12 = .ok (.iload_n 2, 1) := by decide +kernel
theorem wX1_sharesFrom_12 {x : Int32} (kk : QW V iX1_sharesFrom 13 [a0, a1, some (.int x), a3] (.int x :: st) h z bc bs Kr Kx) : QW V iX1_sharesFrom 12 [a0, a1, some (.int x), a3] (st) h z bc bs Kr Kx := q_iload_n dX1_sharesFrom_12 rfl rfl kk
theorem dX1_sharesFrom_13 : decode (i_b iX1_sharesFrom) 13 = .ok (.aload_n 0, 1) := by decide +kernel
theorem wX1_sharesFrom_13 {x : Nat} (kk : QW V iX1_sharesFrom 14 [some (.ref x), a1, a2, a3] (.ref x :: st) h z bc bs Kr Kx) : QW V iX1_sharesFrom 13 [some (.ref x), a1, a2, a3] (st) h z bc bs Kr Kx := q_aload_n dX1_sharesFrom_13 rfl rfl kk
theorem dX1_sharesFrom_14 : decode (i_b iX1_sharesFrom) 14 = .ok (.iload_n 3, 1) := by decide +kernel
theorem wX1_sharesFrom_14 {x : Int32} (kk : QW V iX1_sharesFrom 15 [a0, a1, a2, some (.int x)] (.int x :: st) h z bc bs Kr Kx) : QW V iX1_sharesFrom 14 [a0, a1, a2, some (.int x)] (st) h z bc bs Kr Kx := q_iload_n dX1_sharesFrom_14 rfl rfl kk
theorem dX1_sharesFrom_15 : decode (i_b iX1_sharesFrom) 15 = .ok (.invokevirtual 29, 3) := by decide +kernel
theorem wX1_sharesFrom_15 {a : Nat} {fs : List Value} {x0 : Int32} (hb : h a = some (.inr (2, fs))) (hm : QMi V iX1_shareOf [.ref a, .int x0] h z (fun r h' z' => QW V iX1_sharesFrom 18 [a0, a1, a2, a3] (.int r :: st) h' z' bc bs Kr Kx) Kx) (hW : (st.map fun v => v.category).sum ≤ 8 := by exact Nat.le_of_ble_eq_true rfl) : QW V iX1_sharesFrom 15 [a0, a1, a2, a3] (.int x0 :: .ref a :: st) h z bc bs Kr Kx := q_callV (y' := iX1_shareOf) (As := [.int x0]) (rest := st) dX1_sharesFrom_15 k4_5 k3_163 k3_164 k1_3 hhX1_shareOf rfl hdX1_shareOf rfl rfl (Nat.le_of_ble_eq_true rfl) (Nat.le_of_ble_eq_true rfl) hW rfl hb (QMi.run hm)
theorem dX1_sharesFrom_18 : decode (i_b iX1_sharesFrom) 18 = .ok (.iadd, 1) := by decide +kernel
theorem wX1_sharesFrom_18 {x y : Int32} (kk : QW V iX1_sharesFrom 19 [a0, a1, a2, a3] (.int (x + y) :: st) h z bc bs Kr Kx) : QW V iX1_sharesFrom 18 [a0, a1, a2, a3] (.int y :: .int x :: st) h z bc bs Kr Kx := q_iadd dX1_sharesFrom_18 kk
theorem dX1_sharesFrom_19 : decode (i_b iX1_sharesFrom) 19 = .ok (.istore_n 2, 1) := by decide +kernel
theorem wX1_sharesFrom_19 {x : Int32} (kk : QW V iX1_sharesFrom 20 [a0, a1, some (.int x), a3] (st) h z bc bs Kr Kx) (hp : q_n2 a1 = true := by rfl) : QW V iX1_sharesFrom 19 [a0, a1, a2, a3] (.int x :: st) h z bc bs Kr Kx := q_istore_n dX1_sharesFrom_19 rfl (Nat.le_of_ble_eq_true rfl) hp kk
theorem dX1_sharesFrom_20 : decode (i_b iX1_sharesFrom) 20 = .ok (.iinc 3 1, 3) := by decide +kernel
theorem wX1_sharesFrom_20 {x : Int32} (kk : QW V iX1_sharesFrom 23 [a0, a1, a2, some (.int (x + (1)))] (st) h z bc bs Kr Kx) (hp : q_n2 a2 = true := by rfl) : QW V iX1_sharesFrom 20 [a0, a1, a2, some (.int x)] (st) h z bc bs Kr Kx := q_iinc (v := x + (1)) dX1_sharesFrom_20 rfl rfl (Nat.le_of_ble_eq_true rfl) hp kk
theorem dX1_sharesFrom_23 : decode (i_b iX1_sharesFrom) 23 = .ok (.goto (-19), 3) := by decide +kernel
theorem wX1_sharesFrom_23  (kk : QW V iX1_sharesFrom 4 [a0, a1, a2, a3] (st) h z bc bs Kr Kx) : QW V iX1_sharesFrom 23 [a0, a1, a2, a3] (st) h z bc bs Kr Kx := q_goto dX1_sharesFrom_23 (by decide) kk
theorem dX1_sharesFrom_26 : decode (i_b iX1_sharesFrom) 26 = .ok (.iload_n 2, 1) := by decide +kernel
theorem wX1_sharesFrom_26 {x : Int32} (kk : QW V iX1_sharesFrom 27 [a0, a1, some (.int x), a3] (.int x :: st) h z bc bs Kr Kx) : QW V iX1_sharesFrom 26 [a0, a1, some (.int x), a3] (st) h z bc bs Kr Kx := q_iload_n dX1_sharesFrom_26 rfl rfl kk
theorem dX1_sharesFrom_27 : decode (i_b iX1_sharesFrom) 27 = .ok (.ireturn, 1) := by decide +kernel
theorem wX1_sharesFrom_27 {x : Int32} {P : Int32 → q_H → Option Nat → Prop} (hk : P x h z) : QW V iX1_sharesFrom 27 [a0, a1, a2, a3] [.int x] h z bc bs (q_Ki P) Kx := q_iret dX1_sharesFrom_27 rfl rfl ⟨x, rfl, hk⟩
theorem eX1_guaranteedFrom {o : Nat} {x0 : Int32} {P : Int32 → q_H → Option Nat → Prop} (kk : QW V iX1_guaranteedFrom 0 [some (.ref o), some (.int x0), none, none] [] h z 0 0 (q_Ki P) Kx) : QMi V iX1_guaranteedFrom [.ref o, .int x0] h z P Kx := q_enter rfl (by decide +kernel) rfl (Nat.le_of_ble_eq_true rfl) kk
theorem dX1_guaranteedFrom_0 : decode (i_b iX1_guaranteedFrom) 0 = .ok (.iconst 0, 1) := by decide +kernel
theorem wX1_guaranteedFrom_0  (kk : QW V iX1_guaranteedFrom 1 [a0, a1, a2, a3] (.int (0) :: st) h z bc bs Kr Kx) : QW V iX1_guaranteedFrom 0 [a0, a1, a2, a3] (st) h z bc bs Kr Kx := q_iconst dX1_guaranteedFrom_0 (by decide) kk
theorem dX1_guaranteedFrom_1 : decode (i_b iX1_guaranteedFrom) 1 = .ok (.istore_n 2, 1) := by decide +kernel
theorem wX1_guaranteedFrom_1 {x : Int32} (kk : QW V iX1_guaranteedFrom 2 [a0, a1, some (.int x), a3] (st) h z bc bs Kr Kx) (hp : q_n2 a1 = true := by rfl) : QW V iX1_guaranteedFrom 1 [a0, a1, a2, a3] (.int x :: st) h z bc bs Kr Kx := q_istore_n dX1_guaranteedFrom_1 rfl (Nat.le_of_ble_eq_true rfl) hp kk
theorem dX1_guaranteedFrom_2 : decode (i_b iX1_guaranteedFrom) 2 = .ok (.iload_n 1, 1) := by decide +kernel
theorem wX1_guaranteedFrom_2 {x : Int32} (kk : QW V iX1_guaranteedFrom 3 [a0, some (.int x), a2, a3] (.int x :: st) h z bc bs Kr Kx) : QW V iX1_guaranteedFrom 2 [a0, some (.int x), a2, a3] (st) h z bc bs Kr Kx := q_iload_n dX1_guaranteedFrom_2 rfl rfl kk
theorem dX1_guaranteedFrom_3 : decode (i_b iX1_guaranteedFrom) 3 = .ok (.istore_n 3, 1) := by decide +kernel
theorem wX1_guaranteedFrom_3 {x : Int32} (kk : QW V iX1_guaranteedFrom 4 [a0, a1, a2, some (.int x)] (st) h z bc bs Kr Kx) (hp : q_n2 a2 = true := by rfl) : QW V iX1_guaranteedFrom 3 [a0, a1, a2, a3] (.int x :: st) h z bc bs Kr Kx := q_istore_n dX1_guaranteedFrom_3 rfl (Nat.le_of_ble_eq_true rfl) hp kk
theorem dX1_guaranteedFrom_4 : decode (i_b iX1_guaranteedFrom) 4 = .ok (.iload_n 3, 1) := by decide +kernel
theorem wX1_guaranteedFrom_4 {x : Int32} (kk : QW V iX1_guaranteedFrom 5 [a0, a1, a2, some (.int x)] (.int x :: st) h z bc bs Kr Kx) : QW V iX1_guaranteedFrom 4 [a0, a1, a2, some (.int x)] (st) h z bc bs Kr Kx := q_iload_n dX1_guaranteedFrom_4 rfl rfl kk
theorem dX1_guaranteedFrom_5 : decode (i_b iX1_guaranteedFrom) 5 = .ok (.aload_n 0, 1) := by decide +kernel
theorem wX1_guaranteedFrom_5 {x : Nat} (kk : QW V iX1_guaranteedFrom 6 [some (.ref x), a1, a2, a3] (.ref x :: st) h z bc bs Kr Kx) : QW V iX1_guaranteedFrom 5 [some (.ref x), a1, a2, a3] (st) h z bc bs Kr Kx := q_aload_n dX1_guaranteedFrom_5 rfl rfl kk
theorem dX1_guaranteedFrom_6 : decode (i_b iX1_guaranteedFrom) 6 = .ok (.getfield 22, 3) := by decide +kernel
theorem wX1_guaranteedFrom_6 {a : Nat} {f0 f1 f2 f3 f4 : Value} (ha : h a = some (.inr (2, [f0, f1, f2, f3, f4]))) (kk : QW V iX1_guaranteedFrom 9 [a0, a1, a2, a3] (f4 :: st) h z bc bs Kr Kx) : QW V iX1_guaranteedFrom 6 [a0, a1, a2, a3] (.ref a :: st) h z bc bs Kr Kx := q_getf (k := 4) dX1_guaranteedFrom_6 klX1 rfl (Nat.le_of_ble_eq_true rfl : 4 < 5) k1_55 rfl ha rfl kk
theorem wX1_guaranteedFrom_6u {a : Nat} {f0 f1 f2 f3 f4 : Value} (kk : QW V iX1_guaranteedFrom 9 [a0, a1, a2, a3] (f4 :: st) (q_up h a (.inr (2, [f0, f1, f2, f3, f4]))) z bc bs Kr Kx) : QW V iX1_guaranteedFrom 6 [a0, a1, a2, a3] (.ref a :: st) (q_up h a (.inr (2, [f0, f1, f2, f3, f4]))) z bc bs Kr Kx := wX1_guaranteedFrom_6 q_up_s kk
theorem dX1_guaranteedFrom_9 : decode (i_b iX1_guaranteedFrom) 9 = .ok (.if_icmp .ge 17, 3) := by decide +kernel
theorem wX1_guaranteedFrom_9 {x y : Int32} (kt : y ≤ x → QW V iX1_guaranteedFrom 26 [a0, a1, a2, a3] (st) h z bc bs Kr Kx) (kf : ¬ y ≤ x → QW V iX1_guaranteedFrom 12 [a0, a1, a2, a3] (st) h z bc bs Kr Kx) : QW V iX1_guaranteedFrom 9 [a0, a1, a2, a3] (.int y :: .int x :: st) h z bc bs Kr Kx := q_icmp_ge dX1_guaranteedFrom_9 (by decide) kt kf
theorem dX1_guaranteedFrom_12 : decode (i_b iX1_guaranteedFrom) 12 = .ok (.iload_n 2, 1) := by decide +kernel
theorem wX1_guaranteedFrom_12 {x : Int32} (kk : QW V iX1_guaranteedFrom 13 [a0, a1, some (.int x), a3] (.int x :: st) h z bc bs Kr Kx) : QW V iX1_guaranteedFrom 12 [a0, a1, some (.int x), a3] (st) h z bc bs Kr Kx := q_iload_n dX1_guaranteedFrom_12 rfl rfl kk
theorem dX1_guaranteedFrom_13 : decode (i_b iX1_guaranteedFrom) 13 = .ok (.aload_n 0, 1) := by decide +kernel
theorem wX1_guaranteedFrom_13 {x : Nat} (kk : QW V iX1_guaranteedFrom 14 [some (.ref x), a1, a2, a3] (.ref x :: st) h z bc bs Kr Kx) : QW V iX1_guaranteedFrom 13 [some (.ref x), a1, a2, a3] (st) h z bc bs Kr Kx := q_aload_n dX1_guaranteedFrom_13 rfl rfl kk
theorem dX1_guaranteedFrom_14 : decode (i_b iX1_guaranteedFrom) 14 = .ok (.iload_n 3, 1) := by decide +kernel
theorem wX1_guaranteedFrom_14 {x : Int32} (kk : QW V iX1_guaranteedFrom 15 [a0, a1, a2, some (.int x)] (.int x :: st) h z bc bs Kr Kx) : QW V iX1_guaranteedFrom 14 [a0, a1, a2, some (.int x)] (st) h z bc bs Kr Kx := q_iload_n dX1_guaranteedFrom_14 rfl rfl kk
theorem dX1_guaranteedFrom_15 : decode (i_b iX1_guaranteedFrom) 15 = .ok (.invokevirtual 33, 3) := by decide +kernel
theorem wX1_guaranteedFrom_15 {a : Nat} {fs : List Value} {x0 : Int32} (hb : h a = some (.inr (2, fs))) (hm : QMi V iX1_salaryOf [.ref a, .int x0] h z (fun r h' z' => QW V iX1_guaranteedFrom 18 [a0, a1, a2, a3] (.int r :: st) h' z' bc bs Kr Kx) Kx) (hW : (st.map fun v => v.category).sum ≤ 8 := by exact Nat.le_of_ble_eq_true rfl) : QW V iX1_guaranteedFrom 15 [a0, a1, a2, a3] (.int x0 :: .ref a :: st) h z bc bs Kr Kx := q_callV (y' := iX1_salaryOf) (As := [.int x0]) (rest := st) dX1_guaranteedFrom_15 k4_14 k3_159 k3_160 k1_3 hhX1_salaryOf rfl hdX1_salaryOf rfl rfl (Nat.le_of_ble_eq_true rfl) (Nat.le_of_ble_eq_true rfl) hW rfl hb (QMi.run hm)
theorem dX1_guaranteedFrom_18 : decode (i_b iX1_guaranteedFrom) 18 = .ok (.iadd, 1) := by decide +kernel
theorem wX1_guaranteedFrom_18 {x y : Int32} (kk : QW V iX1_guaranteedFrom 19 [a0, a1, a2, a3] (.int (x + y) :: st) h z bc bs Kr Kx) : QW V iX1_guaranteedFrom 18 [a0, a1, a2, a3] (.int y :: .int x :: st) h z bc bs Kr Kx := q_iadd dX1_guaranteedFrom_18 kk
theorem dX1_guaranteedFrom_19 : decode (i_b iX1_guaranteedFrom) 19 = .ok (.istore_n 2, 1) := by decide +kernel
theorem wX1_guaranteedFrom_19 {x : Int32} (kk : QW V iX1_guaranteedFrom 20 [a0, a1, some (.int x), a3] (st) h z bc bs Kr Kx) (hp : q_n2 a1 = true := by rfl) : QW V iX1_guaranteedFrom 19 [a0, a1, a2, a3] (.int x :: st) h z bc bs Kr Kx := q_istore_n dX1_guaranteedFrom_19 rfl (Nat.le_of_ble_eq_true rfl) hp kk
theorem dX1_guaranteedFrom_20 : decode (i_b iX1_guaranteedFrom) 20 = .ok (.iinc 3 1, 3) := by decide +kernel
theorem wX1_guaranteedFrom_20 {x : Int32} (kk : QW V iX1_guaranteedFrom 23 [a0, a1, a2, some (.int (x + (1)))] (st) h z bc bs Kr Kx) (hp : q_n2 a2 = true := by rfl) : QW V iX1_guaranteedFrom 20 [a0, a1, a2, some (.int x)] (st) h z bc bs Kr Kx := q_iinc (v := x + (1)) dX1_guaranteedFrom_20 rfl rfl (Nat.le_of_ble_eq_true rfl) hp kk
theorem dX1_guaranteedFrom_23 : decode (i_b iX1_guaranteedFrom) 23 = .ok (.goto (-19), 3) := by decide +kernel
theorem wX1_guaranteedFrom_23  (kk : QW V iX1_guaranteedFrom 4 [a0, a1, a2, a3] (st) h z bc bs Kr Kx) : QW V iX1_guaranteedFrom 23 [a0, a1, a2, a3] (st) h z bc bs Kr Kx := q_goto dX1_guaranteedFrom_23 (by decide) kk
theorem dX1_guaranteedFrom_26 : decode (i_b iX1_guaranteedFrom) 26 = .ok (.iload_n 2, 1) := by decide +kernel
theorem wX1_guaranteedFrom_26 {x : Int32} (kk : QW V iX1_guaranteedFrom 27 [a0, a1, some (.int x), a3] (.int x :: st) h z bc bs Kr Kx) : QW V iX1_guaranteedFrom 26 [a0, a1, some (.int x), a3] (st) h z bc bs Kr Kx := q_iload_n dX1_guaranteedFrom_26 rfl rfl kk
theorem dX1_guaranteedFrom_27 : decode (i_b iX1_guaranteedFrom) 27 = .ok (.ireturn, 1) := by decide +kernel
theorem wX1_guaranteedFrom_27 {x : Int32} {P : Int32 → q_H → Option Nat → Prop} (hk : P x h z) : QW V iX1_guaranteedFrom 27 [a0, a1, a2, a3] [.int x] h z bc bs (q_Ki P) Kx := q_iret dX1_guaranteedFrom_27 rfl rfl ⟨x, rfl, hk⟩
theorem eX1_stretchedPart {o : Nat} {x0 : Int32} {x1 : Int32} {P : Int32 → q_H → Option Nat → Prop} (kk : QW V iX1_stretchedPart 0 [some (.ref o), some (.int x0), some (.int x1), none, none] [] h z 0 0 (q_Ki P) Kx) : QMi V iX1_stretchedPart [.ref o, .int x0, .int x1] h z P Kx := q_enter rfl (by decide +kernel) rfl (Nat.le_of_ble_eq_true rfl) kk
theorem dX1_stretchedPart_0 : decode (i_b iX1_stretchedPart) 0 = .ok (.iconst 2, 1) := by decide +kernel
theorem wX1_stretchedPart_0  (kk : QW V iX1_stretchedPart 1 [a0, a1, a2, a3, a4] (.int (2) :: st) h z bc bs Kr Kx) : QW V iX1_stretchedPart 0 [a0, a1, a2, a3, a4] (st) h z bc bs Kr Kx := q_iconst dX1_stretchedPart_0 (by decide) kk
theorem dX1_stretchedPart_1 : decode (i_b iX1_stretchedPart) 1 = .ok (.aload_n 0, 1) := by decide +kernel
theorem wX1_stretchedPart_1 {x : Nat} (kk : QW V iX1_stretchedPart 2 [some (.ref x), a1, a2, a3, a4] (.ref x :: st) h z bc bs Kr Kx) : QW V iX1_stretchedPart 1 [some (.ref x), a1, a2, a3, a4] (st) h z bc bs Kr Kx := q_aload_n dX1_stretchedPart_1 rfl rfl kk
theorem dX1_stretchedPart_2 : decode (i_b iX1_stretchedPart) 2 = .ok (.getfield 16, 3) := by decide +kernel
theorem wX1_stretchedPart_2 {a : Nat} {f0 f1 f2 f3 f4 : Value} (ha : h a = some (.inr (2, [f0, f1, f2, f3, f4]))) (kk : QW V iX1_stretchedPart 5 [a0, a1, a2, a3, a4] (f2 :: st) h z bc bs Kr Kx) : QW V iX1_stretchedPart 2 [a0, a1, a2, a3, a4] (.ref a :: st) h z bc bs Kr Kx := q_getf (k := 2) dX1_stretchedPart_2 klX1 rfl (Nat.le_of_ble_eq_true rfl : 2 < 5) k1_49 rfl ha rfl kk
theorem wX1_stretchedPart_2u {a : Nat} {f0 f1 f2 f3 f4 : Value} (kk : QW V iX1_stretchedPart 5 [a0, a1, a2, a3, a4] (f2 :: st) (q_up h a (.inr (2, [f0, f1, f2, f3, f4]))) z bc bs Kr Kx) : QW V iX1_stretchedPart 2 [a0, a1, a2, a3, a4] (.ref a :: st) (q_up h a (.inr (2, [f0, f1, f2, f3, f4]))) z bc bs Kr Kx := wX1_stretchedPart_2 q_up_s kk
theorem dX1_stretchedPart_5 : decode (i_b iX1_stretchedPart) 5 = .ok (.iload_n 1, 1) := by decide +kernel
theorem wX1_stretchedPart_5 {x : Int32} (kk : QW V iX1_stretchedPart 6 [a0, some (.int x), a2, a3, a4] (.int x :: st) h z bc bs Kr Kx) : QW V iX1_stretchedPart 5 [a0, some (.int x), a2, a3, a4] (st) h z bc bs Kr Kx := q_iload_n dX1_stretchedPart_5 rfl rfl kk
theorem dX1_stretchedPart_6 : decode (i_b iX1_stretchedPart) 6 = .ok (.isub, 1) := by decide +kernel
theorem wX1_stretchedPart_6 {x y : Int32} (kk : QW V iX1_stretchedPart 7 [a0, a1, a2, a3, a4] (.int (x - y) :: st) h z bc bs Kr Kx) : QW V iX1_stretchedPart 6 [a0, a1, a2, a3, a4] (.int y :: .int x :: st) h z bc bs Kr Kx := q_isub dX1_stretchedPart_6 kk
theorem dX1_stretchedPart_7 : decode (i_b iX1_stretchedPart) 7 = .ok (.imul, 1) := by decide +kernel
theorem wX1_stretchedPart_7 {x y : Int32} (kk : QW V iX1_stretchedPart 8 [a0, a1, a2, a3, a4] (.int (x * y) :: st) h z bc bs Kr Kx) : QW V iX1_stretchedPart 7 [a0, a1, a2, a3, a4] (.int y :: .int x :: st) h z bc bs Kr Kx := q_imul dX1_stretchedPart_7 kk
theorem dX1_stretchedPart_8 : decode (i_b iX1_stretchedPart) 8 = .ok (.iconst 1, 1) := by decide +kernel
theorem wX1_stretchedPart_8  (kk : QW V iX1_stretchedPart 9 [a0, a1, a2, a3, a4] (.int (1) :: st) h z bc bs Kr Kx) : QW V iX1_stretchedPart 8 [a0, a1, a2, a3, a4] (st) h z bc bs Kr Kx := q_iconst dX1_stretchedPart_8 (by decide) kk
theorem dX1_stretchedPart_9 : decode (i_b iX1_stretchedPart) 9 = .ok (.iadd, 1) := by decide +kernel
theorem wX1_stretchedPart_9 {x y : Int32} (kk : QW V iX1_stretchedPart 10 [a0, a1, a2, a3, a4] (.int (x + y) :: st) h z bc bs Kr Kx) : QW V iX1_stretchedPart 9 [a0, a1, a2, a3, a4] (.int y :: .int x :: st) h z bc bs Kr Kx := q_iadd dX1_stretchedPart_9 kk
theorem dX1_stretchedPart_10 : decode (i_b iX1_stretchedPart) 10 = .ok (.istore_n 3, 1) := by decide +kernel
theorem wX1_stretchedPart_10 {x : Int32} (kk : QW V iX1_stretchedPart 11 [a0, a1, a2, some (.int x), a4] (st) h z bc bs Kr Kx) (hp : q_n2 a2 = true := by rfl) : QW V iX1_stretchedPart 10 [a0, a1, a2, a3, a4] (.int x :: st) h z bc bs Kr Kx := q_istore_n dX1_stretchedPart_10 rfl (Nat.le_of_ble_eq_true rfl) hp kk
theorem dX1_stretchedPart_11 : decode (i_b iX1_stretchedPart) 11 = .ok (.iload_n 3, 1) := by decide +kernel
theorem wX1_stretchedPart_11 {x : Int32} (kk : QW V iX1_stretchedPart 12 [a0, a1, a2, some (.int x), a4] (.int x :: st) h z bc bs Kr Kx) : QW V iX1_stretchedPart 11 [a0, a1, a2, some (.int x), a4] (st) h z bc bs Kr Kx := q_iload_n dX1_stretchedPart_11 rfl rfl kk
theorem dX1_stretchedPart_12 : decode (i_b iX1_stretchedPart) 12 = .ok (.iconst 1, 1) := by decide +kernel
theorem wX1_stretchedPart_12  (kk : QW V iX1_stretchedPart 13 [a0, a1, a2, a3, a4] (.int (1) :: st) h z bc bs Kr Kx) : QW V iX1_stretchedPart 12 [a0, a1, a2, a3, a4] (st) h z bc bs Kr Kx := q_iconst dX1_stretchedPart_12 (by decide) kk
theorem dX1_stretchedPart_13 : decode (i_b iX1_stretchedPart) 13 = .ok (.if_icmp .lt 8, 3) := by decide +kernel
theorem wX1_stretchedPart_13 {x y : Int32} (kt : x < y → QW V iX1_stretchedPart 21 [a0, a1, a2, a3, a4] (st) h z bc bs Kr Kx) (kf : ¬ x < y → QW V iX1_stretchedPart 16 [a0, a1, a2, a3, a4] (st) h z bc bs Kr Kx) : QW V iX1_stretchedPart 13 [a0, a1, a2, a3, a4] (.int y :: .int x :: st) h z bc bs Kr Kx := q_icmp_lt dX1_stretchedPart_13 (by decide) kt kf
theorem dX1_stretchedPart_16 : decode (i_b iX1_stretchedPart) 16 = .ok (.iload_n 2, 1) := by decide +kernel
theorem wX1_stretchedPart_16 {x : Int32} (kk : QW V iX1_stretchedPart 17 [a0, a1, some (.int x), a3, a4] (.int x :: st) h z bc bs Kr Kx) : QW V iX1_stretchedPart 16 [a0, a1, some (.int x), a3, a4] (st) h z bc bs Kr Kx := q_iload_n dX1_stretchedPart_16 rfl rfl kk
theorem dX1_stretchedPart_17 : decode (i_b iX1_stretchedPart) 17 = .ok (.iload_n 3, 1) := by decide +kernel
theorem wX1_stretchedPart_17 {x : Int32} (kk : QW V iX1_stretchedPart 18 [a0, a1, a2, some (.int x), a4] (.int x :: st) h z bc bs Kr Kx) : QW V iX1_stretchedPart 17 [a0, a1, a2, some (.int x), a4] (st) h z bc bs Kr Kx := q_iload_n dX1_stretchedPart_17 rfl rfl kk
theorem dX1_stretchedPart_18 : decode (i_b iX1_stretchedPart) 18 = .ok (.if_icmp .lt 5, 3) := by decide +kernel
theorem wX1_stretchedPart_18 {x y : Int32} (kt : x < y → QW V iX1_stretchedPart 23 [a0, a1, a2, a3, a4] (st) h z bc bs Kr Kx) (kf : ¬ x < y → QW V iX1_stretchedPart 21 [a0, a1, a2, a3, a4] (st) h z bc bs Kr Kx) : QW V iX1_stretchedPart 18 [a0, a1, a2, a3, a4] (.int y :: .int x :: st) h z bc bs Kr Kx := q_icmp_lt dX1_stretchedPart_18 (by decide) kt kf
theorem dX1_stretchedPart_21 : decode (i_b iX1_stretchedPart) 21 = .ok (.iconst 0, 1) := by decide +kernel
theorem wX1_stretchedPart_21  (kk : QW V iX1_stretchedPart 22 [a0, a1, a2, a3, a4] (.int (0) :: st) h z bc bs Kr Kx) : QW V iX1_stretchedPart 21 [a0, a1, a2, a3, a4] (st) h z bc bs Kr Kx := q_iconst dX1_stretchedPart_21 (by decide) kk
theorem dX1_stretchedPart_22 : decode (i_b iX1_stretchedPart) 22 = .ok (.ireturn, 1) := by decide +kernel
theorem wX1_stretchedPart_22 {x : Int32} {P : Int32 → q_H → Option Nat → Prop} (hk : P x h z) : QW V iX1_stretchedPart 22 [a0, a1, a2, a3, a4] [.int x] h z bc bs (q_Ki P) Kx := q_iret dX1_stretchedPart_22 rfl rfl ⟨x, rfl, hk⟩
theorem dX1_stretchedPart_23 : decode (i_b iX1_stretchedPart) 23 = .ok (.aload_n 0, 1) := by decide +kernel
theorem wX1_stretchedPart_23 {x : Nat} (kk : QW V iX1_stretchedPart 24 [some (.ref x), a1, a2, a3, a4] (.ref x :: st) h z bc bs Kr Kx) : QW V iX1_stretchedPart 23 [some (.ref x), a1, a2, a3, a4] (st) h z bc bs Kr Kx := q_aload_n dX1_stretchedPart_23 rfl rfl kk
theorem dX1_stretchedPart_24 : decode (i_b iX1_stretchedPart) 24 = .ok (.iload_n 1, 1) := by decide +kernel
theorem wX1_stretchedPart_24 {x : Int32} (kk : QW V iX1_stretchedPart 25 [a0, some (.int x), a2, a3, a4] (.int x :: st) h z bc bs Kr Kx) : QW V iX1_stretchedPart 24 [a0, some (.int x), a2, a3, a4] (st) h z bc bs Kr Kx := q_iload_n dX1_stretchedPart_24 rfl rfl kk
theorem dX1_stretchedPart_25 : decode (i_b iX1_stretchedPart) 25 = .ok (.invokevirtual 36, 3) := by decide +kernel
theorem wX1_stretchedPart_25 {a : Nat} {fs : List Value} {x0 : Int32} (hb : h a = some (.inr (2, fs))) (hm : QMi V iX1_guaranteedFrom [.ref a, .int x0] h z (fun r h' z' => QW V iX1_stretchedPart 28 [a0, a1, a2, a3, a4] (.int r :: st) h' z' bc bs Kr Kx) Kx) (hW : (st.map fun v => v.category).sum ≤ 8 := by exact Nat.le_of_ble_eq_true rfl) : QW V iX1_stretchedPart 25 [a0, a1, a2, a3, a4] (.int x0 :: .ref a :: st) h z bc bs Kr Kx := q_callV (y' := iX1_guaranteedFrom) (As := [.int x0]) (rest := st) dX1_stretchedPart_25 k4_10 k4_11 k4_12 k1_3 hhX1_guaranteedFrom rfl hdX1_guaranteedFrom rfl rfl (Nat.le_of_ble_eq_true rfl) (Nat.le_of_ble_eq_true rfl) hW rfl hb (QMi.run hm)
theorem dX1_stretchedPart_28 : decode (i_b iX1_stretchedPart) 28 = .ok (.istore 4, 2) := by decide +kernel
theorem wX1_stretchedPart_28 {x : Int32} (kk : QW V iX1_stretchedPart 30 [a0, a1, a2, a3, some (.int x)] (st) h z bc bs Kr Kx) (hp : q_n2 a3 = true := by rfl) : QW V iX1_stretchedPart 28 [a0, a1, a2, a3, a4] (.int x :: st) h z bc bs Kr Kx := q_istore dX1_stretchedPart_28 (Nat.le_of_ble_eq_true rfl) hp kk
theorem dX1_stretchedPart_30 : decode (i_b iX1_stretchedPart) 30 = .ok (.iload 4, 2) := by decide +kernel
theorem wX1_stretchedPart_30 {x : Int32} (kk : QW V iX1_stretchedPart 32 [a0, a1, a2, a3, some (.int x)] (.int x :: st) h z bc bs Kr Kx) : QW V iX1_stretchedPart 30 [a0, a1, a2, a3, some (.int x)] (st) h z bc bs Kr Kx := q_iload dX1_stretchedPart_30 rfl kk
theorem dX1_stretchedPart_32 : decode (i_b iX1_stretchedPart) 32 = .ok (.iload_n 3, 1) := by decide +kernel
theorem wX1_stretchedPart_32 {x : Int32} (kk : QW V iX1_stretchedPart 33 [a0, a1, a2, some (.int x), a4] (.int x :: st) h z bc bs Kr Kx) : QW V iX1_stretchedPart 32 [a0, a1, a2, some (.int x), a4] (st) h z bc bs Kr Kx := q_iload_n dX1_stretchedPart_32 rfl rfl kk
theorem dX1_stretchedPart_33 : decode (i_b iX1_stretchedPart) 33 = .ok (.idiv, 1) := by decide +kernel
theorem wX1_stretchedPart_33 {x y : Int32} (hne : ¬ y = 0) (kk : QW V iX1_stretchedPart 34 [a0, a1, a2, a3, a4] (.int (x / y) :: st) h z bc bs Kr Kx) : QW V iX1_stretchedPart 33 [a0, a1, a2, a3, a4] (.int y :: .int x :: st) h z bc bs Kr Kx := q_idiv dX1_stretchedPart_33 hne kk
theorem dX1_stretchedPart_34 : decode (i_b iX1_stretchedPart) 34 = .ok (.iload_n 2, 1) := by decide +kernel
theorem wX1_stretchedPart_34 {x : Int32} (kk : QW V iX1_stretchedPart 35 [a0, a1, some (.int x), a3, a4] (.int x :: st) h z bc bs Kr Kx) : QW V iX1_stretchedPart 34 [a0, a1, some (.int x), a3, a4] (st) h z bc bs Kr Kx := q_iload_n dX1_stretchedPart_34 rfl rfl kk
theorem dX1_stretchedPart_35 : decode (i_b iX1_stretchedPart) 35 = .ok (.iload 4, 2) := by decide +kernel
theorem wX1_stretchedPart_35 {x : Int32} (kk : QW V iX1_stretchedPart 37 [a0, a1, a2, a3, some (.int x)] (.int x :: st) h z bc bs Kr Kx) : QW V iX1_stretchedPart 35 [a0, a1, a2, a3, some (.int x)] (st) h z bc bs Kr Kx := q_iload dX1_stretchedPart_35 rfl kk
theorem dX1_stretchedPart_37 : decode (i_b iX1_stretchedPart) 37 = .ok (.iload_n 3, 1) := by decide +kernel
theorem wX1_stretchedPart_37 {x : Int32} (kk : QW V iX1_stretchedPart 38 [a0, a1, a2, some (.int x), a4] (.int x :: st) h z bc bs Kr Kx) : QW V iX1_stretchedPart 37 [a0, a1, a2, some (.int x), a4] (st) h z bc bs Kr Kx := q_iload_n dX1_stretchedPart_37 rfl rfl kk
theorem dX1_stretchedPart_38 : decode (i_b iX1_stretchedPart) 38 = .ok (.irem, 1) := by decide +kernel
theorem wX1_stretchedPart_38 {x y : Int32} (hne : ¬ y = 0) (kk : QW V iX1_stretchedPart 39 [a0, a1, a2, a3, a4] (.int (x - x / y * y) :: st) h z bc bs Kr Kx) : QW V iX1_stretchedPart 38 [a0, a1, a2, a3, a4] (.int y :: .int x :: st) h z bc bs Kr Kx := q_irem dX1_stretchedPart_38 hne kk
theorem dX1_stretchedPart_39 : decode (i_b iX1_stretchedPart) 39 = .ok (.if_icmp .ge 7, 3) := by decide +kernel
theorem wX1_stretchedPart_39 {x y : Int32} (kt : y ≤ x → QW V iX1_stretchedPart 46 [a0, a1, a2, a3, a4] (st) h z bc bs Kr Kx) (kf : ¬ y ≤ x → QW V iX1_stretchedPart 42 [a0, a1, a2, a3, a4] (st) h z bc bs Kr Kx) : QW V iX1_stretchedPart 39 [a0, a1, a2, a3, a4] (.int y :: .int x :: st) h z bc bs Kr Kx := q_icmp_ge dX1_stretchedPart_39 (by decide) kt kf
theorem dX1_stretchedPart_42 : decode (i_b iX1_stretchedPart) 42 = .ok (.iconst 1, 1) := by decide +kernel
theorem wX1_stretchedPart_42  (kk : QW V iX1_stretchedPart 43 [a0, a1, a2, a3, a4] (.int (1) :: st) h z bc bs Kr Kx) : QW V iX1_stretchedPart 42 [a0, a1, a2, a3, a4] (st) h z bc bs Kr Kx := q_iconst dX1_stretchedPart_42 (by decide) kk
theorem dX1_stretchedPart_43 : decode (i_b iX1_stretchedPart) 43 = .ok (.goto 4, 3) := by decide +kernel
theorem wX1_stretchedPart_43  (kk : QW V iX1_stretchedPart 47 [a0, a1, a2, a3, a4] (st) h z bc bs Kr Kx) : QW V iX1_stretchedPart 43 [a0, a1, a2, a3, a4] (st) h z bc bs Kr Kx := q_goto dX1_stretchedPart_43 (by decide) kk
theorem dX1_stretchedPart_46 : decode (i_b iX1_stretchedPart) 46 = .ok (.iconst 0, 1) := by decide +kernel
theorem wX1_stretchedPart_46  (kk : QW V iX1_stretchedPart 47 [a0, a1, a2, a3, a4] (.int (0) :: st) h z bc bs Kr Kx) : QW V iX1_stretchedPart 46 [a0, a1, a2, a3, a4] (st) h z bc bs Kr Kx := q_iconst dX1_stretchedPart_46 (by decide) kk
theorem dX1_stretchedPart_47 : decode (i_b iX1_stretchedPart) 47 = .ok (.iadd, 1) := by decide +kernel
theorem wX1_stretchedPart_47 {x y : Int32} (kk : QW V iX1_stretchedPart 48 [a0, a1, a2, a3, a4] (.int (x + y) :: st) h z bc bs Kr Kx) : QW V iX1_stretchedPart 47 [a0, a1, a2, a3, a4] (.int y :: .int x :: st) h z bc bs Kr Kx := q_iadd dX1_stretchedPart_47 kk
theorem dX1_stretchedPart_48 : decode (i_b iX1_stretchedPart) 48 = .ok (.ireturn, 1) := by decide +kernel
theorem wX1_stretchedPart_48 {x : Int32} {P : Int32 → q_H → Option Nat → Prop} (hk : P x h z) : QW V iX1_stretchedPart 48 [a0, a1, a2, a3, a4] [.int x] h z bc bs (q_Ki P) Kx := q_iret dX1_stretchedPart_48 rfl rfl ⟨x, rfl, hk⟩
theorem eX1_guaranteedPart {o : Nat} {x0 : Int32} {x1 : Int32} {P : Int32 → q_H → Option Nat → Prop} (kk : QW V iX1_guaranteedPart 0 [some (.ref o), some (.int x0), some (.int x1)] [] h z 0 0 (q_Ki P) Kx) : QMi V iX1_guaranteedPart [.ref o, .int x0, .int x1] h z P Kx := q_enter rfl (by decide +kernel) rfl (Nat.le_of_ble_eq_true rfl) kk
theorem dX1_guaranteedPart_0 : decode (i_b iX1_guaranteedPart) 0 = .ok (.iload_n 1, 1) := by decide +kernel
theorem wX1_guaranteedPart_0 {x : Int32} (kk : QW V iX1_guaranteedPart 1 [a0, some (.int x), a2] (.int x :: st) h z bc bs Kr Kx) : QW V iX1_guaranteedPart 0 [a0, some (.int x), a2] (st) h z bc bs Kr Kx := q_iload_n dX1_guaranteedPart_0 rfl rfl kk
theorem dX1_guaranteedPart_1 : decode (i_b iX1_guaranteedPart) 1 = .ok (.iload_n 2, 1) := by decide +kernel
theorem wX1_guaranteedPart_1 {x : Int32} (kk : QW V iX1_guaranteedPart 2 [a0, a1, some (.int x)] (.int x :: st) h z bc bs Kr Kx) : QW V iX1_guaranteedPart 1 [a0, a1, some (.int x)] (st) h z bc bs Kr Kx := q_iload_n dX1_guaranteedPart_1 rfl rfl kk
theorem dX1_guaranteedPart_2 : decode (i_b iX1_guaranteedPart) 2 = .ok (.iadd, 1) := by decide +kernel
theorem wX1_guaranteedPart_2 {x y : Int32} (kk : QW V iX1_guaranteedPart 3 [a0, a1, a2] (.int (x + y) :: st) h z bc bs Kr Kx) : QW V iX1_guaranteedPart 2 [a0, a1, a2] (.int y :: .int x :: st) h z bc bs Kr Kx := q_iadd dX1_guaranteedPart_2 kk
theorem dX1_guaranteedPart_3 : decode (i_b iX1_guaranteedPart) 3 = .ok (.aload_n 0, 1) := by decide +kernel
theorem wX1_guaranteedPart_3 {x : Nat} (kk : QW V iX1_guaranteedPart 4 [some (.ref x), a1, a2] (.ref x :: st) h z bc bs Kr Kx) : QW V iX1_guaranteedPart 3 [some (.ref x), a1, a2] (st) h z bc bs Kr Kx := q_aload_n dX1_guaranteedPart_3 rfl rfl kk
theorem dX1_guaranteedPart_4 : decode (i_b iX1_guaranteedPart) 4 = .ok (.getfield 22, 3) := by decide +kernel
theorem wX1_guaranteedPart_4 {a : Nat} {f0 f1 f2 f3 f4 : Value} (ha : h a = some (.inr (2, [f0, f1, f2, f3, f4]))) (kk : QW V iX1_guaranteedPart 7 [a0, a1, a2] (f4 :: st) h z bc bs Kr Kx) : QW V iX1_guaranteedPart 4 [a0, a1, a2] (.ref a :: st) h z bc bs Kr Kx := q_getf (k := 4) dX1_guaranteedPart_4 klX1 rfl (Nat.le_of_ble_eq_true rfl : 4 < 5) k1_55 rfl ha rfl kk
theorem wX1_guaranteedPart_4u {a : Nat} {f0 f1 f2 f3 f4 : Value} (kk : QW V iX1_guaranteedPart 7 [a0, a1, a2] (f4 :: st) (q_up h a (.inr (2, [f0, f1, f2, f3, f4]))) z bc bs Kr Kx) : QW V iX1_guaranteedPart 4 [a0, a1, a2] (.ref a :: st) (q_up h a (.inr (2, [f0, f1, f2, f3, f4]))) z bc bs Kr Kx := wX1_guaranteedPart_4 q_up_s kk
theorem dX1_guaranteedPart_7 : decode (i_b iX1_guaranteedPart) 7 = .ok (.if_icmp .ge 13, 3) := by decide +kernel
theorem wX1_guaranteedPart_7 {x y : Int32} (kt : y ≤ x → QW V iX1_guaranteedPart 20 [a0, a1, a2] (st) h z bc bs Kr Kx) (kf : ¬ y ≤ x → QW V iX1_guaranteedPart 10 [a0, a1, a2] (st) h z bc bs Kr Kx) : QW V iX1_guaranteedPart 7 [a0, a1, a2] (.int y :: .int x :: st) h z bc bs Kr Kx := q_icmp_ge dX1_guaranteedPart_7 (by decide) kt kf
theorem dX1_guaranteedPart_10 : decode (i_b iX1_guaranteedPart) 10 = .ok (.aload_n 0, 1) := by decide +kernel
theorem wX1_guaranteedPart_10 {x : Nat} (kk : QW V iX1_guaranteedPart 11 [some (.ref x), a1, a2] (.ref x :: st) h z bc bs Kr Kx) : QW V iX1_guaranteedPart 10 [some (.ref x), a1, a2] (st) h z bc bs Kr Kx := q_aload_n dX1_guaranteedPart_10 rfl rfl kk
theorem dX1_guaranteedPart_11 : decode (i_b iX1_guaranteedPart) 11 = .ok (.iload_n 1, 1) := by decide +kernel
theorem wX1_guaranteedPart_11 {x : Int32} (kk : QW V iX1_guaranteedPart 12 [a0, some (.int x), a2] (.int x :: st) h z bc bs Kr Kx) : QW V iX1_guaranteedPart 11 [a0, some (.int x), a2] (st) h z bc bs Kr Kx := q_iload_n dX1_guaranteedPart_11 rfl rfl kk
theorem dX1_guaranteedPart_12 : decode (i_b iX1_guaranteedPart) 12 = .ok (.iload_n 2, 1) := by decide +kernel
theorem wX1_guaranteedPart_12 {x : Int32} (kk : QW V iX1_guaranteedPart 13 [a0, a1, some (.int x)] (.int x :: st) h z bc bs Kr Kx) : QW V iX1_guaranteedPart 12 [a0, a1, some (.int x)] (st) h z bc bs Kr Kx := q_iload_n dX1_guaranteedPart_12 rfl rfl kk
theorem dX1_guaranteedPart_13 : decode (i_b iX1_guaranteedPart) 13 = .ok (.iadd, 1) := by decide +kernel
theorem wX1_guaranteedPart_13 {x y : Int32} (kk : QW V iX1_guaranteedPart 14 [a0, a1, a2] (.int (x + y) :: st) h z bc bs Kr Kx) : QW V iX1_guaranteedPart 13 [a0, a1, a2] (.int y :: .int x :: st) h z bc bs Kr Kx := q_iadd dX1_guaranteedPart_13 kk
theorem dX1_guaranteedPart_14 : decode (i_b iX1_guaranteedPart) 14 = .ok (.invokevirtual 33, 3) := by decide +kernel
theorem wX1_guaranteedPart_14 {a : Nat} {fs : List Value} {x0 : Int32} (hb : h a = some (.inr (2, fs))) (hm : QMi V iX1_salaryOf [.ref a, .int x0] h z (fun r h' z' => QW V iX1_guaranteedPart 17 [a0, a1, a2] (.int r :: st) h' z' bc bs Kr Kx) Kx) (hW : (st.map fun v => v.category).sum ≤ 8 := by exact Nat.le_of_ble_eq_true rfl) : QW V iX1_guaranteedPart 14 [a0, a1, a2] (.int x0 :: .ref a :: st) h z bc bs Kr Kx := q_callV (y' := iX1_salaryOf) (As := [.int x0]) (rest := st) dX1_guaranteedPart_14 k4_14 k3_159 k3_160 k1_3 hhX1_salaryOf rfl hdX1_salaryOf rfl rfl (Nat.le_of_ble_eq_true rfl) (Nat.le_of_ble_eq_true rfl) hW rfl hb (QMi.run hm)
theorem dX1_guaranteedPart_17 : decode (i_b iX1_guaranteedPart) 17 = .ok (.goto 4, 3) := by decide +kernel
theorem wX1_guaranteedPart_17  (kk : QW V iX1_guaranteedPart 21 [a0, a1, a2] (st) h z bc bs Kr Kx) : QW V iX1_guaranteedPart 17 [a0, a1, a2] (st) h z bc bs Kr Kx := q_goto dX1_guaranteedPart_17 (by decide) kk
theorem dX1_guaranteedPart_20 : decode (i_b iX1_guaranteedPart) 20 = .ok (.iconst 0, 1) := by decide +kernel
theorem wX1_guaranteedPart_20  (kk : QW V iX1_guaranteedPart 21 [a0, a1, a2] (.int (0) :: st) h z bc bs Kr Kx) : QW V iX1_guaranteedPart 20 [a0, a1, a2] (st) h z bc bs Kr Kx := q_iconst dX1_guaranteedPart_20 (by decide) kk
theorem dX1_guaranteedPart_21 : decode (i_b iX1_guaranteedPart) 21 = .ok (.ireturn, 1) := by decide +kernel
theorem wX1_guaranteedPart_21 {x : Int32} {P : Int32 → q_H → Option Nat → Prop} (hk : P x h z) : QW V iX1_guaranteedPart 21 [a0, a1, a2] [.int x] h z bc bs (q_Ki P) Kx := q_iret dX1_guaranteedPart_21 rfl rfl ⟨x, rfl, hk⟩
end QX1
