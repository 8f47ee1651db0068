section QX9a
variable {V : q_En} {st : List Value} {h : q_H} {z : Option Nat} {bc bs : Nat} {Kr : q_KR} {Kx : q_KX} {a0 a1 a2 a3 a4 a5 a6 a7 a8 a9 a10 a11 a12 a13 a14 a15 : Option Value}

theorem eX9_init {o : Nat} {P : q_H → Option Nat → Prop} (kk : QW V iX9_init 0 [some (.ref o)] [] h z 12 5831 (q_Kv P) Kx) : QMv V iX9_init [.ref o] h z P Kx := q_enter rfl (by decide +kernel) rfl (Nat.le_of_ble_eq_true rfl) kk
theorem dX9_init_0 : decode (i_b iX9_init) 0 = .ok (.aload_n 0, 1) := by decide +kernel
theorem wX9_init_0 {x : Nat} (kk : QW V iX9_init 1 [some (.ref x)] (.ref x :: st) h z bc bs Kr Kx) : QW V iX9_init 0 [some (.ref x)] (st) h z bc bs Kr Kx := q_aload_n dX9_init_0 rfl rfl kk
theorem dX9_init_1 : decode (i_b iX9_init) 1 = .ok (.invokespecial 1, 3) := by decide +kernel
theorem wX9_init_1 {a : Nat} (kk : QW V iX9_init 4 [a0] (st) h z bc bs Kr Kx) (hW : (st.map fun v => v.category).sum ≤ 8 := by exact Nat.le_of_ble_eq_true rfl) : QW V iX9_init 1 [a0] (.ref a :: st) h z bc bs Kr Kx := q_objI dX9_init_1 k5_212 k1_31 kObj (Nat.le_of_ble_eq_true rfl) (Nat.le_trans (Nat.add_le_add_right hW 12) (Nat.le_of_ble_eq_true rfl)) kk
theorem dX9_init_4 : decode (i_b iX9_init) 4 = .ok (.aload_n 0, 1) := by decide +kernel
theorem wX9_init_4 {x : Nat} (kk : QW V iX9_init 5 [some (.ref x)] (.ref x :: st) h z bc bs Kr Kx) : QW V iX9_init 4 [some (.ref x)] (st) h z bc bs Kr Kx := q_aload_n dX9_init_4 rfl rfl kk
theorem dX9_init_5 : decode (i_b iX9_init) 5 = .ok (.sipush 386, 3) := by decide +kernel
theorem wX9_init_5  (kk : QW V iX9_init 8 [a0] (.int (386) :: st) h z bc bs Kr Kx) : QW V iX9_init 5 [a0] (st) h z bc bs Kr Kx := q_sipush dX9_init_5 (by decide) kk
theorem dX9_init_8 : decode (i_b iX9_init) 8 = .ok (.newarray .long, 2) := by decide +kernel
theorem wX9_init_8 {n N : Nat} {i : Int32} (hi : i = nI N) (hN : N < 4096) (kk : QW V iX9_init 10 [a0] (.ref n :: st) (q_up h n (.inl (2, N, .inr (.inl fun _ => 0)))) (some (n + 1)) bc bs Kr Kx) : QW V iX9_init 8 [a0] (.int i :: st) h (some n) (bc + 1) (bs + N) Kr Kx := q_newarr (t := 2) dX9_init_8 k6_79 rfl (fun _ _ q => q) hi hN (by decide) (fun _ => rfl) kk
theorem dX9_init_10 : decode (i_b iX9_init) 10 = .ok (.putfield 7, 3) := by decide +kernel
theorem wX9_init_10 {a : Nat} {fs : List Value} {x : Nat} (hl : 0 < fs.length) (kk : QW V iX9_init 13 [a0] (st) (q_up h a (.inr (10, fs.set 0 (.ref x)))) z bc bs Kr Kx) : QW V iX9_init 10 [a0] (.ref x :: .ref a :: st) (q_up h a (.inr (10, fs))) z bc bs Kr Kx := q_putF (k := 0) tyX9 dX9_init_10 klX9 tyX9_ok nmX9 rfl (Nat.le_of_ble_eq_true rfl : 0 < 35) k5_213 rfl rfl rfl rfl rfl rfl hl q_up_s (by rw [q_up_u]; exact kk)
theorem dX9_init_13 : decode (i_b iX9_init) 13 = .ok (.aload_n 0, 1) := by decide +kernel
theorem wX9_init_13 {x : Nat} (kk : QW V iX9_init 14 [some (.ref x)] (.ref x :: st) h z bc bs Kr Kx) : QW V iX9_init 13 [some (.ref x)] (st) h z bc bs Kr Kx := q_aload_n dX9_init_13 rfl rfl kk
theorem dX9_init_14 : decode (i_b iX9_init) 14 = .ok (.sipush 3860, 3) := by decide +kernel
theorem wX9_init_14  (kk : QW V iX9_init 17 [a0] (.int (3860) :: st) h z bc bs Kr Kx) : QW V iX9_init 14 [a0] (st) h z bc bs Kr Kx := q_sipush dX9_init_14 (by decide) kk
theorem dX9_init_17 : decode (i_b iX9_init) 17 = .ok (.newarray .long, 2) := by decide +kernel
theorem wX9_init_17 {n N : Nat} {i : Int32} (hi : i = nI N) (hN : N < 4096) (kk : QW V iX9_init 19 [a0] (.ref n :: st) (q_up h n (.inl (2, N, .inr (.inl fun _ => 0)))) (some (n + 1)) bc bs Kr Kx) : QW V iX9_init 17 [a0] (.int i :: st) h (some n) (bc + 1) (bs + N) Kr Kx := q_newarr (t := 2) dX9_init_17 k6_79 rfl (fun _ _ q => q) hi hN (by decide) (fun _ => rfl) kk
theorem dX9_init_19 : decode (i_b iX9_init) 19 = .ok (.putfield 13, 3) := by decide +kernel
theorem wX9_init_19 {a : Nat} {fs : List Value} {x : Nat} (hl : 1 < fs.length) (kk : QW V iX9_init 22 [a0] (st) (q_up h a (.inr (10, fs.set 1 (.ref x)))) z bc bs Kr Kx) : QW V iX9_init 19 [a0] (.ref x :: .ref a :: st) (q_up h a (.inr (10, fs))) z bc bs Kr Kx := q_putF (k := 1) tyX9 dX9_init_19 klX9 tyX9_ok nmX9 rfl (Nat.le_of_ble_eq_true rfl : 1 < 35) k5_214 rfl rfl rfl rfl rfl rfl hl q_up_s (by rw [q_up_u]; exact kk)
theorem dX9_init_22 : decode (i_b iX9_init) 22 = .ok (.aload_n 0, 1) := by decide +kernel
theorem wX9_init_22 {x : Nat} (kk : QW V iX9_init 23 [some (.ref x)] (.ref x :: st) h z bc bs Kr Kx) : QW V iX9_init 22 [some (.ref x)] (st) h z bc bs Kr Kx := q_aload_n dX9_init_22 rfl rfl kk
theorem dX9_init_23 : decode (i_b iX9_init) 23 = .ok (.iconst 4, 1) := by decide +kernel
theorem wX9_init_23  (kk : QW V iX9_init 24 [a0] (.int (4) :: st) h z bc bs Kr Kx) : QW V iX9_init 23 [a0] (st) h z bc bs Kr Kx := q_iconst dX9_init_23 (by decide) kk
theorem dX9_init_24 : decode (i_b iX9_init) 24 = .ok (.newarray .int, 2) := by decide +kernel
theorem wX9_init_24 {n N : Nat} {i : Int32} (hi : i = nI N) (hN : N < 4096) (kk : QW V iX9_init 26 [a0] (.ref n :: st) (q_up h n (.inl (1, N, .inl fun _ => 0))) (some (n + 1)) bc bs Kr Kx) : QW V iX9_init 24 [a0] (.int i :: st) h (some n) (bc + 1) (bs + N) Kr Kx := q_newarr (t := 1) dX9_init_24 k1_178 rfl (fun _ _ q => q) hi hN (by decide) (fun _ => rfl) kk
theorem dX9_init_26 : decode (i_b iX9_init) 26 = .ok (.putfield 16, 3) := by decide +kernel
theorem wX9_init_26 {a : Nat} {fs : List Value} {x : Nat} (hl : 13 < fs.length) (kk : QW V iX9_init 29 [a0] (st) (q_up h a (.inr (10, fs.set 13 (.ref x)))) z bc bs Kr Kx) : QW V iX9_init 26 [a0] (.ref x :: .ref a :: st) (q_up h a (.inr (10, fs))) z bc bs Kr Kx := q_putF (k := 13) tyX9 dX9_init_26 klX9 tyX9_ok nmX9 rfl (Nat.le_of_ble_eq_true rfl : 13 < 35) k5_226 rfl rfl rfl rfl rfl rfl hl q_up_s (by rw [q_up_u]; exact kk)
theorem dX9_init_29 : decode (i_b iX9_init) 29 = .ok (.aload_n 0, 1) := by decide +kernel
theorem wX9_init_29 {x : Nat} (kk : QW V iX9_init 30 [some (.ref x)] (.ref x :: st) h z bc bs Kr Kx) : QW V iX9_init 29 [some (.ref x)] (st) h z bc bs Kr Kx := q_aload_n dX9_init_29 rfl rfl kk
theorem dX9_init_30 : decode (i_b iX9_init) 30 = .ok (.iconst 4, 1) := by decide +kernel
theorem wX9_init_30  (kk : QW V iX9_init 31 [a0] (.int (4) :: st) h z bc bs Kr Kx) : QW V iX9_init 30 [a0] (st) h z bc bs Kr Kx := q_iconst dX9_init_30 (by decide) kk
theorem dX9_init_31 : decode (i_b iX9_init) 31 = .ok (.newarray .int, 2) := by decide +kernel
theorem wX9_init_31 {n N : Nat} {i : Int32} (hi : i = nI N) (hN : N < 4096) (kk : QW V iX9_init 33 [a0] (.ref n :: st) (q_up h n (.inl (1, N, .inl fun _ => 0))) (some (n + 1)) bc bs Kr Kx) : QW V iX9_init 31 [a0] (.int i :: st) h (some n) (bc + 1) (bs + N) Kr Kx := q_newarr (t := 1) dX9_init_31 k1_178 rfl (fun _ _ q => q) hi hN (by decide) (fun _ => rfl) kk
theorem dX9_init_33 : decode (i_b iX9_init) 33 = .ok (.putfield 20, 3) := by decide +kernel
theorem wX9_init_33 {a : Nat} {fs : List Value} {x : Nat} (hl : 14 < fs.length) (kk : QW V iX9_init 36 [a0] (st) (q_up h a (.inr (10, fs.set 14 (.ref x)))) z bc bs Kr Kx) : QW V iX9_init 33 [a0] (.ref x :: .ref a :: st) (q_up h a (.inr (10, fs))) z bc bs Kr Kx := q_putF (k := 14) tyX9 dX9_init_33 klX9 tyX9_ok nmX9 rfl (Nat.le_of_ble_eq_true rfl : 14 < 35) k5_227 rfl rfl rfl rfl rfl rfl hl q_up_s (by rw [q_up_u]; exact kk)
theorem dX9_init_36 : decode (i_b iX9_init) 36 = .ok (.aload_n 0, 1) := by decide +kernel
theorem wX9_init_36 {x : Nat} (kk : QW V iX9_init 37 [some (.ref x)] (.ref x :: st) h z bc bs Kr Kx) : QW V iX9_init 36 [some (.ref x)] (st) h z bc bs Kr Kx := q_aload_n dX9_init_36 rfl rfl kk
theorem dX9_init_37 : decode (i_b iX9_init) 37 = .ok (.sipush 900, 3) := by decide +kernel
theorem wX9_init_37  (kk : QW V iX9_init 40 [a0] (.int (900) :: st) h z bc bs Kr Kx) : QW V iX9_init 37 [a0] (st) h z bc bs Kr Kx := q_sipush dX9_init_37 (by decide) kk
theorem dX9_init_40 : decode (i_b iX9_init) 40 = .ok (.newarray .int, 2) := by decide +kernel
theorem wX9_init_40 {n N : Nat} {i : Int32} (hi : i = nI N) (hN : N < 4096) (kk : QW V iX9_init 42 [a0] (.ref n :: st) (q_up h n (.inl (1, N, .inl fun _ => 0))) (some (n + 1)) bc bs Kr Kx) : QW V iX9_init 40 [a0] (.int i :: st) h (some n) (bc + 1) (bs + N) Kr Kx := q_newarr (t := 1) dX9_init_40 k1_178 rfl (fun _ _ q => q) hi hN (by decide) (fun _ => rfl) kk
theorem dX9_init_42 : decode (i_b iX9_init) 42 = .ok (.putfield 23, 3) := by decide +kernel
theorem wX9_init_42 {a : Nat} {fs : List Value} {x : Nat} (hl : 15 < fs.length) (kk : QW V iX9_init 45 [a0] (st) (q_up h a (.inr (10, fs.set 15 (.ref x)))) z bc bs Kr Kx) : QW V iX9_init 42 [a0] (.ref x :: .ref a :: st) (q_up h a (.inr (10, fs))) z bc bs Kr Kx := q_putF (k := 15) tyX9 dX9_init_42 klX9 tyX9_ok nmX9 rfl (Nat.le_of_ble_eq_true rfl : 15 < 35) k5_228 rfl rfl rfl rfl rfl rfl hl q_up_s (by rw [q_up_u]; exact kk)
theorem dX9_init_45 : decode (i_b iX9_init) 45 = .ok (.aload_n 0, 1) := by decide +kernel
theorem wX9_init_45 {x : Nat} (kk : QW V iX9_init 46 [some (.ref x)] (.ref x :: st) h z bc bs Kr Kx) : QW V iX9_init 45 [some (.ref x)] (st) h z bc bs Kr Kx := q_aload_n dX9_init_45 rfl rfl kk
theorem dX9_init_46 : decode (i_b iX9_init) 46 = .ok (.iconst (-1), 1) := by decide +kernel
theorem wX9_init_46  (kk : QW V iX9_init 47 [a0] (.int (-1) :: st) h z bc bs Kr Kx) : QW V iX9_init 46 [a0] (st) h z bc bs Kr Kx := q_iconst dX9_init_46 (by decide) kk
theorem dX9_init_47 : decode (i_b iX9_init) 47 = .ok (.putfield 26, 3) := by decide +kernel
theorem wX9_init_47 {a : Nat} {fs : List Value} {x : Int32} (hl : 23 < fs.length) (kk : QW V iX9_init 50 [a0] (st) (q_up h a (.inr (10, fs.set 23 (.int x)))) z bc bs Kr Kx) : QW V iX9_init 47 [a0] (.int x :: .ref a :: st) (q_up h a (.inr (10, fs))) z bc bs Kr Kx := q_putf (k := 23) tyX9 dX9_init_47 klX9 tyX9_ok nmX9 rfl (Nat.le_of_ble_eq_true rfl : 23 < 35) k5_236 rfl rfl rfl rfl hl q_up_s (by rw [q_up_u]; exact kk)
theorem dX9_init_50 : decode (i_b iX9_init) 50 = .ok (.aload_n 0, 1) := by decide +kernel
theorem wX9_init_50 {x : Nat} (kk : QW V iX9_init 51 [some (.ref x)] (.ref x :: st) h z bc bs Kr Kx) : QW V iX9_init 50 [some (.ref x)] (st) h z bc bs Kr Kx := q_aload_n dX9_init_50 rfl rfl kk
theorem dX9_init_51 : decode (i_b iX9_init) 51 = .ok (.bipush 7, 2) := by decide +kernel
theorem wX9_init_51  (kk : QW V iX9_init 53 [a0] (.int (7) :: st) h z bc bs Kr Kx) : QW V iX9_init 51 [a0] (st) h z bc bs Kr Kx := q_bipush dX9_init_51 (by decide) kk
theorem dX9_init_53 : decode (i_b iX9_init) 53 = .ok (.newarray .int, 2) := by decide +kernel
theorem wX9_init_53 {n N : Nat} {i : Int32} (hi : i = nI N) (hN : N < 4096) (kk : QW V iX9_init 55 [a0] (.ref n :: st) (q_up h n (.inl (1, N, .inl fun _ => 0))) (some (n + 1)) bc bs Kr Kx) : QW V iX9_init 53 [a0] (.int i :: st) h (some n) (bc + 1) (bs + N) Kr Kx := q_newarr (t := 1) dX9_init_53 k1_178 rfl (fun _ _ q => q) hi hN (by decide) (fun _ => rfl) kk
theorem dX9_init_55 : decode (i_b iX9_init) 55 = .ok (.putfield 30, 3) := by decide +kernel
theorem wX9_init_55 {a : Nat} {fs : List Value} {x : Nat} (hl : 24 < fs.length) (kk : QW V iX9_init 58 [a0] (st) (q_up h a (.inr (10, fs.set 24 (.ref x)))) z bc bs Kr Kx) : QW V iX9_init 55 [a0] (.ref x :: .ref a :: st) (q_up h a (.inr (10, fs))) z bc bs Kr Kx := q_putF (k := 24) tyX9 dX9_init_55 klX9 tyX9_ok nmX9 rfl (Nat.le_of_ble_eq_true rfl : 24 < 35) k5_237 rfl rfl rfl rfl rfl rfl hl q_up_s (by rw [q_up_u]; exact kk)
theorem dX9_init_58 : decode (i_b iX9_init) 58 = .ok (.aload_n 0, 1) := by decide +kernel
theorem wX9_init_58 {x : Nat} (kk : QW V iX9_init 59 [some (.ref x)] (.ref x :: st) h z bc bs Kr Kx) : QW V iX9_init 58 [some (.ref x)] (st) h z bc bs Kr Kx := q_aload_n dX9_init_58 rfl rfl kk
theorem dX9_init_59 : decode (i_b iX9_init) 59 = .ok (.bipush 8, 2) := by decide +kernel
theorem wX9_init_59  (kk : QW V iX9_init 61 [a0] (.int (8) :: st) h z bc bs Kr Kx) : QW V iX9_init 59 [a0] (st) h z bc bs Kr Kx := q_bipush dX9_init_59 (by decide) kk
theorem dX9_init_61 : decode (i_b iX9_init) 61 = .ok (.newarray .int, 2) := by decide +kernel
theorem wX9_init_61 {n N : Nat} {i : Int32} (hi : i = nI N) (hN : N < 4096) (kk : QW V iX9_init 63 [a0] (.ref n :: st) (q_up h n (.inl (1, N, .inl fun _ => 0))) (some (n + 1)) bc bs Kr Kx) : QW V iX9_init 61 [a0] (.int i :: st) h (some n) (bc + 1) (bs + N) Kr Kx := q_newarr (t := 1) dX9_init_61 k1_178 rfl (fun _ _ q => q) hi hN (by decide) (fun _ => rfl) kk
theorem dX9_init_63 : decode (i_b iX9_init) 63 = .ok (.putfield 33, 3) := by decide +kernel
theorem wX9_init_63 {a : Nat} {fs : List Value} {x : Nat} (hl : 25 < fs.length) (kk : QW V iX9_init 66 [a0] (st) (q_up h a (.inr (10, fs.set 25 (.ref x)))) z bc bs Kr Kx) : QW V iX9_init 63 [a0] (.ref x :: .ref a :: st) (q_up h a (.inr (10, fs))) z bc bs Kr Kx := q_putF (k := 25) tyX9 dX9_init_63 klX9 tyX9_ok nmX9 rfl (Nat.le_of_ble_eq_true rfl : 25 < 35) k5_238 rfl rfl rfl rfl rfl rfl hl q_up_s (by rw [q_up_u]; exact kk)
theorem dX9_init_66 : decode (i_b iX9_init) 66 = .ok (.aload_n 0, 1) := by decide +kernel
theorem wX9_init_66 {x : Nat} (kk : QW V iX9_init 67 [some (.ref x)] (.ref x :: st) h z bc bs Kr Kx) : QW V iX9_init 66 [some (.ref x)] (st) h z bc bs Kr Kx := q_aload_n dX9_init_66 rfl rfl kk
theorem dX9_init_67 : decode (i_b iX9_init) 67 = .ok (.sipush 216, 3) := by decide +kernel
theorem wX9_init_67  (kk : QW V iX9_init 70 [a0] (.int (216) :: st) h z bc bs Kr Kx) : QW V iX9_init 67 [a0] (st) h z bc bs Kr Kx := q_sipush dX9_init_67 (by decide) kk
theorem dX9_init_70 : decode (i_b iX9_init) 70 = .ok (.newarray .int, 2) := by decide +kernel
theorem wX9_init_70 {n N : Nat} {i : Int32} (hi : i = nI N) (hN : N < 4096) (kk : QW V iX9_init 72 [a0] (.ref n :: st) (q_up h n (.inl (1, N, .inl fun _ => 0))) (some (n + 1)) bc bs Kr Kx) : QW V iX9_init 70 [a0] (.int i :: st) h (some n) (bc + 1) (bs + N) Kr Kx := q_newarr (t := 1) dX9_init_70 k1_178 rfl (fun _ _ q => q) hi hN (by decide) (fun _ => rfl) kk
theorem dX9_init_72 : decode (i_b iX9_init) 72 = .ok (.putfield 36, 3) := by decide +kernel
theorem wX9_init_72 {a : Nat} {fs : List Value} {x : Nat} (hl : 27 < fs.length) (kk : QW V iX9_init 75 [a0] (st) (q_up h a (.inr (10, fs.set 27 (.ref x)))) z bc bs Kr Kx) : QW V iX9_init 72 [a0] (.ref x :: .ref a :: st) (q_up h a (.inr (10, fs))) z bc bs Kr Kx := q_putF (k := 27) tyX9 dX9_init_72 klX9 tyX9_ok nmX9 rfl (Nat.le_of_ble_eq_true rfl : 27 < 35) k6_0 rfl rfl rfl rfl rfl rfl hl q_up_s (by rw [q_up_u]; exact kk)
theorem dX9_init_75 : decode (i_b iX9_init) 75 = .ok (.aload_n 0, 1) := by decide +kernel
theorem wX9_init_75 {x : Nat} (kk : QW V iX9_init 76 [some (.ref x)] (.ref x :: st) h z bc bs Kr Kx) : QW V iX9_init 75 [some (.ref x)] (st) h z bc bs Kr Kx := q_aload_n dX9_init_75 rfl rfl kk
theorem dX9_init_76 : decode (i_b iX9_init) 76 = .ok (.sipush 386, 3) := by decide +kernel
theorem wX9_init_76  (kk : QW V iX9_init 79 [a0] (.int (386) :: st) h z bc bs Kr Kx) : QW V iX9_init 76 [a0] (st) h z bc bs Kr Kx := q_sipush dX9_init_76 (by decide) kk
theorem dX9_init_79 : decode (i_b iX9_init) 79 = .ok (.newarray .long, 2) := by decide +kernel
theorem wX9_init_79 {n N : Nat} {i : Int32} (hi : i = nI N) (hN : N < 4096) (kk : QW V iX9_init 81 [a0] (.ref n :: st) (q_up h n (.inl (2, N, .inr (.inl fun _ => 0)))) (some (n + 1)) bc bs Kr Kx) : QW V iX9_init 79 [a0] (.int i :: st) h (some n) (bc + 1) (bs + N) Kr Kx := q_newarr (t := 2) dX9_init_79 k6_79 rfl (fun _ _ q => q) hi hN (by decide) (fun _ => rfl) kk
theorem dX9_init_81 : decode (i_b iX9_init) 81 = .ok (.putfield 39, 3) := by decide +kernel
theorem wX9_init_81 {a : Nat} {fs : List Value} {x : Nat} (hl : 29 < fs.length) (kk : QW V iX9_init 84 [a0] (st) (q_up h a (.inr (10, fs.set 29 (.ref x)))) z bc bs Kr Kx) : QW V iX9_init 81 [a0] (.ref x :: .ref a :: st) (q_up h a (.inr (10, fs))) z bc bs Kr Kx := q_putF (k := 29) tyX9 dX9_init_81 klX9 tyX9_ok nmX9 rfl (Nat.le_of_ble_eq_true rfl : 29 < 35) k6_2 rfl rfl rfl rfl rfl rfl hl q_up_s (by rw [q_up_u]; exact kk)
theorem dX9_init_84 : decode (i_b iX9_init) 84 = .ok (.aload_n 0, 1) := by decide +kernel
theorem wX9_init_84 {x : Nat} (kk : QW V iX9_init 85 [some (.ref x)] (.ref x :: st) h z bc bs Kr Kx) : QW V iX9_init 84 [some (.ref x)] (st) h z bc bs Kr Kx := q_aload_n dX9_init_84 rfl rfl kk
theorem dX9_init_85 : decode (i_b iX9_init) 85 = .ok (.bipush 12, 2) := by decide +kernel
theorem wX9_init_85  (kk : QW V iX9_init 87 [a0] (.int (12) :: st) h z bc bs Kr Kx) : QW V iX9_init 85 [a0] (st) h z bc bs Kr Kx := q_bipush dX9_init_85 (by decide) kk
theorem dX9_init_87 : decode (i_b iX9_init) 87 = .ok (.newarray .int, 2) := by decide +kernel
theorem wX9_init_87 {n N : Nat} {i : Int32} (hi : i = nI N) (hN : N < 4096) (kk : QW V iX9_init 89 [a0] (.ref n :: st) (q_up h n (.inl (1, N, .inl fun _ => 0))) (some (n + 1)) bc bs Kr Kx) : QW V iX9_init 87 [a0] (.int i :: st) h (some n) (bc + 1) (bs + N) Kr Kx := q_newarr (t := 1) dX9_init_87 k1_178 rfl (fun _ _ q => q) hi hN (by decide) (fun _ => rfl) kk
theorem dX9_init_89 : decode (i_b iX9_init) 89 = .ok (.putfield 42, 3) := by decide +kernel
theorem wX9_init_89 {a : Nat} {fs : List Value} {x : Nat} (hl : 30 < fs.length) (kk : QW V iX9_init 92 [a0] (st) (q_up h a (.inr (10, fs.set 30 (.ref x)))) z bc bs Kr Kx) : QW V iX9_init 89 [a0] (.ref x :: .ref a :: st) (q_up h a (.inr (10, fs))) z bc bs Kr Kx := q_putF (k := 30) tyX9 dX9_init_89 klX9 tyX9_ok nmX9 rfl (Nat.le_of_ble_eq_true rfl : 30 < 35) k6_3 rfl rfl rfl rfl rfl rfl hl q_up_s (by rw [q_up_u]; exact kk)
theorem dX9_init_92 : decode (i_b iX9_init) 92 = .ok (.aload_n 0, 1) := by decide +kernel
theorem wX9_init_92 {x : Nat} (kk : QW V iX9_init 93 [some (.ref x)] (.ref x :: st) h z bc bs Kr Kx) : QW V iX9_init 92 [some (.ref x)] (st) h z bc bs Kr Kx := q_aload_n dX9_init_92 rfl rfl kk
theorem dX9_init_93 : decode (i_b iX9_init) 93 = .ok (.bipush 24, 2) := by decide +kernel
theorem wX9_init_93  (kk : QW V iX9_init 95 [a0] (.int (24) :: st) h z bc bs Kr Kx) : QW V iX9_init 93 [a0] (st) h z bc bs Kr Kx := q_bipush dX9_init_93 (by decide) kk
theorem dX9_init_95 : decode (i_b iX9_init) 95 = .ok (.newarray .int, 2) := by decide +kernel
theorem wX9_init_95 {n N : Nat} {i : Int32} (hi : i = nI N) (hN : N < 4096) (kk : QW V iX9_init 97 [a0] (.ref n :: st) (q_up h n (.inl (1, N, .inl fun _ => 0))) (some (n + 1)) bc bs Kr Kx) : QW V iX9_init 95 [a0] (.int i :: st) h (some n) (bc + 1) (bs + N) Kr Kx := q_newarr (t := 1) dX9_init_95 k1_178 rfl (fun _ _ q => q) hi hN (by decide) (fun _ => rfl) kk
theorem dX9_init_97 : decode (i_b iX9_init) 97 = .ok (.putfield 45, 3) := by decide +kernel
theorem wX9_init_97 {a : Nat} {fs : List Value} {x : Nat} (hl : 31 < fs.length) (kk : QW V iX9_init 100 [a0] (st) (q_up h a (.inr (10, fs.set 31 (.ref x)))) z bc bs Kr Kx) : QW V iX9_init 97 [a0] (.ref x :: .ref a :: st) (q_up h a (.inr (10, fs))) z bc bs Kr Kx := q_putF (k := 31) tyX9 dX9_init_97 klX9 tyX9_ok nmX9 rfl (Nat.le_of_ble_eq_true rfl : 31 < 35) k6_4 rfl rfl rfl rfl rfl rfl hl q_up_s (by rw [q_up_u]; exact kk)
theorem dX9_init_100 : decode (i_b iX9_init) 100 = .ok (.aload_n 0, 1) := by decide +kernel
theorem wX9_init_100 {x : Nat} (kk : QW V iX9_init 101 [some (.ref x)] (.ref x :: st) h z bc bs Kr Kx) : QW V iX9_init 100 [some (.ref x)] (st) h z bc bs Kr Kx := q_aload_n dX9_init_100 rfl rfl kk
theorem dX9_init_101 : decode (i_b iX9_init) 101 = .ok (.bipush 24, 2) := by decide +kernel
theorem wX9_init_101  (kk : QW V iX9_init 103 [a0] (.int (24) :: st) h z bc bs Kr Kx) : QW V iX9_init 101 [a0] (st) h z bc bs Kr Kx := q_bipush dX9_init_101 (by decide) kk
theorem dX9_init_103 : decode (i_b iX9_init) 103 = .ok (.newarray .int, 2) := by decide +kernel
theorem wX9_init_103 {n N : Nat} {i : Int32} (hi : i = nI N) (hN : N < 4096) (kk : QW V iX9_init 105 [a0] (.ref n :: st) (q_up h n (.inl (1, N, .inl fun _ => 0))) (some (n + 1)) bc bs Kr Kx) : QW V iX9_init 103 [a0] (.int i :: st) h (some n) (bc + 1) (bs + N) Kr Kx := q_newarr (t := 1) dX9_init_103 k1_178 rfl (fun _ _ q => q) hi hN (by decide) (fun _ => rfl) kk
theorem dX9_init_105 : decode (i_b iX9_init) 105 = .ok (.putfield 48, 3) := by decide +kernel
theorem wX9_init_105 {a : Nat} {fs : List Value} {x : Nat} (hl : 32 < fs.length) (kk : QW V iX9_init 108 [a0] (st) (q_up h a (.inr (10, fs.set 32 (.ref x)))) z bc bs Kr Kx) : QW V iX9_init 105 [a0] (.ref x :: .ref a :: st) (q_up h a (.inr (10, fs))) z bc bs Kr Kx := q_putF (k := 32) tyX9 dX9_init_105 klX9 tyX9_ok nmX9 rfl (Nat.le_of_ble_eq_true rfl : 32 < 35) k6_5 rfl rfl rfl rfl rfl rfl hl q_up_s (by rw [q_up_u]; exact kk)
theorem dX9_init_108 : decode (i_b iX9_init) 108 = .ok (.return_, 1) := by decide +kernel
theorem wX9_init_108 {P : q_H → Option Nat → Prop} (hk : P h z) : QW V iX9_init 108 [a0] [] h z bc bs (q_Kv P) Kx := q_vret dX9_init_108 rfl ⟨rfl, hk⟩
theorem eX9_thrown {o : Nat} {P : Int32 → q_H → Option Nat → Prop} (kk : QW V iX9_thrown 0 [some (.ref o)] [] h z 0 0 (q_Ki P) Kx) : QMi V iX9_thrown [.ref o] h z P Kx := q_enter rfl (by decide +kernel) rfl (Nat.le_of_ble_eq_true rfl) kk
theorem dX9_thrown_0 : decode (i_b iX9_thrown) 0 = .ok (.aload_n 0, 1) := by decide +kernel
theorem wX9_thrown_0 {x : Nat} (kk : QW V iX9_thrown 1 [some (.ref x)] (.ref x :: st) h z bc bs Kr Kx) : QW V iX9_thrown 0 [some (.ref x)] (st) h z bc bs Kr Kx := q_aload_n dX9_thrown_0 rfl rfl kk
theorem dX9_thrown_1 : decode (i_b iX9_thrown) 1 = .ok (.getfield 51, 3) := by decide +kernel
theorem wX9_thrown_1 {o : Nat} {m : Nat → Int32} (ha : h o = some (.inr (10, q_MF o m))) (kk : QW V iX9_thrown 4 [a0] (.int (m 4) :: st) h z bc bs Kr Kx) : QW V iX9_thrown 1 [a0] (.ref o :: st) h z bc bs Kr Kx := q_getf (k := 4) dX9_thrown_1 klX9 rfl (Nat.le_of_ble_eq_true rfl : 4 < 35) k5_217 rfl ha rfl kk
theorem wX9_thrown_1u {o : Nat} {m : Nat → Int32} (kk : QW V iX9_thrown 4 [a0] (.int (m 4) :: st) (q_up h o (.inr (10, q_MF o m))) z bc bs Kr Kx) : QW V iX9_thrown 1 [a0] (.ref o :: st) (q_up h o (.inr (10, q_MF o m))) z bc bs Kr Kx := wX9_thrown_1 q_up_s kk
theorem dX9_thrown_4 : decode (i_b iX9_thrown) 4 = .ok (.ireturn, 1) := by decide +kernel
theorem wX9_thrown_4 {x : Int32} {P : Int32 → q_H → Option Nat → Prop} (hk : P x h z) : QW V iX9_thrown 4 [a0] [.int x] h z bc bs (q_Ki P) Kx := q_iret dX9_thrown_4 rfl rfl ⟨x, rfl, hk⟩
theorem eX9_isIn {x0 : Int64} {x1 : Int64} {x2 : Int64} {P : Int32 → q_H → Option Nat → Prop} (kk : QW V iX9_isIn 0 [some (.long x0), none, some (.long x1), none, some (.long x2), none] [] h z 0 0 (q_Ki P) Kx) : QMi V iX9_isIn [.long x0, .long x1, .long x2] h z P Kx := q_enter rfl (by decide +kernel) rfl (Nat.le_of_ble_eq_true rfl) kk
theorem dX9_isIn_0 : decode (i_b iX9_isIn) 0 = .ok (.lload_n 0, 1) := by decide +kernel
theorem wX9_isIn_0 {x : Int64} (kk : QW V iX9_isIn 1 [some (.long x), a1, a2, a3, a4, a5] (.long x :: st) h z bc bs Kr Kx) : QW V iX9_isIn 0 [some (.long x), a1, a2, a3, a4, a5] (st) h z bc bs Kr Kx := q_lload_n dX9_isIn_0 rfl rfl kk
theorem dX9_isIn_1 : decode (i_b iX9_isIn) 1 = .ok (.lload_n 2, 1) := by decide +kernel
theorem wX9_isIn_1 {x : Int64} (kk : QW V iX9_isIn 2 [a0, a1, some (.long x), a3, a4, a5] (.long x :: st) h z bc bs Kr Kx) : QW V iX9_isIn 1 [a0, a1, some (.long x), a3, a4, a5] (st) h z bc bs Kr Kx := q_lload_n dX9_isIn_1 rfl rfl kk
theorem dX9_isIn_2 : decode (i_b iX9_isIn) 2 = .ok (.lcmp, 1) := by decide +kernel
theorem dX9_isIn_3 : decode (i_b iX9_isIn) 3 = .ok (.ifCond .lt 14, 3) := by decide +kernel
theorem wX9_isIn_2 {x y : Int64} (kt : x < y → QW V iX9_isIn 17 [a0, a1, a2, a3, a4, a5] (st) h z bc bs Kr Kx) (kf : ¬ x < y → QW V iX9_isIn 6 [a0, a1, a2, a3, a4, a5] (st) h z bc bs Kr Kx) : QW V iX9_isIn 2 [a0, a1, a2, a3, a4, a5] (.long y :: .long x :: st) h z bc bs Kr Kx := q_lcmp dX9_isIn_2 (q_if_lt dX9_isIn_3 (by decide) (fun q => kt ((q_lc_lt x y).mp q)) (fun q => kf (q_lcn_lt q)))
theorem dX9_isIn_6 : decode (i_b iX9_isIn) 6 = .ok (.lload_n 0, 1) := by decide +kernel
theorem wX9_isIn_6 {x : Int64} (kk : QW V iX9_isIn 7 [some (.long x), a1, a2, a3, a4, a5] (.long x :: st) h z bc bs Kr Kx) : QW V iX9_isIn 6 [some (.long x), a1, a2, a3, a4, a5] (st) h z bc bs Kr Kx := q_lload_n dX9_isIn_6 rfl rfl kk
theorem dX9_isIn_7 : decode (i_b iX9_isIn) 7 = .ok (.lload 4, 2) := by decide +kernel
theorem wX9_isIn_7 {x : Int64} (kk : QW V iX9_isIn 9 [a0, a1, a2, a3, some (.long x), a5] (.long x :: st) h z bc bs Kr Kx) : QW V iX9_isIn 7 [a0, a1, a2, a3, some (.long x), a5] (st) h z bc bs Kr Kx := q_lload dX9_isIn_7 rfl kk
theorem dX9_isIn_9 : decode (i_b iX9_isIn) 9 = .ok (.lcmp, 1) := by decide +kernel
theorem dX9_isIn_10 : decode (i_b iX9_isIn) 10 = .ok (.ifCond .gt 7, 3) := by decide +kernel
theorem wX9_isIn_9 {x y : Int64} (kt : y < x → QW V iX9_isIn 17 [a0, a1, a2, a3, a4, a5] (st) h z bc bs Kr Kx) (kf : ¬ y < x → QW V iX9_isIn 13 [a0, a1, a2, a3, a4, a5] (st) h z bc bs Kr Kx) : QW V iX9_isIn 9 [a0, a1, a2, a3, a4, a5] (.long y :: .long x :: st) h z bc bs Kr Kx := q_lcmp dX9_isIn_9 (q_if_gt dX9_isIn_10 (by decide) (fun q => kt ((q_lc_gt x y).mp q)) (fun q => kf (q_lcn_gt q)))
theorem dX9_isIn_13 : decode (i_b iX9_isIn) 13 = .ok (.iconst 1, 1) := by decide +kernel
theorem wX9_isIn_13  (kk : QW V iX9_isIn 14 [a0, a1, a2, a3, a4, a5] (.int (1) :: st) h z bc bs Kr Kx) : QW V iX9_isIn 13 [a0, a1, a2, a3, a4, a5] (st) h z bc bs Kr Kx := q_iconst dX9_isIn_13 (by decide) kk
theorem dX9_isIn_14 : decode (i_b iX9_isIn) 14 = .ok (.goto 4, 3) := by decide +kernel
theorem wX9_isIn_14  (kk : QW V iX9_isIn 18 [a0, a1, a2, a3, a4, a5] (st) h z bc bs Kr Kx) : QW V iX9_isIn 14 [a0, a1, a2, a3, a4, a5] (st) h z bc bs Kr Kx := q_goto dX9_isIn_14 (by decide) kk
theorem dX9_isIn_17 : decode (i_b iX9_isIn) 17 = .ok (.iconst 0, 1) := by decide +kernel
theorem wX9_isIn_17  (kk : QW V iX9_isIn 18 [a0, a1, a2, a3, a4, a5] (.int (0) :: st) h z bc bs Kr Kx) : QW V iX9_isIn 17 [a0, a1, a2, a3, a4, a5] (st) h z bc bs Kr Kx := q_iconst dX9_isIn_17 (by decide) kk
theorem dX9_isIn_18 : decode (i_b iX9_isIn) 18 = .ok (.ireturn, 1) := by decide +kernel
theorem wX9_isIn_18 {x : Int32} {P : Int32 → q_H → Option Nat → Prop} (hk : P x h z) (hn : narrow .boolean (.int x) = .int x := by first | rfl | exact q_b_n _) : QW V iX9_isIn 18 [a0, a1, a2, a3, a4, a5] [.int x] h z bc bs (q_Ki P) Kx := q_iret dX9_isIn_18 rfl hn ⟨x, rfl, hk⟩
theorem eX9_has {x0 : Int32} {x1 : Int32} {P : Int32 → q_H → Option Nat → Prop} (kk : QW V iX9_has 0 [some (.int x0), some (.int x1)] [] h z 0 0 (q_Ki P) Kx) : QMi V iX9_has [.int x0, .int x1] h z P Kx := q_enter rfl (by decide +kernel) rfl (Nat.le_of_ble_eq_true rfl) kk
theorem dX9_has_0 : decode (i_b iX9_has) 0 = .ok (.iload_n 0, 1) := by decide +kernel
theorem wX9_has_0 {x : Int32} (kk : QW V iX9_has 1 [some (.int x), a1] (.int x :: st) h z bc bs Kr Kx) : QW V iX9_has 0 [some (.int x), a1] (st) h z bc bs Kr Kx := q_iload_n dX9_has_0 rfl rfl kk
theorem dX9_has_1 : decode (i_b iX9_has) 1 = .ok (.iload_n 1, 1) := by decide +kernel
theorem wX9_has_1 {x : Int32} (kk : QW V iX9_has 2 [a0, some (.int x)] (.int x :: st) h z bc bs Kr Kx) : QW V iX9_has 1 [a0, some (.int x)] (st) h z bc bs Kr Kx := q_iload_n dX9_has_1 rfl rfl kk
theorem dX9_has_2 : decode (i_b iX9_has) 2 = .ok (.ishr, 1) := by decide +kernel
theorem wX9_has_2 {x y : Int32} (kk : QW V iX9_has 3 [a0, a1] (.int (x >>> (y &&& 31)) :: st) h z bc bs Kr Kx) : QW V iX9_has 2 [a0, a1] (.int y :: .int x :: st) h z bc bs Kr Kx := q_ishr dX9_has_2 kk
theorem dX9_has_3 : decode (i_b iX9_has) 3 = .ok (.iconst 1, 1) := by decide +kernel
theorem wX9_has_3  (kk : QW V iX9_has 4 [a0, a1] (.int (1) :: st) h z bc bs Kr Kx) : QW V iX9_has 3 [a0, a1] (st) h z bc bs Kr Kx := q_iconst dX9_has_3 (by decide) kk
theorem dX9_has_4 : decode (i_b iX9_has) 4 = .ok (.iand, 1) := by decide +kernel
theorem wX9_has_4 {x y : Int32} (kk : QW V iX9_has 5 [a0, a1] (.int (x &&& y) :: st) h z bc bs Kr Kx) : QW V iX9_has 4 [a0, a1] (.int y :: .int x :: st) h z bc bs Kr Kx := q_iand dX9_has_4 kk
theorem dX9_has_5 : decode (i_b iX9_has) 5 = .ok (.iconst 1, 1) := by decide +kernel
theorem wX9_has_5  (kk : QW V iX9_has 6 [a0, a1] (.int (1) :: st) h z bc bs Kr Kx) : QW V iX9_has 5 [a0, a1] (st) h z bc bs Kr Kx := q_iconst dX9_has_5 (by decide) kk
theorem dX9_has_6 : decode (i_b iX9_has) 6 = .ok (.if_icmp .ne 7, 3) := by decide +kernel
theorem wX9_has_6 {x y : Int32} (kt : ¬ x = y → QW V iX9_has 13 [a0, a1] (st) h z bc bs Kr Kx) (kf : x = y → QW V iX9_has 9 [a0, a1] (st) h z bc bs Kr Kx) : QW V iX9_has 6 [a0, a1] (.int y :: .int x :: st) h z bc bs Kr Kx := q_icmp_ne dX9_has_6 (by decide) kt kf
theorem dX9_has_9 : decode (i_b iX9_has) 9 = .ok (.iconst 1, 1) := by decide +kernel
theorem wX9_has_9  (kk : QW V iX9_has 10 [a0, a1] (.int (1) :: st) h z bc bs Kr Kx) : QW V iX9_has 9 [a0, a1] (st) h z bc bs Kr Kx := q_iconst dX9_has_9 (by decide) kk
theorem dX9_has_10 : decode (i_b iX9_has) 10 = .ok (.goto 4, 3) := by decide +kernel
theorem wX9_has_10  (kk : QW V iX9_has 14 [a0, a1] (st) h z bc bs Kr Kx) : QW V iX9_has 10 [a0, a1] (st) h z bc bs Kr Kx := q_goto dX9_has_10 (by decide) kk
theorem dX9_has_13 : decode (i_b iX9_has) 13 = .ok (.iconst 0, 1) := by decide +kernel
theorem wX9_has_13  (kk : QW V iX9_has 14 [a0, a1] (.int (0) :: st) h z bc bs Kr Kx) : QW V iX9_has 13 [a0, a1] (st) h z bc bs Kr Kx := q_iconst dX9_has_13 (by decide) kk
theorem dX9_has_14 : decode (i_b iX9_has) 14 = .ok (.ireturn, 1) := by decide +kernel
theorem wX9_has_14 {x : Int32} {P : Int32 → q_H → Option Nat → Prop} (hk : P x h z) (hn : narrow .boolean (.int x) = .int x := by first | rfl | exact q_b_n _) : QW V iX9_has 14 [a0, a1] [.int x] h z bc bs (q_Ki P) Kx := q_iret dX9_has_14 rfl hn ⟨x, rfl, hk⟩
theorem eX9_many {x0 : Int32} {P : Int32 → q_H → Option Nat → Prop} (kk : QW V iX9_many 0 [some (.int x0), none, none] [] h z 0 0 (q_Ki P) Kx) : QMi V iX9_many [.int x0] h z P Kx := q_enter rfl (by decide +kernel) rfl (Nat.le_of_ble_eq_true rfl) kk
theorem dX9_many_0 : decode (i_b iX9_many) 0 = .ok (.iconst 0, 1) := by decide +kernel
theorem wX9_many_0  (kk : QW V iX9_many 1 [a0, a1, a2] (.int (0) :: st) h z bc bs Kr Kx) : QW V iX9_many 0 [a0, a1, a2] (st) h z bc bs Kr Kx := q_iconst dX9_many_0 (by decide) kk
theorem dX9_many_1 : decode (i_b iX9_many) 1 = .ok (.istore_n 1, 1) := by decide +kernel
theorem wX9_many_1 {x : Int32} (kk : QW V iX9_many 2 [a0, some (.int x), a2] (st) h z bc bs Kr Kx) (hp : q_n2 a0 = true := by rfl) : QW V iX9_many 1 [a0, a1, a2] (.int x :: st) h z bc bs Kr Kx := q_istore_n dX9_many_1 rfl (Nat.le_of_ble_eq_true rfl) hp kk
theorem dX9_many_2 : decode (i_b iX9_many) 2 = .ok (.iconst 0, 1) := by decide +kernel
theorem wX9_many_2  (kk : QW V iX9_many 3 [a0, a1, a2] (.int (0) :: st) h z bc bs Kr Kx) : QW V iX9_many 2 [a0, a1, a2] (st) h z bc bs Kr Kx := q_iconst dX9_many_2 (by decide) kk
theorem dX9_many_3 : decode (i_b iX9_many) 3 = .ok (.istore_n 2, 1) := by decide +kernel
theorem wX9_many_3 {x : Int32} (kk : QW V iX9_many 4 [a0, a1, some (.int x)] (st) h z bc bs Kr Kx) (hp : q_n2 a1 = true := by rfl) : QW V iX9_many 3 [a0, a1, a2] (.int x :: st) h z bc bs Kr Kx := q_istore_n dX9_many_3 rfl (Nat.le_of_ble_eq_true rfl) hp kk
theorem dX9_many_4 : decode (i_b iX9_many) 4 = .ok (.iload_n 2, 1) := by decide +kernel
theorem wX9_many_4 {x : Int32} (kk : QW V iX9_many 5 [a0, a1, some (.int x)] (.int x :: st) h z bc bs Kr Kx) : QW V iX9_many 4 [a0, a1, some (.int x)] (st) h z bc bs Kr Kx := q_iload_n dX9_many_4 rfl rfl kk
theorem dX9_many_5 : decode (i_b iX9_many) 5 = .ok (.bipush 24, 2) := by decide +kernel
theorem wX9_many_5  (kk : QW V iX9_many 7 [a0, a1, a2] (.int (24) :: st) h z bc bs Kr Kx) : QW V iX9_many 5 [a0, a1, a2] (st) h z bc bs Kr Kx := q_bipush dX9_many_5 (by decide) kk
theorem dX9_many_7 : decode (i_b iX9_many) 7 = .ok (.if_icmp .ge 17, 3) := by decide +kernel
theorem wX9_many_7 {x y : Int32} (kt : y ≤ x → QW V iX9_many 24 [a0, a1, a2] (st) h z bc bs Kr Kx) (kf : ¬ y ≤ x → QW V iX9_many 10 [a0, a1, a2] (st) h z bc bs Kr Kx) : QW V iX9_many 7 [a0, a1, a2] (.int y :: .int x :: st) h z bc bs Kr Kx := q_icmp_ge dX9_many_7 (by decide) kt kf
theorem dX9_many_10 : decode (i_b iX9_many) 10 = .ok (.iload_n 1, 1) := by decide +kernel
theorem wX9_many_10 {x : Int32} (kk : QW V iX9_many 11 [a0, some (.int x), a2] (.int x :: st) h z bc bs Kr Kx) : QW V iX9_many 10 [a0, some (.int x), a2] (st) h z bc bs Kr Kx := q_iload_n dX9_many_10 rfl rfl kk
theorem dX9_many_11 : decode (i_b iX9_many) 11 = .ok (.iload_n 0, 1) := by decide +kernel
theorem wX9_many_11 {x : Int32} (kk : QW V iX9_many 12 [some (.int x), a1, a2] (.int x :: st) h z bc bs Kr Kx) : QW V iX9_many 11 [some (.int x), a1, a2] (st) h z bc bs Kr Kx := q_iload_n dX9_many_11 rfl rfl kk
theorem dX9_many_12 : decode (i_b iX9_many) 12 = .ok (.iload_n 2, 1) := by decide +kernel
theorem wX9_many_12 {x : Int32} (kk : QW V iX9_many 13 [a0, a1, some (.int x)] (.int x :: st) h z bc bs Kr Kx) : QW V iX9_many 12 [a0, a1, some (.int x)] (st) h z bc bs Kr Kx := q_iload_n dX9_many_12 rfl rfl kk
theorem dX9_many_13 : decode (i_b iX9_many) 13 = .ok (.ishr, 1) := by decide +kernel
theorem wX9_many_13 {x y : Int32} (kk : QW V iX9_many 14 [a0, a1, a2] (.int (x >>> (y &&& 31)) :: st) h z bc bs Kr Kx) : QW V iX9_many 13 [a0, a1, a2] (.int y :: .int x :: st) h z bc bs Kr Kx := q_ishr dX9_many_13 kk
theorem dX9_many_14 : decode (i_b iX9_many) 14 = .ok (.iconst 1, 1) := by decide +kernel
theorem wX9_many_14  (kk : QW V iX9_many 15 [a0, a1, a2] (.int (1) :: st) h z bc bs Kr Kx) : QW V iX9_many 14 [a0, a1, a2] (st) h z bc bs Kr Kx := q_iconst dX9_many_14 (by decide) kk
theorem dX9_many_15 : decode (i_b iX9_many) 15 = .ok (.iand, 1) := by decide +kernel
theorem wX9_many_15 {x y : Int32} (kk : QW V iX9_many 16 [a0, a1, a2] (.int (x &&& y) :: st) h z bc bs Kr Kx) : QW V iX9_many 15 [a0, a1, a2] (.int y :: .int x :: st) h z bc bs Kr Kx := q_iand dX9_many_15 kk
theorem dX9_many_16 : decode (i_b iX9_many) 16 = .ok (.iadd, 1) := by decide +kernel
theorem wX9_many_16 {x y : Int32} (kk : QW V iX9_many 17 [a0, a1, a2] (.int (x + y) :: st) h z bc bs Kr Kx) : QW V iX9_many 16 [a0, a1, a2] (.int y :: .int x :: st) h z bc bs Kr Kx := q_iadd dX9_many_16 kk
theorem dX9_many_17 : decode (i_b iX9_many) 17 = .ok (.istore_n 1, 1) := by decide +kernel
theorem wX9_many_17 {x : Int32} (kk : QW V iX9_many 18 [a0, some (.int x), a2] (st) h z bc bs Kr Kx) (hp : q_n2 a0 = true := by rfl) : QW V iX9_many 17 [a0, a1, a2] (.int x :: st) h z bc bs Kr Kx := q_istore_n dX9_many_17 rfl (Nat.le_of_ble_eq_true rfl) hp kk
theorem dX9_many_18 : decode (i_b iX9_many) 18 = .ok (.iinc 2 1, 3) := by decide +kernel
theorem wX9_many_18 {x : Int32} (kk : QW V iX9_many 21 [a0, a1, some (.int (x + (1)))] (st) h z bc bs Kr Kx) (hp : q_n2 a1 = true := by rfl) : QW V iX9_many 18 [a0, a1, some (.int x)] (st) h z bc bs Kr Kx := q_iinc (v := x + (1)) dX9_many_18 rfl rfl (Nat.le_of_ble_eq_true rfl) hp kk
theorem dX9_many_21 : decode (i_b iX9_many) 21 = .ok (.goto (-17), 3) := by decide +kernel
theorem wX9_many_21  (kk : QW V iX9_many 4 [a0, a1, a2] (st) h z bc bs Kr Kx) : QW V iX9_many 21 [a0, a1, a2] (st) h z bc bs Kr Kx := q_goto dX9_many_21 (by decide) kk
theorem dX9_many_24 : decode (i_b iX9_many) 24 = .ok (.iload_n 1, 1) := by decide +kernel
theorem wX9_many_24 {x : Int32} (kk : QW V iX9_many 25 [a0, some (.int x), a2] (.int x :: st) h z bc bs Kr Kx) : QW V iX9_many 24 [a0, some (.int x), a2] (st) h z bc bs Kr Kx := q_iload_n dX9_many_24 rfl rfl kk
theorem dX9_many_25 : decode (i_b iX9_many) 25 = .ok (.ireturn, 1) := by decide +kernel
theorem wX9_many_25 {x : Int32} {P : Int32 → q_H → Option Nat → Prop} (hk : P x h z) : QW V iX9_many 25 [a0, a1, a2] [.int x] h z bc bs (q_Ki P) Kx := q_iret dX9_many_25 rfl rfl ⟨x, rfl, hk⟩
theorem eX9_isWrong {o : Nat} {x0 : Int32} {P : Int32 → q_H → Option Nat → Prop} (kk : QW V iX9_isWrong 0 [some (.ref o), some (.int x0)] [] h z 0 0 (q_Ki P) Kx) : QMi V iX9_isWrong [.ref o, .int x0] h z P Kx := q_enter rfl (by decide +kernel) rfl (Nat.le_of_ble_eq_true rfl) kk
theorem dX9_isWrong_0 : decode (i_b iX9_isWrong) 0 = .ok (.aload_n 0, 1) := by decide +kernel
theorem wX9_isWrong_0 {x : Nat} (kk : QW V iX9_isWrong 1 [some (.ref x), a1] (.ref x :: st) h z bc bs Kr Kx) : QW V iX9_isWrong 0 [some (.ref x), a1] (st) h z bc bs Kr Kx := q_aload_n dX9_isWrong_0 rfl rfl kk
theorem dX9_isWrong_1 : decode (i_b iX9_isWrong) 1 = .ok (.aload_n 0, 1) := by decide +kernel
theorem wX9_isWrong_1 {x : Nat} (kk : QW V iX9_isWrong 2 [some (.ref x), a1] (.ref x :: st) h z bc bs Kr Kx) : QW V iX9_isWrong 1 [some (.ref x), a1] (st) h z bc bs Kr Kx := q_aload_n dX9_isWrong_1 rfl rfl kk
theorem dX9_isWrong_2 : decode (i_b iX9_isWrong) 2 = .ok (.getfield 54, 3) := by decide +kernel
theorem wX9_isWrong_2 {o : Nat} {m : Nat → Int32} (ha : h o = some (.inr (10, q_MF o m))) (kk : QW V iX9_isWrong 5 [a0, a1] (.int (m 3) :: st) h z bc bs Kr Kx) : QW V iX9_isWrong 2 [a0, a1] (.ref o :: st) h z bc bs Kr Kx := q_getf (k := 3) dX9_isWrong_2 klX9 rfl (Nat.le_of_ble_eq_true rfl : 3 < 35) k5_216 rfl ha rfl kk
theorem wX9_isWrong_2u {o : Nat} {m : Nat → Int32} (kk : QW V iX9_isWrong 5 [a0, a1] (.int (m 3) :: st) (q_up h o (.inr (10, q_MF o m))) z bc bs Kr Kx) : QW V iX9_isWrong 2 [a0, a1] (.ref o :: st) (q_up h o (.inr (10, q_MF o m))) z bc bs Kr Kx := wX9_isWrong_2 q_up_s kk
theorem dX9_isWrong_5 : decode (i_b iX9_isWrong) 5 = .ok (.ifCond .ne 7, 3) := by decide +kernel
theorem wX9_isWrong_5 {x : Int32} (kt : ¬ x = 0 → QW V iX9_isWrong 12 [a0, a1] (st) h z bc bs Kr Kx) (kf : x = 0 → QW V iX9_isWrong 8 [a0, a1] (st) h z bc bs Kr Kx) : QW V iX9_isWrong 5 [a0, a1] (.int x :: st) h z bc bs Kr Kx := q_if_ne dX9_isWrong_5 (by decide) kt kf
theorem dX9_isWrong_8 : decode (i_b iX9_isWrong) 8 = .ok (.iconst 1, 1) := by decide +kernel
theorem wX9_isWrong_8  (kk : QW V iX9_isWrong 9 [a0, a1] (.int (1) :: st) h z bc bs Kr Kx) : QW V iX9_isWrong 8 [a0, a1] (st) h z bc bs Kr Kx := q_iconst dX9_isWrong_8 (by decide) kk
theorem dX9_isWrong_9 : decode (i_b iX9_isWrong) 9 = .ok (.goto 12, 3) := by decide +kernel
theorem wX9_isWrong_9  (kk : QW V iX9_isWrong 21 [a0, a1] (st) h z bc bs Kr Kx) : QW V iX9_isWrong 9 [a0, a1] (st) h z bc bs Kr Kx := q_goto dX9_isWrong_9 (by decide) kk
theorem dX9_isWrong_12 : decode (i_b iX9_isWrong) 12 = .ok (.iload_n 1, 1) := by decide +kernel
theorem wX9_isWrong_12 {x : Int32} (kk : QW V iX9_isWrong 13 [a0, some (.int x)] (.int x :: st) h z bc bs Kr Kx) : QW V iX9_isWrong 12 [a0, some (.int x)] (st) h z bc bs Kr Kx := q_iload_n dX9_isWrong_12 rfl rfl kk
theorem dX9_isWrong_13 : decode (i_b iX9_isWrong) 13 = .ok (.ifCond .eq 7, 3) := by decide +kernel
theorem wX9_isWrong_13 {x : Int32} (kt : x = 0 → QW V iX9_isWrong 20 [a0, a1] (st) h z bc bs Kr Kx) (kf : ¬ x = 0 → QW V iX9_isWrong 16 [a0, a1] (st) h z bc bs Kr Kx) : QW V iX9_isWrong 13 [a0, a1] (.int x :: st) h z bc bs Kr Kx := q_if_eq dX9_isWrong_13 (by decide) kt kf
theorem dX9_isWrong_16 : decode (i_b iX9_isWrong) 16 = .ok (.iconst 0, 1) := by decide +kernel
theorem wX9_isWrong_16  (kk : QW V iX9_isWrong 17 [a0, a1] (.int (0) :: st) h z bc bs Kr Kx) : QW V iX9_isWrong 16 [a0, a1] (st) h z bc bs Kr Kx := q_iconst dX9_isWrong_16 (by decide) kk
theorem dX9_isWrong_17 : decode (i_b iX9_isWrong) 17 = .ok (.goto 4, 3) := by decide +kernel
theorem wX9_isWrong_17  (kk : QW V iX9_isWrong 21 [a0, a1] (st) h z bc bs Kr Kx) : QW V iX9_isWrong 17 [a0, a1] (st) h z bc bs Kr Kx := q_goto dX9_isWrong_17 (by decide) kk
theorem dX9_isWrong_20 : decode (i_b iX9_isWrong) 20 = .ok (.iconst 2, 1) := by decide +kernel
theorem wX9_isWrong_20  (kk : QW V iX9_isWrong 21 [a0, a1] (.int (2) :: st) h z bc bs Kr Kx) : QW V iX9_isWrong 20 [a0, a1] (st) h z bc bs Kr Kx := q_iconst dX9_isWrong_20 (by decide) kk
theorem dX9_isWrong_21 : decode (i_b iX9_isWrong) 21 = .ok (.putfield 51, 3) := by decide +kernel
theorem wX9_isWrong_21 {o : Nat} {m : Nat → Int32} {x : Int32} (ha : h o = some (.inr (10, q_MF o m))) (kk : QW V iX9_isWrong 24 [a0, a1] (st) (q_up h o (.inr (10, q_MF o (upd m 4 x)))) z bc bs Kr Kx) : QW V iX9_isWrong 21 [a0, a1] (.int x :: .ref o :: st) h z bc bs Kr Kx := q_putf (k := 4) tyX9 dX9_isWrong_21 klX9 tyX9_ok nmX9 rfl (Nat.le_of_ble_eq_true rfl : 4 < 35) k5_217 rfl rfl rfl rfl (Nat.le_of_ble_eq_true rfl) ha (by rw [q_MF_4]; exact kk)
theorem wX9_isWrong_21u {o : Nat} {m : Nat → Int32} {x : Int32} (kk : QW V iX9_isWrong 24 [a0, a1] (st) (q_up h o (.inr (10, q_MF o (upd m 4 x)))) z bc bs Kr Kx) : QW V iX9_isWrong 21 [a0, a1] (.int x :: .ref o :: st) (q_up h o (.inr (10, q_MF o m))) z bc bs Kr Kx := wX9_isWrong_21 q_up_s (by rw [q_up_u]; exact kk)
theorem dX9_isWrong_24 : decode (i_b iX9_isWrong) 24 = .ok (.aload_n 0, 1) := by decide +kernel
theorem wX9_isWrong_24 {x : Nat} (kk : QW V iX9_isWrong 25 [some (.ref x), a1] (.ref x :: st) h z bc bs Kr Kx) : QW V iX9_isWrong 24 [some (.ref x), a1] (st) h z bc bs Kr Kx := q_aload_n dX9_isWrong_24 rfl rfl kk
theorem dX9_isWrong_25 : decode (i_b iX9_isWrong) 25 = .ok (.getfield 51, 3) := by decide +kernel
theorem wX9_isWrong_25 {o : Nat} {m : Nat → Int32} (ha : h o = some (.inr (10, q_MF o m))) (kk : QW V iX9_isWrong 28 [a0, a1] (.int (m 4) :: st) h z bc bs Kr Kx) : QW V iX9_isWrong 25 [a0, a1] (.ref o :: st) h z bc bs Kr Kx := q_getf (k := 4) dX9_isWrong_25 klX9 rfl (Nat.le_of_ble_eq_true rfl : 4 < 35) k5_217 rfl ha rfl kk
theorem wX9_isWrong_25u {o : Nat} {m : Nat → Int32} (kk : QW V iX9_isWrong 28 [a0, a1] (.int (m 4) :: st) (q_up h o (.inr (10, q_MF o m))) z bc bs Kr Kx) : QW V iX9_isWrong 25 [a0, a1] (.ref o :: st) (q_up h o (.inr (10, q_MF o m))) z bc bs Kr Kx := wX9_isWrong_25 q_up_s kk
theorem dX9_isWrong_28 : decode (i_b iX9_isWrong) 28 = .ok (.ifCond .le 7, 3) := by decide +kernel
theorem wX9_isWrong_28 {x : Int32} (kt : x ≤ 0 → QW V iX9_isWrong 35 [a0, a1] (st) h z bc bs Kr Kx) (kf : ¬ x ≤ 0 → QW V iX9_isWrong 31 [a0, a1] (st) h z bc bs Kr Kx) : QW V iX9_isWrong 28 [a0, a1] (.int x :: st) h z bc bs Kr Kx := q_if_le dX9_isWrong_28 (by decide) kt kf
theorem dX9_isWrong_31 : decode (i_b iX9_isWrong) 31 = .ok (.iconst 1, 1) := by decide +kernel
theorem wX9_isWrong_31  (kk : QW V iX9_isWrong 32 [a0, a1] (.int (1) :: st) h z bc bs Kr Kx) : QW V iX9_isWrong 31 [a0, a1] (st) h z bc bs Kr Kx := q_iconst dX9_isWrong_31 (by decide) kk
theorem dX9_isWrong_32 : decode (i_b iX9_isWrong) 32 = .ok (.goto 4, 3) := by decide +kernel
theorem wX9_isWrong_32  (kk : QW V iX9_isWrong 36 [a0, a1] (st) h z bc bs Kr Kx) : QW V iX9_isWrong 32 [a0, a1] (st) h z bc bs Kr Kx := q_goto dX9_isWrong_32 (by decide) kk
theorem dX9_isWrong_35 : decode (i_b iX9_isWrong) 35 = .ok (.iconst 0, 1) := by decide +kernel
theorem wX9_isWrong_35  (kk : QW V iX9_isWrong 36 [a0, a1] (.int (0) :: st) h z bc bs Kr Kx) : QW V iX9_isWrong 35 [a0, a1] (st) h z bc bs Kr Kx := q_iconst dX9_isWrong_35 (by decide) kk
theorem dX9_isWrong_36 : decode (i_b iX9_isWrong) 36 = .ok (.ireturn, 1) := by decide +kernel
theorem wX9_isWrong_36 {x : Int32} {P : Int32 → q_H → Option Nat → Prop} (hk : P x h z) (hn : narrow .boolean (.int x) = .int x := by first | rfl | exact q_b_n _) : QW V iX9_isWrong 36 [a0, a1] [.int x] h z bc bs (q_Ki P) Kx := q_iret dX9_isWrong_36 rfl hn ⟨x, rfl, hk⟩
theorem eX9_put {o : Nat} {x0 : Int32} {P : q_H → Option Nat → Prop} (kk : QW V iX9_put 0 [some (.ref o), some (.int x0), none] [] h z 0 0 (q_Kv P) Kx) : QMv V iX9_put [.ref o, .int x0] h z P Kx := q_enter rfl (by decide +kernel) rfl (Nat.le_of_ble_eq_true rfl) kk
theorem dX9_put_0 : decode (i_b iX9_put) 0 = .ok (.bipush 24, 2) := by decide +kernel
theorem wX9_put_0  (kk : QW V iX9_put 2 [a0, a1, a2] (.int (24) :: st) h z bc bs Kr Kx) : QW V iX9_put 0 [a0, a1, a2] (st) h z bc bs Kr Kx := q_bipush dX9_put_0 (by decide) kk
theorem dX9_put_2 : decode (i_b iX9_put) 2 = .ok (.istore_n 2, 1) := by decide +kernel
theorem wX9_put_2 {x : Int32} (kk : QW V iX9_put 3 [a0, a1, some (.int x)] (st) h z bc bs Kr Kx) (hp : q_n2 a1 = true := by rfl) : QW V iX9_put 2 [a0, a1, a2] (.int x :: st) h z bc bs Kr Kx := q_istore_n dX9_put_2 rfl (Nat.le_of_ble_eq_true rfl) hp kk
theorem dX9_put_3 : decode (i_b iX9_put) 3 = .ok (.iload_n 2, 1) := by decide +kernel
theorem wX9_put_3 {x : Int32} (kk : QW V iX9_put 4 [a0, a1, some (.int x)] (.int x :: st) h z bc bs Kr Kx) : QW V iX9_put 3 [a0, a1, some (.int x)] (st) h z bc bs Kr Kx := q_iload_n dX9_put_3 rfl rfl kk
theorem dX9_put_4 : decode (i_b iX9_put) 4 = .ok (.ifCond .lt 35, 3) := by decide +kernel
theorem wX9_put_4 {x : Int32} (kt : x < 0 → QW V iX9_put 39 [a0, a1, a2] (st) h z bc bs Kr Kx) (kf : ¬ x < 0 → QW V iX9_put 7 [a0, a1, a2] (st) h z bc bs Kr Kx) : QW V iX9_put 4 [a0, a1, a2] (.int x :: st) h z bc bs Kr Kx := q_if_lt dX9_put_4 (by decide) kt kf
theorem dX9_put_7 : decode (i_b iX9_put) 7 = .ok (.aload_n 0, 1) := by decide +kernel
theorem wX9_put_7 {x : Nat} (kk : QW V iX9_put 8 [some (.ref x), a1, a2] (.ref x :: st) h z bc bs Kr Kx) : QW V iX9_put 7 [some (.ref x), a1, a2] (st) h z bc bs Kr Kx := q_aload_n dX9_put_7 rfl rfl kk
theorem dX9_put_8 : decode (i_b iX9_put) 8 = .ok (.getfield 23, 3) := by decide +kernel
theorem wX9_put_8 {o : Nat} {m : Nat → Int32} (ha : h o = some (.inr (10, q_MF o m))) (kk : QW V iX9_put 11 [a0, a1, a2] (.ref (o + 5) :: st) h z bc bs Kr Kx) : QW V iX9_put 8 [a0, a1, a2] (.ref o :: st) h z bc bs Kr Kx := q_getf (k := 15) dX9_put_8 klX9 rfl (Nat.le_of_ble_eq_true rfl : 15 < 35) k5_228 rfl ha rfl kk
theorem wX9_put_8u {o : Nat} {m : Nat → Int32} (kk : QW V iX9_put 11 [a0, a1, a2] (.ref (o + 5) :: st) (q_up h o (.inr (10, q_MF o m))) z bc bs Kr Kx) : QW V iX9_put 8 [a0, a1, a2] (.ref o :: st) (q_up h o (.inr (10, q_MF o m))) z bc bs Kr Kx := wX9_put_8 q_up_s kk
theorem dX9_put_11 : decode (i_b iX9_put) 11 = .ok (.aload_n 0, 1) := by decide +kernel
theorem wX9_put_11 {x : Nat} (kk : QW V iX9_put 12 [some (.ref x), a1, a2] (.ref x :: st) h z bc bs Kr Kx) : QW V iX9_put 11 [some (.ref x), a1, a2] (st) h z bc bs Kr Kx := q_aload_n dX9_put_11 rfl rfl kk
theorem dX9_put_12 : decode (i_b iX9_put) 12 = .ok (.getfield 58, 3) := by decide +kernel
theorem wX9_put_12 {o : Nat} {m : Nat → Int32} (ha : h o = some (.inr (10, q_MF o m))) (kk : QW V iX9_put 15 [a0, a1, a2] (.int (m 16) :: st) h z bc bs Kr Kx) : QW V iX9_put 12 [a0, a1, a2] (.ref o :: st) h z bc bs Kr Kx := q_getf (k := 16) dX9_put_12 klX9 rfl (Nat.le_of_ble_eq_true rfl : 16 < 35) k5_229 rfl ha rfl kk
theorem wX9_put_12u {o : Nat} {m : Nat → Int32} (kk : QW V iX9_put 15 [a0, a1, a2] (.int (m 16) :: st) (q_up h o (.inr (10, q_MF o m))) z bc bs Kr Kx) : QW V iX9_put 12 [a0, a1, a2] (.ref o :: st) (q_up h o (.inr (10, q_MF o m))) z bc bs Kr Kx := wX9_put_12 q_up_s kk
theorem dX9_put_15 : decode (i_b iX9_put) 15 = .ok (.iload_n 1, 1) := by decide +kernel
theorem wX9_put_15 {x : Int32} (kk : QW V iX9_put 16 [a0, some (.int x), a2] (.int x :: st) h z bc bs Kr Kx) : QW V iX9_put 15 [a0, some (.int x), a2] (st) h z bc bs Kr Kx := q_iload_n dX9_put_15 rfl rfl kk
theorem dX9_put_16 : decode (i_b iX9_put) 16 = .ok (.iload_n 2, 1) := by decide +kernel
theorem wX9_put_16 {x : Int32} (kk : QW V iX9_put 17 [a0, a1, some (.int x)] (.int x :: st) h z bc bs Kr Kx) : QW V iX9_put 16 [a0, a1, some (.int x)] (st) h z bc bs Kr Kx := q_iload_n dX9_put_16 rfl rfl kk
theorem dX9_put_17 : decode (i_b iX9_put) 17 = .ok (.ishr, 1) := by decide +kernel
theorem wX9_put_17 {x y : Int32} (kk : QW V iX9_put 18 [a0, a1, a2] (.int (x >>> (y &&& 31)) :: st) h z bc bs Kr Kx) : QW V iX9_put 17 [a0, a1, a2] (.int y :: .int x :: st) h z bc bs Kr Kx := q_ishr dX9_put_17 kk
theorem dX9_put_18 : decode (i_b iX9_put) 18 = .ok (.sipush 255, 3) := by decide +kernel
theorem wX9_put_18  (kk : QW V iX9_put 21 [a0, a1, a2] (.int (255) :: st) h z bc bs Kr Kx) : QW V iX9_put 18 [a0, a1, a2] (st) h z bc bs Kr Kx := q_sipush dX9_put_18 (by decide) kk
theorem dX9_put_21 : decode (i_b iX9_put) 21 = .ok (.iand, 1) := by decide +kernel
theorem wX9_put_21 {x y : Int32} (kk : QW V iX9_put 22 [a0, a1, a2] (.int (x &&& y) :: st) h z bc bs Kr Kx) : QW V iX9_put 21 [a0, a1, a2] (.int y :: .int x :: st) h z bc bs Kr Kx := q_iand dX9_put_21 kk
theorem dX9_put_22 : decode (i_b iX9_put) 22 = .ok (.iastore, 1) := by decide +kernel
theorem wX9_put_22 {a n j : Nat} {f : Nat → Int32} {i : Int32} {x : Int32} (ha : h a = some (.inl (1, n, .inl f))) (hi : i = nI j) (hj : j < n) (hn : n < 2147483648) (kk : QW V iX9_put 23 [a0, a1, a2] (st) (q_up h a (.inl (1, n, .inl (upd f j x)))) z bc bs Kr Kx) : QW V iX9_put 22 [a0, a1, a2] (.int x :: .int i :: .ref a :: st) h z bc bs Kr Kx := q_iast dX9_put_22 ha hi hj hn kk
theorem wX9_put_22u {a n j : Nat} {f : Nat → Int32} {i : Int32} {x : Int32} (hi : i = nI j) (hj : j < n) (hn : n < 2147483648) (kk : QW V iX9_put 23 [a0, a1, a2] (st) (q_up h a (.inl (1, n, .inl (upd f j x)))) z bc bs Kr Kx) : QW V iX9_put 22 [a0, a1, a2] (.int x :: .int i :: .ref a :: st) (q_up h a (.inl (1, n, .inl f))) z bc bs Kr Kx := wX9_put_22 q_up_s hi hj hn (by rw [q_up_u]; exact kk)
theorem dX9_put_23 : decode (i_b iX9_put) 23 = .ok (.aload_n 0, 1) := by decide +kernel
theorem wX9_put_23 {x : Nat} (kk : QW V iX9_put 24 [some (.ref x), a1, a2] (.ref x :: st) h z bc bs Kr Kx) : QW V iX9_put 23 [some (.ref x), a1, a2] (st) h z bc bs Kr Kx := q_aload_n dX9_put_23 rfl rfl kk
theorem dX9_put_24 : decode (i_b iX9_put) 24 = .ok (.dup, 1) := by decide +kernel
theorem wX9_put_24 {v : Value} (kk : QW V iX9_put 25 [a0, a1, a2] (v :: v :: st) h z bc bs Kr Kx) (hv : v.category = 1 := by rfl) : QW V iX9_put 24 [a0, a1, a2] (v :: st) h z bc bs Kr Kx := q_dup dX9_put_24 hv kk
theorem dX9_put_25 : decode (i_b iX9_put) 25 = .ok (.getfield 58, 3) := by decide +kernel
theorem wX9_put_25 {o : Nat} {m : Nat → Int32} (ha : h o = some (.inr (10, q_MF o m))) (kk : QW V iX9_put 28 [a0, a1, a2] (.int (m 16) :: st) h z bc bs Kr Kx) : QW V iX9_put 25 [a0, a1, a2] (.ref o :: st) h z bc bs Kr Kx := q_getf (k := 16) dX9_put_25 klX9 rfl (Nat.le_of_ble_eq_true rfl : 16 < 35) k5_229 rfl ha rfl kk
theorem wX9_put_25u {o : Nat} {m : Nat → Int32} (kk : QW V iX9_put 28 [a0, a1, a2] (.int (m 16) :: st) (q_up h o (.inr (10, q_MF o m))) z bc bs Kr Kx) : QW V iX9_put 25 [a0, a1, a2] (.ref o :: st) (q_up h o (.inr (10, q_MF o m))) z bc bs Kr Kx := wX9_put_25 q_up_s kk
theorem dX9_put_28 : decode (i_b iX9_put) 28 = .ok (.iconst 1, 1) := by decide +kernel
theorem wX9_put_28  (kk : QW V iX9_put 29 [a0, a1, a2] (.int (1) :: st) h z bc bs Kr Kx) : QW V iX9_put 28 [a0, a1, a2] (st) h z bc bs Kr Kx := q_iconst dX9_put_28 (by decide) kk
theorem dX9_put_29 : decode (i_b iX9_put) 29 = .ok (.iadd, 1) := by decide +kernel
theorem wX9_put_29 {x y : Int32} (kk : QW V iX9_put 30 [a0, a1, a2] (.int (x + y) :: st) h z bc bs Kr Kx) : QW V iX9_put 29 [a0, a1, a2] (.int y :: .int x :: st) h z bc bs Kr Kx := q_iadd dX9_put_29 kk
theorem dX9_put_30 : decode (i_b iX9_put) 30 = .ok (.putfield 58, 3) := by decide +kernel
theorem wX9_put_30 {o : Nat} {m : Nat → Int32} {x : Int32} (ha : h o = some (.inr (10, q_MF o m))) (kk : QW V iX9_put 33 [a0, a1, a2] (st) (q_up h o (.inr (10, q_MF o (upd m 16 x)))) z bc bs Kr Kx) : QW V iX9_put 30 [a0, a1, a2] (.int x :: .ref o :: st) h z bc bs Kr Kx := q_putf (k := 16) tyX9 dX9_put_30 klX9 tyX9_ok nmX9 rfl (Nat.le_of_ble_eq_true rfl : 16 < 35) k5_229 rfl rfl rfl rfl (Nat.le_of_ble_eq_true rfl) ha (by rw [q_MF_16]; exact kk)
theorem wX9_put_30u {o : Nat} {m : Nat → Int32} {x : Int32} (kk : QW V iX9_put 33 [a0, a1, a2] (st) (q_up h o (.inr (10, q_MF o (upd m 16 x)))) z bc bs Kr Kx) : QW V iX9_put 30 [a0, a1, a2] (.int x :: .ref o :: st) (q_up h o (.inr (10, q_MF o m))) z bc bs Kr Kx := wX9_put_30 q_up_s (by rw [q_up_u]; exact kk)
theorem dX9_put_33 : decode (i_b iX9_put) 33 = .ok (.iinc 2 (-8), 3) := by decide +kernel
theorem wX9_put_33 {x : Int32} (kk : QW V iX9_put 36 [a0, a1, some (.int (x + (-8)))] (st) h z bc bs Kr Kx) (hp : q_n2 a1 = true := by rfl) : QW V iX9_put 33 [a0, a1, some (.int x)] (st) h z bc bs Kr Kx := q_iinc (v := x + (-8)) dX9_put_33 rfl rfl (Nat.le_of_ble_eq_true rfl) hp kk
theorem dX9_put_36 : decode (i_b iX9_put) 36 = .ok (.goto (-33), 3) := by decide +kernel
theorem wX9_put_36  (kk : QW V iX9_put 3 [a0, a1, a2] (st) h z bc bs Kr Kx) : QW V iX9_put 36 [a0, a1, a2] (st) h z bc bs Kr Kx := q_goto dX9_put_36 (by decide) kk
theorem dX9_put_39 : decode (i_b iX9_put) 39 = .ok (.return_, 1) := by decide +kernel
theorem wX9_put_39 {P : q_H → Option Nat → Prop} (hk : P h z) : QW V iX9_put 39 [a0, a1, a2] [] h z bc bs (q_Kv P) Kx := q_vret dX9_put_39 rfl ⟨rfl, hk⟩
theorem eX9_append {o : Nat} {x0 : Int32} {x1 : Int32} {x2 : Int32} {x3 : Int32} {x4 : Int32} {P : Int32 → q_H → Option Nat → Prop} (kk : QW V iX9_append 0 [some (.ref o), some (.int x0), some (.int x1), some (.int x2), some (.int x3), some (.int x4)] [] h z 0 0 (q_Ki P) Kx) : QMi V iX9_append [.ref o, .int x0, .int x1, .int x2, .int x3, .int x4] h z P Kx := q_enter rfl (by decide +kernel) rfl (Nat.le_of_ble_eq_true rfl) kk
theorem dX9_append_0 : decode (i_b iX9_append) 0 = .ok (.aload_n 0, 1) := by decide +kernel
theorem wX9_append_0 {x : Nat} (kk : QW V iX9_append 1 [some (.ref x), a1, a2, a3, a4, a5] (.ref x :: st) h z bc bs Kr Kx) : QW V iX9_append 0 [some (.ref x), a1, a2, a3, a4, a5] (st) h z bc bs Kr Kx := q_aload_n dX9_append_0 rfl rfl kk
theorem dX9_append_1 : decode (i_b iX9_append) 1 = .ok (.aload_n 0, 1) := by decide +kernel
theorem wX9_append_1 {x : Nat} (kk : QW V iX9_append 2 [some (.ref x), a1, a2, a3, a4, a5] (.ref x :: st) h z bc bs Kr Kx) : QW V iX9_append 1 [some (.ref x), a1, a2, a3, a4, a5] (st) h z bc bs Kr Kx := q_aload_n dX9_append_1 rfl rfl kk
theorem dX9_append_2 : decode (i_b iX9_append) 2 = .ok (.getfield 58, 3) := by decide +kernel
theorem wX9_append_2 {o : Nat} {m : Nat → Int32} (ha : h o = some (.inr (10, q_MF o m))) (kk : QW V iX9_append 5 [a0, a1, a2, a3, a4, a5] (.int (m 16) :: st) h z bc bs Kr Kx) : QW V iX9_append 2 [a0, a1, a2, a3, a4, a5] (.ref o :: st) h z bc bs Kr Kx := q_getf (k := 16) dX9_append_2 klX9 rfl (Nat.le_of_ble_eq_true rfl : 16 < 35) k5_229 rfl ha rfl kk
theorem wX9_append_2u {o : Nat} {m : Nat → Int32} (kk : QW V iX9_append 5 [a0, a1, a2, a3, a4, a5] (.int (m 16) :: st) (q_up h o (.inr (10, q_MF o m))) z bc bs Kr Kx) : QW V iX9_append 2 [a0, a1, a2, a3, a4, a5] (.ref o :: st) (q_up h o (.inr (10, q_MF o m))) z bc bs Kr Kx := wX9_append_2 q_up_s kk
theorem dX9_append_5 : decode (i_b iX9_append) 5 = .ok (.bipush 20, 2) := by decide +kernel
theorem wX9_append_5  (kk : QW V iX9_append 7 [a0, a1, a2, a3, a4, a5] (.int (20) :: st) h z bc bs Kr Kx) : QW V iX9_append 5 [a0, a1, a2, a3, a4, a5] (st) h z bc bs Kr Kx := q_bipush dX9_append_5 (by decide) kk
theorem dX9_append_7 : decode (i_b iX9_append) 7 = .ok (.iadd, 1) := by decide +kernel
theorem wX9_append_7 {x y : Int32} (kk : QW V iX9_append 8 [a0, a1, a2, a3, a4, a5] (.int (x + y) :: st) h z bc bs Kr Kx) : QW V iX9_append 7 [a0, a1, a2, a3, a4, a5] (.int y :: .int x :: st) h z bc bs Kr Kx := q_iadd dX9_append_7 kk
theorem dX9_append_8 : decode (i_b iX9_append) 8 = .ok (.sipush 900, 3) := by decide +kernel
theorem wX9_append_8  (kk : QW V iX9_append 11 [a0, a1, a2, a3, a4, a5] (.int (900) :: st) h z bc bs Kr Kx) : QW V iX9_append 8 [a0, a1, a2, a3, a4, a5] (st) h z bc bs Kr Kx := q_sipush dX9_append_8 (by decide) kk
theorem dX9_append_11 : decode (i_b iX9_append) 11 = .ok (.if_icmp .le 7, 3) := by decide +kernel
theorem wX9_append_11 {x y : Int32} (kt : x ≤ y → QW V iX9_append 18 [a0, a1, a2, a3, a4, a5] (st) h z bc bs Kr Kx) (kf : ¬ x ≤ y → QW V iX9_append 14 [a0, a1, a2, a3, a4, a5] (st) h z bc bs Kr Kx) : QW V iX9_append 11 [a0, a1, a2, a3, a4, a5] (.int y :: .int x :: st) h z bc bs Kr Kx := q_icmp_le dX9_append_11 (by decide) kt kf
theorem dX9_append_14 : decode (i_b iX9_append) 14 = .ok (.iconst 1, 1) := by decide +kernel
theorem wX9_append_14  (kk : QW V iX9_append 15 [a0, a1, a2, a3, a4, a5] (.int (1) :: st) h z bc bs Kr Kx) : QW V iX9_append 14 [a0, a1, a2, a3, a4, a5] (st) h z bc bs Kr Kx := q_iconst dX9_append_14 (by decide) kk
theorem dX9_append_15 : decode (i_b iX9_append) 15 = .ok (.goto 4, 3) := by decide +kernel
theorem wX9_append_15  (kk : QW V iX9_append 19 [a0, a1, a2, a3, a4, a5] (st) h z bc bs Kr Kx) : QW V iX9_append 15 [a0, a1, a2, a3, a4, a5] (st) h z bc bs Kr Kx := q_goto dX9_append_15 (by decide) kk
theorem dX9_append_18 : decode (i_b iX9_append) 18 = .ok (.iconst 0, 1) := by decide +kernel
theorem wX9_append_18  (kk : QW V iX9_append 19 [a0, a1, a2, a3, a4, a5] (.int (0) :: st) h z bc bs Kr Kx) : QW V iX9_append 18 [a0, a1, a2, a3, a4, a5] (st) h z bc bs Kr Kx := q_iconst dX9_append_18 (by decide) kk
theorem dX9_append_19 : decode (i_b iX9_append) 19 = .ok (.putfield 51, 3) := by decide +kernel
theorem wX9_append_19 {o : Nat} {m : Nat → Int32} {x : Int32} (ha : h o = some (.inr (10, q_MF o m))) (kk : QW V iX9_append 22 [a0, a1, a2, a3, a4, a5] (st) (q_up h o (.inr (10, q_MF o (upd m 4 x)))) z bc bs Kr Kx) : QW V iX9_append 19 [a0, a1, a2, a3, a4, a5] (.int x :: .ref o :: st) h z bc bs Kr Kx := q_putf (k := 4) tyX9 dX9_append_19 klX9 tyX9_ok nmX9 rfl (Nat.le_of_ble_eq_true rfl : 4 < 35) k5_217 rfl rfl rfl rfl (Nat.le_of_ble_eq_true rfl) ha (by rw [q_MF_4]; exact kk)
theorem wX9_append_19u {o : Nat} {m : Nat → Int32} {x : Int32} (kk : QW V iX9_append 22 [a0, a1, a2, a3, a4, a5] (st) (q_up h o (.inr (10, q_MF o (upd m 4 x)))) z bc bs Kr Kx) : QW V iX9_append 19 [a0, a1, a2, a3, a4, a5] (.int x :: .ref o :: st) (q_up h o (.inr (10, q_MF o m))) z bc bs Kr Kx := wX9_append_19 q_up_s (by rw [q_up_u]; exact kk)
theorem dX9_append_22 : decode (i_b iX9_append) 22 = .ok (.aload_n 0, 1) := by decide +kernel
theorem wX9_append_22 {x : Nat} (kk : QW V iX9_append 23 [some (.ref x), a1, a2, a3, a4, a5] (.ref x :: st) h z bc bs Kr Kx) : QW V iX9_append 22 [some (.ref x), a1, a2, a3, a4, a5] (st) h z bc bs Kr Kx := q_aload_n dX9_append_22 rfl rfl kk
theorem dX9_append_23 : decode (i_b iX9_append) 23 = .ok (.getfield 51, 3) := by decide +kernel
theorem wX9_append_23 {o : Nat} {m : Nat → Int32} (ha : h o = some (.inr (10, q_MF o m))) (kk : QW V iX9_append 26 [a0, a1, a2, a3, a4, a5] (.int (m 4) :: st) h z bc bs Kr Kx) : QW V iX9_append 23 [a0, a1, a2, a3, a4, a5] (.ref o :: st) h z bc bs Kr Kx := q_getf (k := 4) dX9_append_23 klX9 rfl (Nat.le_of_ble_eq_true rfl : 4 < 35) k5_217 rfl ha rfl kk
theorem wX9_append_23u {o : Nat} {m : Nat → Int32} (kk : QW V iX9_append 26 [a0, a1, a2, a3, a4, a5] (.int (m 4) :: st) (q_up h o (.inr (10, q_MF o m))) z bc bs Kr Kx) : QW V iX9_append 23 [a0, a1, a2, a3, a4, a5] (.ref o :: st) (q_up h o (.inr (10, q_MF o m))) z bc bs Kr Kx := wX9_append_23 q_up_s kk
theorem dX9_append_26 : decode (i_b iX9_append) 26 = .ok (.ifCond .le 5, 3) := by decide +kernel
theorem wX9_append_26 {x : Int32} (kt : x ≤ 0 → QW V iX9_append 31 [a0, a1, a2, a3, a4, a5] (st) h z bc bs Kr Kx) (kf : ¬ x ≤ 0 → QW V iX9_append 29 [a0, a1, a2, a3, a4, a5] (st) h z bc bs Kr Kx) : QW V iX9_append 26 [a0, a1, a2, a3, a4, a5] (.int x :: st) h z bc bs Kr Kx := q_if_le dX9_append_26 (by decide) kt kf
theorem dX9_append_29 : decode (i_b iX9_append) 29 = .ok (.iconst 0, 1) := by decide +kernel
theorem wX9_append_29  (kk : QW V iX9_append 30 [a0, a1, a2, a3, a4, a5] (.int (0) :: st) h z bc bs Kr Kx) : QW V iX9_append 29 [a0, a1, a2, a3, a4, a5] (st) h z bc bs Kr Kx := q_iconst dX9_append_29 (by decide) kk
theorem dX9_append_30 : decode (i_b iX9_append) 30 = .ok (.ireturn, 1) := by decide +kernel
theorem wX9_append_30 {x : Int32} {P : Int32 → q_H → Option Nat → Prop} (hk : P x h z) : QW V iX9_append 30 [a0, a1, a2, a3, a4, a5] [.int x] h z bc bs (q_Ki P) Kx := q_iret dX9_append_30 rfl rfl ⟨x, rfl, hk⟩
theorem dX9_append_31 : decode (i_b iX9_append) 31 = .ok (.aload_n 0, 1) := by decide +kernel
theorem wX9_append_31 {x : Nat} (kk : QW V iX9_append 32 [some (.ref x), a1, a2, a3, a4, a5] (.ref x :: st) h z bc bs Kr Kx) : QW V iX9_append 31 [some (.ref x), a1, a2, a3, a4, a5] (st) h z bc bs Kr Kx := q_aload_n dX9_append_31 rfl rfl kk
theorem dX9_append_32 : decode (i_b iX9_append) 32 = .ok (.iload_n 1, 1) := by decide +kernel
theorem wX9_append_32 {x : Int32} (kk : QW V iX9_append 33 [a0, some (.int x), a2, a3, a4, a5] (.int x :: st) h z bc bs Kr Kx) : QW V iX9_append 32 [a0, some (.int x), a2, a3, a4, a5] (st) h z bc bs Kr Kx := q_iload_n dX9_append_32 rfl rfl kk
theorem dX9_append_33 : decode (i_b iX9_append) 33 = .ok (.invokevirtual 61, 3) := by decide +kernel
theorem wX9_append_33 {a : Nat} {fs : List Value} {x0 : Int32} (hb : h a = some (.inr (10, fs))) (hm : QMv V iX9_put [.ref a, .int x0] h z (fun h' z' => QW V iX9_append 36 [a0, a1, a2, a3, a4, a5] (st) h' z' bc bs Kr Kx) Kx) (hW : (st.map fun v => v.category).sum ≤ 8 := by exact Nat.le_of_ble_eq_true rfl) : QW V iX9_append 33 [a0, a1, a2, a3, a4, a5] (.int x0 :: .ref a :: st) h z bc bs Kr Kx := q_callV (y' := iX9_put) (As := [.int x0]) (rest := st) dX9_append_33 k6_88 k6_90 ks_37 k1_10 hhX9_put rfl hdX9_put rfl rfl (Nat.le_of_ble_eq_true rfl) (Nat.le_of_ble_eq_true rfl) hW rfl hb (QMv.run hm)
theorem dX9_append_36 : decode (i_b iX9_append) 36 = .ok (.aload_n 0, 1) := by decide +kernel
theorem wX9_append_36 {x : Nat} (kk : QW V iX9_append 37 [some (.ref x), a1, a2, a3, a4, a5] (.ref x :: st) h z bc bs Kr Kx) : QW V iX9_append 36 [some (.ref x), a1, a2, a3, a4, a5] (st) h z bc bs Kr Kx := q_aload_n dX9_append_36 rfl rfl kk
theorem dX9_append_37 : decode (i_b iX9_append) 37 = .ok (.iload_n 2, 1) := by decide +kernel
theorem wX9_append_37 {x : Int32} (kk : QW V iX9_append 38 [a0, a1, some (.int x), a3, a4, a5] (.int x :: st) h z bc bs Kr Kx) : QW V iX9_append 37 [a0, a1, some (.int x), a3, a4, a5] (st) h z bc bs Kr Kx := q_iload_n dX9_append_37 rfl rfl kk
theorem dX9_append_38 : decode (i_b iX9_append) 38 = .ok (.invokevirtual 61, 3) := by decide +kernel
theorem wX9_append_38 {a : Nat} {fs : List Value} {x0 : Int32} (hb : h a = some (.inr (10, fs))) (hm : QMv V iX9_put [.ref a, .int x0] h z (fun h' z' => QW V iX9_append 41 [a0, a1, a2, a3, a4, a5] (st) h' z' bc bs Kr Kx) Kx) (hW : (st.map fun v => v.category).sum ≤ 8 := by exact Nat.le_of_ble_eq_true rfl) : QW V iX9_append 38 [a0, a1, a2, a3, a4, a5] (.int x0 :: .ref a :: st) h z bc bs Kr Kx := q_callV (y' := iX9_put) (As := [.int x0]) (rest := st) dX9_append_38 k6_88 k6_90 ks_37 k1_10 hhX9_put rfl hdX9_put rfl rfl (Nat.le_of_ble_eq_true rfl) (Nat.le_of_ble_eq_true rfl) hW rfl hb (QMv.run hm)
theorem dX9_append_41 : decode (i_b iX9_append) 41 = .ok (.aload_n 0, 1) := by decide +kernel
theorem wX9_append_41 {x : Nat} (kk : QW V iX9_append 42 [some (.ref x), a1, a2, a3, a4, a5] (.ref x :: st) h z bc bs Kr Kx) : QW V iX9_append 41 [some (.ref x), a1, a2, a3, a4, a5] (st) h z bc bs Kr Kx := q_aload_n dX9_append_41 rfl rfl kk
theorem dX9_append_42 : decode (i_b iX9_append) 42 = .ok (.iload_n 3, 1) := by decide +kernel
theorem wX9_append_42 {x : Int32} (kk : QW V iX9_append 43 [a0, a1, a2, some (.int x), a4, a5] (.int x :: st) h z bc bs Kr Kx) : QW V iX9_append 42 [a0, a1, a2, some (.int x), a4, a5] (st) h z bc bs Kr Kx := q_iload_n dX9_append_42 rfl rfl kk
theorem dX9_append_43 : decode (i_b iX9_append) 43 = .ok (.invokevirtual 61, 3) := by decide +kernel
theorem wX9_append_43 {a : Nat} {fs : List Value} {x0 : Int32} (hb : h a = some (.inr (10, fs))) (hm : QMv V iX9_put [.ref a, .int x0] h z (fun h' z' => QW V iX9_append 46 [a0, a1, a2, a3, a4, a5] (st) h' z' bc bs Kr Kx) Kx) (hW : (st.map fun v => v.category).sum ≤ 8 := by exact Nat.le_of_ble_eq_true rfl) : QW V iX9_append 43 [a0, a1, a2, a3, a4, a5] (.int x0 :: .ref a :: st) h z bc bs Kr Kx := q_callV (y' := iX9_put) (As := [.int x0]) (rest := st) dX9_append_43 k6_88 k6_90 ks_37 k1_10 hhX9_put rfl hdX9_put rfl rfl (Nat.le_of_ble_eq_true rfl) (Nat.le_of_ble_eq_true rfl) hW rfl hb (QMv.run hm)
theorem dX9_append_46 : decode (i_b iX9_append) 46 = .ok (.aload_n 0, 1) := by decide +kernel
theorem wX9_append_46 {x : Nat} (kk : QW V iX9_append 47 [some (.ref x), a1, a2, a3, a4, a5] (.ref x :: st) h z bc bs Kr Kx) : QW V iX9_append 46 [some (.ref x), a1, a2, a3, a4, a5] (st) h z bc bs Kr Kx := q_aload_n dX9_append_46 rfl rfl kk
theorem dX9_append_47 : decode (i_b iX9_append) 47 = .ok (.iload 4, 2) := by decide +kernel
theorem wX9_append_47 {x : Int32} (kk : QW V iX9_append 49 [a0, a1, a2, a3, some (.int x), a5] (.int x :: st) h z bc bs Kr Kx) : QW V iX9_append 47 [a0, a1, a2, a3, some (.int x), a5] (st) h z bc bs Kr Kx := q_iload dX9_append_47 rfl kk
theorem dX9_append_49 : decode (i_b iX9_append) 49 = .ok (.invokevirtual 61, 3) := by decide +kernel
theorem wX9_append_49 {a : Nat} {fs : List Value} {x0 : Int32} (hb : h a = some (.inr (10, fs))) (hm : QMv V iX9_put [.ref a, .int x0] h z (fun h' z' => QW V iX9_append 52 [a0, a1, a2, a3, a4, a5] (st) h' z' bc bs Kr Kx) Kx) (hW : (st.map fun v => v.category).sum ≤ 8 := by exact Nat.le_of_ble_eq_true rfl) : QW V iX9_append 49 [a0, a1, a2, a3, a4, a5] (.int x0 :: .ref a :: st) h z bc bs Kr Kx := q_callV (y' := iX9_put) (As := [.int x0]) (rest := st) dX9_append_49 k6_88 k6_90 ks_37 k1_10 hhX9_put rfl hdX9_put rfl rfl (Nat.le_of_ble_eq_true rfl) (Nat.le_of_ble_eq_true rfl) hW rfl hb (QMv.run hm)
theorem dX9_append_52 : decode (i_b iX9_append) 52 = .ok (.aload_n 0, 1) := by decide +kernel
theorem wX9_append_52 {x : Nat} (kk : QW V iX9_append 53 [some (.ref x), a1, a2, a3, a4, a5] (.ref x :: st) h z bc bs Kr Kx) : QW V iX9_append 52 [some (.ref x), a1, a2, a3, a4, a5] (st) h z bc bs Kr Kx := q_aload_n dX9_append_52 rfl rfl kk
theorem dX9_append_53 : decode (i_b iX9_append) 53 = .ok (.iload 5, 2) := by decide +kernel
theorem wX9_append_53 {x : Int32} (kk : QW V iX9_append 55 [a0, a1, a2, a3, a4, some (.int x)] (.int x :: st) h z bc bs Kr Kx) : QW V iX9_append 53 [a0, a1, a2, a3, a4, some (.int x)] (st) h z bc bs Kr Kx := q_iload dX9_append_53 rfl kk
theorem dX9_append_55 : decode (i_b iX9_append) 55 = .ok (.invokevirtual 61, 3) := by decide +kernel
theorem wX9_append_55 {a : Nat} {fs : List Value} {x0 : Int32} (hb : h a = some (.inr (10, fs))) (hm : QMv V iX9_put [.ref a, .int x0] h z (fun h' z' => QW V iX9_append 58 [a0, a1, a2, a3, a4, a5] (st) h' z' bc bs Kr Kx) Kx) (hW : (st.map fun v => v.category).sum ≤ 8 := by exact Nat.le_of_ble_eq_true rfl) : QW V iX9_append 55 [a0, a1, a2, a3, a4, a5] (.int x0 :: .ref a :: st) h z bc bs Kr Kx := q_callV (y' := iX9_put) (As := [.int x0]) (rest := st) dX9_append_55 k6_88 k6_90 ks_37 k1_10 hhX9_put rfl hdX9_put rfl rfl (Nat.le_of_ble_eq_true rfl) (Nat.le_of_ble_eq_true rfl) hW rfl hb (QMv.run hm)
theorem dX9_append_58 : decode (i_b iX9_append) 58 = .ok (.aload_n 0, 1) := by decide +kernel
theorem wX9_append_58 {x : Nat} (kk : QW V iX9_append 59 [some (.ref x), a1, a2, a3, a4, a5] (.ref x :: st) h z bc bs Kr Kx) : QW V iX9_append 58 [some (.ref x), a1, a2, a3, a4, a5] (st) h z bc bs Kr Kx := q_aload_n dX9_append_58 rfl rfl kk
theorem dX9_append_59 : decode (i_b iX9_append) 59 = .ok (.getfield 58, 3) := by decide +kernel
theorem wX9_append_59 {o : Nat} {m : Nat → Int32} (ha : h o = some (.inr (10, q_MF o m))) (kk : QW V iX9_append 62 [a0, a1, a2, a3, a4, a5] (.int (m 16) :: st) h z bc bs Kr Kx) : QW V iX9_append 59 [a0, a1, a2, a3, a4, a5] (.ref o :: st) h z bc bs Kr Kx := q_getf (k := 16) dX9_append_59 klX9 rfl (Nat.le_of_ble_eq_true rfl : 16 < 35) k5_229 rfl ha rfl kk
theorem wX9_append_59u {o : Nat} {m : Nat → Int32} (kk : QW V iX9_append 62 [a0, a1, a2, a3, a4, a5] (.int (m 16) :: st) (q_up h o (.inr (10, q_MF o m))) z bc bs Kr Kx) : QW V iX9_append 59 [a0, a1, a2, a3, a4, a5] (.ref o :: st) (q_up h o (.inr (10, q_MF o m))) z bc bs Kr Kx := wX9_append_59 q_up_s kk
theorem dX9_append_62 : decode (i_b iX9_append) 62 = .ok (.ireturn, 1) := by decide +kernel
theorem wX9_append_62 {x : Int32} {P : Int32 → q_H → Option Nat → Prop} (hk : P x h z) : QW V iX9_append 62 [a0, a1, a2, a3, a4, a5] [.int x] h z bc bs (q_Ki P) Kx := q_iret dX9_append_62 rfl rfl ⟨x, rfl, hk⟩
theorem eX9_truncate {o : Nat} {x0 : Int32} {P : Int32 → q_H → Option Nat → Prop} (kk : QW V iX9_truncate 0 [some (.ref o), some (.int x0)] [] h z 0 0 (q_Ki P) Kx) : QMi V iX9_truncate [.ref o, .int x0] h z P Kx := q_enter rfl (by decide +kernel) rfl (Nat.le_of_ble_eq_true rfl) kk
theorem dX9_truncate_0 : decode (i_b iX9_truncate) 0 = .ok (.aload_n 0, 1) := by decide +kernel
theorem wX9_truncate_0 {x : Nat} (kk : QW V iX9_truncate 1 [some (.ref x), a1] (.ref x :: st) h z bc bs Kr Kx) : QW V iX9_truncate 0 [some (.ref x), a1] (st) h z bc bs Kr Kx := q_aload_n dX9_truncate_0 rfl rfl kk
theorem dX9_truncate_1 : decode (i_b iX9_truncate) 1 = .ok (.iload_n 1, 1) := by decide +kernel
theorem wX9_truncate_1 {x : Int32} (kk : QW V iX9_truncate 2 [a0, some (.int x)] (.int x :: st) h z bc bs Kr Kx) : QW V iX9_truncate 1 [a0, some (.int x)] (st) h z bc bs Kr Kx := q_iload_n dX9_truncate_1 rfl rfl kk
theorem dX9_truncate_2 : decode (i_b iX9_truncate) 2 = .ok (.i2l, 1) := by decide +kernel
theorem wX9_truncate_2 {x : Int32} (kk : QW V iX9_truncate 3 [a0, a1] (.long (x.toInt64) :: st) h z bc bs Kr Kx) : QW V iX9_truncate 2 [a0, a1] (.int x :: st) h z bc bs Kr Kx := q_i2l dX9_truncate_2 kk
theorem dX9_truncate_3 : decode (i_b iX9_truncate) 3 = .ok (.lconst 0, 1) := by decide +kernel
theorem wX9_truncate_3  (kk : QW V iX9_truncate 4 [a0, a1] (.long (0) :: st) h z bc bs Kr Kx) : QW V iX9_truncate 3 [a0, a1] (st) h z bc bs Kr Kx := q_lconst dX9_truncate_3 (by decide) kk
theorem dX9_truncate_4 : decode (i_b iX9_truncate) 4 = .ok (.aload_n 0, 1) := by decide +kernel
theorem wX9_truncate_4 {x : Nat} (kk : QW V iX9_truncate 5 [some (.ref x), a1] (.ref x :: st) h z bc bs Kr Kx) : QW V iX9_truncate 4 [some (.ref x), a1] (st) h z bc bs Kr Kx := q_aload_n dX9_truncate_4 rfl rfl kk
theorem dX9_truncate_5 : decode (i_b iX9_truncate) 5 = .ok (.getfield 58, 3) := by decide +kernel
theorem wX9_truncate_5 {o : Nat} {m : Nat → Int32} (ha : h o = some (.inr (10, q_MF o m))) (kk : QW V iX9_truncate 8 [a0, a1] (.int (m 16) :: st) h z bc bs Kr Kx) : QW V iX9_truncate 5 [a0, a1] (.ref o :: st) h z bc bs Kr Kx := q_getf (k := 16) dX9_truncate_5 klX9 rfl (Nat.le_of_ble_eq_true rfl : 16 < 35) k5_229 rfl ha rfl kk
theorem wX9_truncate_5u {o : Nat} {m : Nat → Int32} (kk : QW V iX9_truncate 8 [a0, a1] (.int (m 16) :: st) (q_up h o (.inr (10, q_MF o m))) z bc bs Kr Kx) : QW V iX9_truncate 5 [a0, a1] (.ref o :: st) (q_up h o (.inr (10, q_MF o m))) z bc bs Kr Kx := wX9_truncate_5 q_up_s kk
theorem dX9_truncate_8 : decode (i_b iX9_truncate) 8 = .ok (.i2l, 1) := by decide +kernel
theorem wX9_truncate_8 {x : Int32} (kk : QW V iX9_truncate 9 [a0, a1] (.long (x.toInt64) :: st) h z bc bs Kr Kx) : QW V iX9_truncate 8 [a0, a1] (.int x :: st) h z bc bs Kr Kx := q_i2l dX9_truncate_8 kk
theorem dX9_truncate_9 : decode (i_b iX9_truncate) 9 = .ok (.invokestatic 65, 3) := by decide +kernel
theorem wX9_truncate_9 {x0 : Int64} {x1 : Int64} {x2 : Int64} (hm : QMi V iX9_isIn [.long x0, .long x1, .long x2] h z (fun r h' z' => QW V iX9_truncate 12 [a0, a1] (.int r :: st) h' z' bc bs Kr Kx) Kx) (hW : (st.map fun v => v.category).sum ≤ 8 := by exact Nat.le_of_ble_eq_true rfl) : QW V iX9_truncate 9 [a0, a1] (.long x2 :: .long x1 :: .long x0 :: st) h z bc bs Kr Kx := q_callS (y' := iX9_isIn) (As := [.long x0, .long x1, .long x2]) (rest := st) dX9_truncate_9 k6_96 k6_97 k1_10 hhX9_isIn rfl hdX9_isIn rfl (Nat.le_of_ble_eq_true rfl) (Nat.le_of_ble_eq_true rfl) hW rfl (QMi.run hm)
theorem dX9_truncate_12 : decode (i_b iX9_truncate) 12 = .ok (.ifCond .eq 7, 3) := by decide +kernel
theorem wX9_truncate_12 {x : Int32} (kt : x = 0 → QW V iX9_truncate 19 [a0, a1] (st) h z bc bs Kr Kx) (kf : ¬ x = 0 → QW V iX9_truncate 15 [a0, a1] (st) h z bc bs Kr Kx) : QW V iX9_truncate 12 [a0, a1] (.int x :: st) h z bc bs Kr Kx := q_if_eq dX9_truncate_12 (by decide) kt kf
theorem dX9_truncate_15 : decode (i_b iX9_truncate) 15 = .ok (.iconst 0, 1) := by decide +kernel
theorem wX9_truncate_15  (kk : QW V iX9_truncate 16 [a0, a1] (.int (0) :: st) h z bc bs Kr Kx) : QW V iX9_truncate 15 [a0, a1] (st) h z bc bs Kr Kx := q_iconst dX9_truncate_15 (by decide) kk
theorem dX9_truncate_16 : decode (i_b iX9_truncate) 16 = .ok (.goto 4, 3) := by decide +kernel
theorem wX9_truncate_16  (kk : QW V iX9_truncate 20 [a0, a1] (st) h z bc bs Kr Kx) : QW V iX9_truncate 16 [a0, a1] (st) h z bc bs Kr Kx := q_goto dX9_truncate_16 (by decide) kk
theorem dX9_truncate_19 : decode (i_b iX9_truncate) 19 = .ok (.iconst 1, 1) := by decide +kernel
theorem wX9_truncate_19  (kk : QW V iX9_truncate 20 [a0, a1] (.int (1) :: st) h z bc bs Kr Kx) : QW V iX9_truncate 19 [a0, a1] (st) h z bc bs Kr Kx := q_iconst dX9_truncate_19 (by decide) kk
theorem dX9_truncate_20 : decode (i_b iX9_truncate) 20 = .ok (.putfield 51, 3) := by decide +kernel
theorem wX9_truncate_20 {o : Nat} {m : Nat → Int32} {x : Int32} (ha : h o = some (.inr (10, q_MF o m))) (kk : QW V iX9_truncate 23 [a0, a1] (st) (q_up h o (.inr (10, q_MF o (upd m 4 x)))) z bc bs Kr Kx) : QW V iX9_truncate 20 [a0, a1] (.int x :: .ref o :: st) h z bc bs Kr Kx := q_putf (k := 4) tyX9 dX9_truncate_20 klX9 tyX9_ok nmX9 rfl (Nat.le_of_ble_eq_true rfl : 4 < 35) k5_217 rfl rfl rfl rfl (Nat.le_of_ble_eq_true rfl) ha (by rw [q_MF_4]; exact kk)
theorem wX9_truncate_20u {o : Nat} {m : Nat → Int32} {x : Int32} (kk : QW V iX9_truncate 23 [a0, a1] (st) (q_up h o (.inr (10, q_MF o (upd m 4 x)))) z bc bs Kr Kx) : QW V iX9_truncate 20 [a0, a1] (.int x :: .ref o :: st) (q_up h o (.inr (10, q_MF o m))) z bc bs Kr Kx := wX9_truncate_20 q_up_s (by rw [q_up_u]; exact kk)
theorem dX9_truncate_23 : decode (i_b iX9_truncate) 23 = .ok (.aload_n 0, 1) := by decide +kernel
theorem wX9_truncate_23 {x : Nat} (kk : QW V iX9_truncate 24 [some (.ref x), a1] (.ref x :: st) h z bc bs Kr Kx) : QW V iX9_truncate 23 [some (.ref x), a1] (st) h z bc bs Kr Kx := q_aload_n dX9_truncate_23 rfl rfl kk
theorem dX9_truncate_24 : decode (i_b iX9_truncate) 24 = .ok (.getfield 51, 3) := by decide +kernel
theorem wX9_truncate_24 {o : Nat} {m : Nat → Int32} (ha : h o = some (.inr (10, q_MF o m))) (kk : QW V iX9_truncate 27 [a0, a1] (.int (m 4) :: st) h z bc bs Kr Kx) : QW V iX9_truncate 24 [a0, a1] (.ref o :: st) h z bc bs Kr Kx := q_getf (k := 4) dX9_truncate_24 klX9 rfl (Nat.le_of_ble_eq_true rfl : 4 < 35) k5_217 rfl ha rfl kk
theorem wX9_truncate_24u {o : Nat} {m : Nat → Int32} (kk : QW V iX9_truncate 27 [a0, a1] (.int (m 4) :: st) (q_up h o (.inr (10, q_MF o m))) z bc bs Kr Kx) : QW V iX9_truncate 24 [a0, a1] (.ref o :: st) (q_up h o (.inr (10, q_MF o m))) z bc bs Kr Kx := wX9_truncate_24 q_up_s kk
theorem dX9_truncate_27 : decode (i_b iX9_truncate) 27 = .ok (.ifCond .le 5, 3) := by decide +kernel
theorem wX9_truncate_27 {x : Int32} (kt : x ≤ 0 → QW V iX9_truncate 32 [a0, a1] (st) h z bc bs Kr Kx) (kf : ¬ x ≤ 0 → QW V iX9_truncate 30 [a0, a1] (st) h z bc bs Kr Kx) : QW V iX9_truncate 27 [a0, a1] (.int x :: st) h z bc bs Kr Kx := q_if_le dX9_truncate_27 (by decide) kt kf
theorem dX9_truncate_30 : decode (i_b iX9_truncate) 30 = .ok (.iconst 0, 1) := by decide +kernel
theorem wX9_truncate_30  (kk : QW V iX9_truncate 31 [a0, a1] (.int (0) :: st) h z bc bs Kr Kx) : QW V iX9_truncate 30 [a0, a1] (st) h z bc bs Kr Kx := q_iconst dX9_truncate_30 (by decide) kk
theorem dX9_truncate_31 : decode (i_b iX9_truncate) 31 = .ok (.ireturn, 1) := by decide +kernel
theorem wX9_truncate_31 {x : Int32} {P : Int32 → q_H → Option Nat → Prop} (hk : P x h z) : QW V iX9_truncate 31 [a0, a1] [.int x] h z bc bs (q_Ki P) Kx := q_iret dX9_truncate_31 rfl rfl ⟨x, rfl, hk⟩
theorem dX9_truncate_32 : decode (i_b iX9_truncate) 32 = .ok (.aload_n 0, 1) := by decide +kernel
theorem wX9_truncate_32 {x : Nat} (kk : QW V iX9_truncate 33 [some (.ref x), a1] (.ref x :: st) h z bc bs Kr Kx) : QW V iX9_truncate 32 [some (.ref x), a1] (st) h z bc bs Kr Kx := q_aload_n dX9_truncate_32 rfl rfl kk
theorem dX9_truncate_33 : decode (i_b iX9_truncate) 33 = .ok (.iload_n 1, 1) := by decide +kernel
theorem wX9_truncate_33 {x : Int32} (kk : QW V iX9_truncate 34 [a0, some (.int x)] (.int x :: st) h z bc bs Kr Kx) : QW V iX9_truncate 33 [a0, some (.int x)] (st) h z bc bs Kr Kx := q_iload_n dX9_truncate_33 rfl rfl kk
theorem dX9_truncate_34 : decode (i_b iX9_truncate) 34 = .ok (.putfield 58, 3) := by decide +kernel
theorem wX9_truncate_34 {o : Nat} {m : Nat → Int32} {x : Int32} (ha : h o = some (.inr (10, q_MF o m))) (kk : QW V iX9_truncate 37 [a0, a1] (st) (q_up h o (.inr (10, q_MF o (upd m 16 x)))) z bc bs Kr Kx) : QW V iX9_truncate 34 [a0, a1] (.int x :: .ref o :: st) h z bc bs Kr Kx := q_putf (k := 16) tyX9 dX9_truncate_34 klX9 tyX9_ok nmX9 rfl (Nat.le_of_ble_eq_true rfl : 16 < 35) k5_229 rfl rfl rfl rfl (Nat.le_of_ble_eq_true rfl) ha (by rw [q_MF_16]; exact kk)
theorem wX9_truncate_34u {o : Nat} {m : Nat → Int32} {x : Int32} (kk : QW V iX9_truncate 37 [a0, a1] (st) (q_up h o (.inr (10, q_MF o (upd m 16 x)))) z bc bs Kr Kx) : QW V iX9_truncate 34 [a0, a1] (.int x :: .ref o :: st) (q_up h o (.inr (10, q_MF o m))) z bc bs Kr Kx := wX9_truncate_34 q_up_s (by rw [q_up_u]; exact kk)
theorem dX9_truncate_37 : decode (i_b iX9_truncate) 37 = .ok (.aload_n 0, 1) := by decide +kernel
theorem wX9_truncate_37 {x : Nat} (kk : QW V iX9_truncate 38 [some (.ref x), a1] (.ref x :: st) h z bc bs Kr Kx) : QW V iX9_truncate 37 [some (.ref x), a1] (st) h z bc bs Kr Kx := q_aload_n dX9_truncate_37 rfl rfl kk
theorem dX9_truncate_38 : decode (i_b iX9_truncate) 38 = .ok (.getfield 58, 3) := by decide +kernel
theorem wX9_truncate_38 {o : Nat} {m : Nat → Int32} (ha : h o = some (.inr (10, q_MF o m))) (kk : QW V iX9_truncate 41 [a0, a1] (.int (m 16) :: st) h z bc bs Kr Kx) : QW V iX9_truncate 38 [a0, a1] (.ref o :: st) h z bc bs Kr Kx := q_getf (k := 16) dX9_truncate_38 klX9 rfl (Nat.le_of_ble_eq_true rfl : 16 < 35) k5_229 rfl ha rfl kk
theorem wX9_truncate_38u {o : Nat} {m : Nat → Int32} (kk : QW V iX9_truncate 41 [a0, a1] (.int (m 16) :: st) (q_up h o (.inr (10, q_MF o m))) z bc bs Kr Kx) : QW V iX9_truncate 38 [a0, a1] (.ref o :: st) (q_up h o (.inr (10, q_MF o m))) z bc bs Kr Kx := wX9_truncate_38 q_up_s kk
theorem dX9_truncate_41 : decode (i_b iX9_truncate) 41 = .ok (.ireturn, 1) := by decide +kernel
theorem wX9_truncate_41 {x : Int32} {P : Int32 → q_H → Option Nat → Prop} (hk : P x h z) : QW V iX9_truncate 41 [a0, a1] [.int x] h z bc bs (q_Ki P) Kx := q_iret dX9_truncate_41 rfl rfl ⟨x, rfl, hk⟩
theorem eX9_byteAt {o : Nat} {x0 : Int32} {P : Int32 → q_H → Option Nat → Prop} (kk : QW V iX9_byteAt 0 [some (.ref o), some (.int x0)] [] h z 0 0 (q_Ki P) Kx) : QMi V iX9_byteAt [.ref o, .int x0] h z P Kx := q_enter rfl (by decide +kernel) rfl (Nat.le_of_ble_eq_true rfl) kk
theorem dX9_byteAt_0 : decode (i_b iX9_byteAt) 0 = .ok (.iload_n 1, 1) := by decide +kernel
theorem wX9_byteAt_0 {x : Int32} (kk : QW V iX9_byteAt 1 [a0, some (.int x)] (.int x :: st) h z bc bs Kr Kx) : QW V iX9_byteAt 0 [a0, some (.int x)] (st) h z bc bs Kr Kx := q_iload_n dX9_byteAt_0 rfl rfl kk
theorem dX9_byteAt_1 : decode (i_b iX9_byteAt) 1 = .ok (.aload_n 0, 1) := by decide +kernel
theorem wX9_byteAt_1 {x : Nat} (kk : QW V iX9_byteAt 2 [some (.ref x), a1] (.ref x :: st) h z bc bs Kr Kx) : QW V iX9_byteAt 1 [some (.ref x), a1] (st) h z bc bs Kr Kx := q_aload_n dX9_byteAt_1 rfl rfl kk
theorem dX9_byteAt_2 : decode (i_b iX9_byteAt) 2 = .ok (.getfield 69, 3) := by decide +kernel
theorem wX9_byteAt_2 {o : Nat} {m : Nat → Int32} (ha : h o = some (.inr (10, q_MF o m))) (kk : QW V iX9_byteAt 5 [a0, a1] (.int (m 17) :: st) h z bc bs Kr Kx) : QW V iX9_byteAt 2 [a0, a1] (.ref o :: st) h z bc bs Kr Kx := q_getf (k := 17) dX9_byteAt_2 klX9 rfl (Nat.le_of_ble_eq_true rfl : 17 < 35) k5_230 rfl ha rfl kk
theorem wX9_byteAt_2u {o : Nat} {m : Nat → Int32} (kk : QW V iX9_byteAt 5 [a0, a1] (.int (m 17) :: st) (q_up h o (.inr (10, q_MF o m))) z bc bs Kr Kx) : QW V iX9_byteAt 2 [a0, a1] (.ref o :: st) (q_up h o (.inr (10, q_MF o m))) z bc bs Kr Kx := wX9_byteAt_2 q_up_s kk
theorem dX9_byteAt_5 : decode (i_b iX9_byteAt) 5 = .ok (.if_icmp .ge 12, 3) := by decide +kernel
theorem wX9_byteAt_5 {x y : Int32} (kt : y ≤ x → QW V iX9_byteAt 17 [a0, a1] (st) h z bc bs Kr Kx) (kf : ¬ y ≤ x → QW V iX9_byteAt 8 [a0, a1] (st) h z bc bs Kr Kx) : QW V iX9_byteAt 5 [a0, a1] (.int y :: .int x :: st) h z bc bs Kr Kx := q_icmp_ge dX9_byteAt_5 (by decide) kt kf
theorem dX9_byteAt_8 : decode (i_b iX9_byteAt) 8 = .ok (.aload_n 0, 1) := by decide +kernel
theorem wX9_byteAt_8 {x : Nat} (kk : QW V iX9_byteAt 9 [some (.ref x), a1] (.ref x :: st) h z bc bs Kr Kx) : QW V iX9_byteAt 8 [some (.ref x), a1] (st) h z bc bs Kr Kx := q_aload_n dX9_byteAt_8 rfl rfl kk
theorem dX9_byteAt_9 : decode (i_b iX9_byteAt) 9 = .ok (.getfield 23, 3) := by decide +kernel
theorem wX9_byteAt_9 {o : Nat} {m : Nat → Int32} (ha : h o = some (.inr (10, q_MF o m))) (kk : QW V iX9_byteAt 12 [a0, a1] (.ref (o + 5) :: st) h z bc bs Kr Kx) : QW V iX9_byteAt 9 [a0, a1] (.ref o :: st) h z bc bs Kr Kx := q_getf (k := 15) dX9_byteAt_9 klX9 rfl (Nat.le_of_ble_eq_true rfl : 15 < 35) k5_228 rfl ha rfl kk
theorem wX9_byteAt_9u {o : Nat} {m : Nat → Int32} (kk : QW V iX9_byteAt 12 [a0, a1] (.ref (o + 5) :: st) (q_up h o (.inr (10, q_MF o m))) z bc bs Kr Kx) : QW V iX9_byteAt 9 [a0, a1] (.ref o :: st) (q_up h o (.inr (10, q_MF o m))) z bc bs Kr Kx := wX9_byteAt_9 q_up_s kk
theorem dX9_byteAt_12 : decode (i_b iX9_byteAt) 12 = .ok (.iload_n 1, 1) := by decide +kernel
theorem wX9_byteAt_12 {x : Int32} (kk : QW V iX9_byteAt 13 [a0, some (.int x)] (.int x :: st) h z bc bs Kr Kx) : QW V iX9_byteAt 12 [a0, some (.int x)] (st) h z bc bs Kr Kx := q_iload_n dX9_byteAt_12 rfl rfl kk
theorem dX9_byteAt_13 : decode (i_b iX9_byteAt) 13 = .ok (.iaload, 1) := by decide +kernel
theorem wX9_byteAt_13 {a n j : Nat} {f : Nat → Int32} {i : Int32} (ha : h a = some (.inl (1, n, .inl f))) (hi : i = nI j) (hj : j < n) (hn : n < 2147483648) (kk : QW V iX9_byteAt 14 [a0, a1] (.int (f j) :: st) h z bc bs Kr Kx) : QW V iX9_byteAt 13 [a0, a1] (.int i :: .ref a :: st) h z bc bs Kr Kx := q_iald dX9_byteAt_13 ha hi hj hn kk
theorem dX9_byteAt_14 : decode (i_b iX9_byteAt) 14 = .ok (.goto 4, 3) := by decide +kernel
theorem wX9_byteAt_14  (kk : QW V iX9_byteAt 18 [a0, a1] (st) h z bc bs Kr Kx) : QW V iX9_byteAt 14 [a0, a1] (st) h z bc bs Kr Kx := q_goto dX9_byteAt_14 (by decide) kk
theorem dX9_byteAt_17 : decode (i_b iX9_byteAt) 17 = .ok (.iconst (-1), 1) := by decide +kernel
theorem wX9_byteAt_17  (kk : QW V iX9_byteAt 18 [a0, a1] (.int (-1) :: st) h z bc bs Kr Kx) : QW V iX9_byteAt 17 [a0, a1] (st) h z bc bs Kr Kx := q_iconst dX9_byteAt_17 (by decide) kk
theorem dX9_byteAt_18 : decode (i_b iX9_byteAt) 18 = .ok (.ireturn, 1) := by decide +kernel
theorem wX9_byteAt_18 {x : Int32} {P : Int32 → q_H → Option Nat → Prop} (hk : P x h z) : QW V iX9_byteAt 18 [a0, a1] [.int x] h z bc bs (q_Ki P) Kx := q_iret dX9_byteAt_18 rfl rfl ⟨x, rfl, hk⟩
theorem eX9_isLetterAt {o : Nat} {x0 : Int32} {P : Int32 → q_H → Option Nat → Prop} (kk : QW V iX9_isLetterAt 0 [some (.ref o), some (.int x0)] [] h z 0 0 (q_Ki P) Kx) : QMi V iX9_isLetterAt [.ref o, .int x0] h z P Kx := q_enter rfl (by decide +kernel) rfl (Nat.le_of_ble_eq_true rfl) kk
theorem dX9_isLetterAt_0 : decode (i_b iX9_isLetterAt) 0 = .ok (.aload_n 0, 1) := by decide +kernel
theorem wX9_isLetterAt_0 {x : Nat} (kk : QW V iX9_isLetterAt 1 [some (.ref x), a1] (.ref x :: st) h z bc bs Kr Kx) : QW V iX9_isLetterAt 0 [some (.ref x), a1] (st) h z bc bs Kr Kx := q_aload_n dX9_isLetterAt_0 rfl rfl kk
theorem dX9_isLetterAt_1 : decode (i_b iX9_isLetterAt) 1 = .ok (.iload_n 1, 1) := by decide +kernel
theorem wX9_isLetterAt_1 {x : Int32} (kk : QW V iX9_isLetterAt 2 [a0, some (.int x)] (.int x :: st) h z bc bs Kr Kx) : QW V iX9_isLetterAt 1 [a0, some (.int x)] (st) h z bc bs Kr Kx := q_iload_n dX9_isLetterAt_1 rfl rfl kk
theorem dX9_isLetterAt_2 : decode (i_b iX9_isLetterAt) 2 = .ok (.invokevirtual 72, 3) := by decide +kernel
theorem wX9_isLetterAt_2 {a : Nat} {fs : List Value} {x0 : Int32} (hb : h a = some (.inr (10, fs))) (hm : QMi V iX9_byteAt [.ref a, .int x0] h z (fun r h' z' => QW V iX9_isLetterAt 5 [a0, a1] (.int r :: st) h' z' bc bs Kr Kx) Kx) (hW : (st.map fun v => v.category).sum ≤ 8 := by exact Nat.le_of_ble_eq_true rfl) : QW V iX9_isLetterAt 2 [a0, a1] (.int x0 :: .ref a :: st) h z bc bs Kr Kx := q_callV (y' := iX9_byteAt) (As := [.int x0]) (rest := st) dX9_isLetterAt_2 k6_111 k6_113 ks_40 k1_10 hhX9_byteAt rfl hdX9_byteAt rfl rfl (Nat.le_of_ble_eq_true rfl) (Nat.le_of_ble_eq_true rfl) hW rfl hb (QMi.run hm)
theorem dX9_isLetterAt_5 : decode (i_b iX9_isLetterAt) 5 = .ok (.i2l, 1) := by decide +kernel
theorem wX9_isLetterAt_5 {x : Int32} (kk : QW V iX9_isLetterAt 6 [a0, a1] (.long (x.toInt64) :: st) h z bc bs Kr Kx) : QW V iX9_isLetterAt 5 [a0, a1] (.int x :: st) h z bc bs Kr Kx := q_i2l dX9_isLetterAt_5 kk
theorem dX9_isLetterAt_6 : decode (i_b iX9_isLetterAt) 6 = .ok (.ldc2_w 76, 3) := by decide +kernel
theorem wX9_isLetterAt_6  (kk : QW V iX9_isLetterAt 9 [a0, a1] (.long (97) :: st) h z bc bs Kr Kx) : QW V iX9_isLetterAt 6 [a0, a1] (st) h z bc bs Kr Kx := q_ldc2 dX9_isLetterAt_6 k6_119 kk
theorem dX9_isLetterAt_9 : decode (i_b iX9_isLetterAt) 9 = .ok (.ldc2_w 78, 3) := by decide +kernel
theorem wX9_isLetterAt_9  (kk : QW V iX9_isLetterAt 12 [a0, a1] (.long (122) :: st) h z bc bs Kr Kx) : QW V iX9_isLetterAt 9 [a0, a1] (st) h z bc bs Kr Kx := q_ldc2 dX9_isLetterAt_9 k6_120 kk
theorem dX9_isLetterAt_12 : decode (i_b iX9_isLetterAt) 12 = .ok (.invokestatic 65, 3) := by decide +kernel
theorem wX9_isLetterAt_12 {x0 : Int64} {x1 : Int64} {x2 : Int64} (hm : QMi V iX9_isIn [.long x0, .long x1, .long x2] h z (fun r h' z' => QW V iX9_isLetterAt 15 [a0, a1] (.int r :: st) h' z' bc bs Kr Kx) Kx) (hW : (st.map fun v => v.category).sum ≤ 8 := by exact Nat.le_of_ble_eq_true rfl) : QW V iX9_isLetterAt 12 [a0, a1] (.long x2 :: .long x1 :: .long x0 :: st) h z bc bs Kr Kx := q_callS (y' := iX9_isIn) (As := [.long x0, .long x1, .long x2]) (rest := st) dX9_isLetterAt_12 k6_96 k6_97 k1_10 hhX9_isIn rfl hdX9_isIn rfl (Nat.le_of_ble_eq_true rfl) (Nat.le_of_ble_eq_true rfl) hW rfl (QMi.run hm)
theorem dX9_isLetterAt_15 : decode (i_b iX9_isLetterAt) 15 = .ok (.ireturn, 1) := by decide +kernel
theorem wX9_isLetterAt_15 {x : Int32} {P : Int32 → q_H → Option Nat → Prop} (hk : P x h z) (hn : narrow .boolean (.int x) = .int x := by first | rfl | exact q_b_n _) : QW V iX9_isLetterAt 15 [a0, a1] [.int x] h z bc bs (q_Ki P) Kx := q_iret dX9_isLetterAt_15 rfl hn ⟨x, rfl, hk⟩
theorem eX9_isDigitAt {o : Nat} {x0 : Int32} {P : Int32 → q_H → Option Nat → Prop} (kk : QW V iX9_isDigitAt 0 [some (.ref o), some (.int x0)] [] h z 0 0 (q_Ki P) Kx) : QMi V iX9_isDigitAt [.ref o, .int x0] h z P Kx := q_enter rfl (by decide +kernel) rfl (Nat.le_of_ble_eq_true rfl) kk
theorem dX9_isDigitAt_0 : decode (i_b iX9_isDigitAt) 0 = .ok (.aload_n 0, 1) := by decide +kernel
theorem wX9_isDigitAt_0 {x : Nat} (kk : QW V iX9_isDigitAt 1 [some (.ref x), a1] (.ref x :: st) h z bc bs Kr Kx) : QW V iX9_isDigitAt 0 [some (.ref x), a1] (st) h z bc bs Kr Kx := q_aload_n dX9_isDigitAt_0 rfl rfl kk
theorem dX9_isDigitAt_1 : decode (i_b iX9_isDigitAt) 1 = .ok (.iload_n 1, 1) := by decide +kernel
theorem wX9_isDigitAt_1 {x : Int32} (kk : QW V iX9_isDigitAt 2 [a0, some (.int x)] (.int x :: st) h z bc bs Kr Kx) : QW V iX9_isDigitAt 1 [a0, some (.int x)] (st) h z bc bs Kr Kx := q_iload_n dX9_isDigitAt_1 rfl rfl kk
theorem dX9_isDigitAt_2 : decode (i_b iX9_isDigitAt) 2 = .ok (.invokevirtual 72, 3) := by decide +kernel
theorem wX9_isDigitAt_2 {a : Nat} {fs : List Value} {x0 : Int32} (hb : h a = some (.inr (10, fs))) (hm : QMi V iX9_byteAt [.ref a, .int x0] h z (fun r h' z' => QW V iX9_isDigitAt 5 [a0, a1] (.int r :: st) h' z' bc bs Kr Kx) Kx) (hW : (st.map fun v => v.category).sum ≤ 8 := by exact Nat.le_of_ble_eq_true rfl) : QW V iX9_isDigitAt 2 [a0, a1] (.int x0 :: .ref a :: st) h z bc bs Kr Kx := q_callV (y' := iX9_byteAt) (As := [.int x0]) (rest := st) dX9_isDigitAt_2 k6_111 k6_113 ks_40 k1_10 hhX9_byteAt rfl hdX9_byteAt rfl rfl (Nat.le_of_ble_eq_true rfl) (Nat.le_of_ble_eq_true rfl) hW rfl hb (QMi.run hm)
theorem dX9_isDigitAt_5 : decode (i_b iX9_isDigitAt) 5 = .ok (.i2l, 1) := by decide +kernel
theorem wX9_isDigitAt_5 {x : Int32} (kk : QW V iX9_isDigitAt 6 [a0, a1] (.long (x.toInt64) :: st) h z bc bs Kr Kx) : QW V iX9_isDigitAt 5 [a0, a1] (.int x :: st) h z bc bs Kr Kx := q_i2l dX9_isDigitAt_5 kk
theorem dX9_isDigitAt_6 : decode (i_b iX9_isDigitAt) 6 = .ok (.ldc2_w 80, 3) := by decide +kernel
theorem wX9_isDigitAt_6  (kk : QW V iX9_isDigitAt 9 [a0, a1] (.long (48) :: st) h z bc bs Kr Kx) : QW V iX9_isDigitAt 6 [a0, a1] (st) h z bc bs Kr Kx := q_ldc2 dX9_isDigitAt_6 k6_125 kk
theorem dX9_isDigitAt_9 : decode (i_b iX9_isDigitAt) 9 = .ok (.ldc2_w 82, 3) := by decide +kernel
theorem wX9_isDigitAt_9  (kk : QW V iX9_isDigitAt 12 [a0, a1] (.long (57) :: st) h z bc bs Kr Kx) : QW V iX9_isDigitAt 9 [a0, a1] (st) h z bc bs Kr Kx := q_ldc2 dX9_isDigitAt_9 k6_126 kk
theorem dX9_isDigitAt_12 : decode (i_b iX9_isDigitAt) 12 = .ok (.invokestatic 65, 3) := by decide +kernel
theorem wX9_isDigitAt_12 {x0 : Int64} {x1 : Int64} {x2 : Int64} (hm : QMi V iX9_isIn [.long x0, .long x1, .long x2] h z (fun r h' z' => QW V iX9_isDigitAt 15 [a0, a1] (.int r :: st) h' z' bc bs Kr Kx) Kx) (hW : (st.map fun v => v.category).sum ≤ 8 := by exact Nat.le_of_ble_eq_true rfl) : QW V iX9_isDigitAt 12 [a0, a1] (.long x2 :: .long x1 :: .long x0 :: st) h z bc bs Kr Kx := q_callS (y' := iX9_isIn) (As := [.long x0, .long x1, .long x2]) (rest := st) dX9_isDigitAt_12 k6_96 k6_97 k1_10 hhX9_isIn rfl hdX9_isIn rfl (Nat.le_of_ble_eq_true rfl) (Nat.le_of_ble_eq_true rfl) hW rfl (QMi.run hm)
theorem dX9_isDigitAt_15 : decode (i_b iX9_isDigitAt) 15 = .ok (.ireturn, 1) := by decide +kernel
theorem wX9_isDigitAt_15 {x : Int32} {P : Int32 → q_H → Option Nat → Prop} (hk : P x h z) (hn : narrow .boolean (.int x) = .int x := by first | rfl | exact q_b_n _) : QW V iX9_isDigitAt 15 [a0, a1] [.int x] h z bc bs (q_Ki P) Kx := q_iret dX9_isDigitAt_15 rfl hn ⟨x, rfl, hk⟩
theorem eX9_isFine {o : Nat} {P : Int32 → q_H → Option Nat → Prop} (kk : QW V iX9_isFine 0 [some (.ref o)] [] h z 0 0 (q_Ki P) Kx) : QMi V iX9_isFine [.ref o] h z P Kx := q_enter rfl (by decide +kernel) rfl (Nat.le_of_ble_eq_true rfl) kk
theorem dX9_isFine_0 : decode (i_b iX9_isFine) 0 = .ok (.aload_n 0, 1) := by decide +kernel
theorem wX9_isFine_0 {x : Nat} (kk : QW V iX9_isFine 1 [some (.ref x)] (.ref x :: st) h z bc bs Kr Kx) : QW V iX9_isFine 0 [some (.ref x)] (st) h z bc bs Kr Kx := q_aload_n dX9_isFine_0 rfl rfl kk
theorem dX9_isFine_1 : decode (i_b iX9_isFine) 1 = .ok (.getfield 84, 3) := by decide +kernel
theorem wX9_isFine_1 {o : Nat} {m : Nat → Int32} (ha : h o = some (.inr (10, q_MF o m))) (kk : QW V iX9_isFine 4 [a0] (.int (m 22) :: st) h z bc bs Kr Kx) : QW V iX9_isFine 1 [a0] (.ref o :: st) h z bc bs Kr Kx := q_getf (k := 22) dX9_isFine_1 klX9 rfl (Nat.le_of_ble_eq_true rfl : 22 < 35) k5_235 rfl ha rfl kk
theorem wX9_isFine_1u {o : Nat} {m : Nat → Int32} (kk : QW V iX9_isFine 4 [a0] (.int (m 22) :: st) (q_up h o (.inr (10, q_MF o m))) z bc bs Kr Kx) : QW V iX9_isFine 1 [a0] (.ref o :: st) (q_up h o (.inr (10, q_MF o m))) z bc bs Kr Kx := wX9_isFine_1 q_up_s kk
theorem dX9_isFine_4 : decode (i_b iX9_isFine) 4 = .ok (.ifCond .ne 7, 3) := by decide +kernel
theorem wX9_isFine_4 {x : Int32} (kt : ¬ x = 0 → QW V iX9_isFine 11 [a0] (st) h z bc bs Kr Kx) (kf : x = 0 → QW V iX9_isFine 7 [a0] (st) h z bc bs Kr Kx) : QW V iX9_isFine 4 [a0] (.int x :: st) h z bc bs Kr Kx := q_if_ne dX9_isFine_4 (by decide) kt kf
theorem dX9_isFine_7 : decode (i_b iX9_isFine) 7 = .ok (.iconst 1, 1) := by decide +kernel
theorem wX9_isFine_7  (kk : QW V iX9_isFine 8 [a0] (.int (1) :: st) h z bc bs Kr Kx) : QW V iX9_isFine 7 [a0] (st) h z bc bs Kr Kx := q_iconst dX9_isFine_7 (by decide) kk
theorem dX9_isFine_8 : decode (i_b iX9_isFine) 8 = .ok (.goto 4, 3) := by decide +kernel
theorem wX9_isFine_8  (kk : QW V iX9_isFine 12 [a0] (st) h z bc bs Kr Kx) : QW V iX9_isFine 8 [a0] (st) h z bc bs Kr Kx := q_goto dX9_isFine_8 (by decide) kk
theorem dX9_isFine_11 : decode (i_b iX9_isFine) 11 = .ok (.iconst 0, 1) := by decide +kernel
theorem wX9_isFine_11  (kk : QW V iX9_isFine 12 [a0] (.int (0) :: st) h z bc bs Kr Kx) : QW V iX9_isFine 11 [a0] (st) h z bc bs Kr Kx := q_iconst dX9_isFine_11 (by decide) kk
theorem dX9_isFine_12 : decode (i_b iX9_isFine) 12 = .ok (.ireturn, 1) := by decide +kernel
theorem wX9_isFine_12 {x : Int32} {P : Int32 → q_H → Option Nat → Prop} (hk : P x h z) (hn : narrow .boolean (.int x) = .int x := by first | rfl | exact q_b_n _) : QW V iX9_isFine 12 [a0] [.int x] h z bc bs (q_Ki P) Kx := q_iret dX9_isFine_12 rfl hn ⟨x, rfl, hk⟩
theorem eX9_next {o : Nat} {P : q_H → Option Nat → Prop} (kk : QW V iX9_next 0 [some (.ref o)] [] h z 0 0 (q_Kv P) Kx) : QMv V iX9_next [.ref o] h z P Kx := q_enter rfl (by decide +kernel) rfl (Nat.le_of_ble_eq_true rfl) kk
theorem dX9_next_0 : decode (i_b iX9_next) 0 = .ok (.aload_n 0, 1) := by decide +kernel
theorem wX9_next_0 {x : Nat} (kk : QW V iX9_next 1 [some (.ref x)] (.ref x :: st) h z bc bs Kr Kx) : QW V iX9_next 0 [some (.ref x)] (st) h z bc bs Kr Kx := q_aload_n dX9_next_0 rfl rfl kk
theorem dX9_next_1 : decode (i_b iX9_next) 1 = .ok (.invokevirtual 87, 3) := by decide +kernel
theorem wX9_next_1 {a : Nat} {fs : List Value}  (hb : h a = some (.inr (10, fs))) (hm : QMi V iX9_isFine [.ref a] h z (fun r h' z' => QW V iX9_next 4 [a0] (.int r :: st) h' z' bc bs Kr Kx) Kx) (hW : (st.map fun v => v.category).sum ≤ 8 := by exact Nat.le_of_ble_eq_true rfl) : QW V iX9_next 1 [a0] (.ref a :: st) h z bc bs Kr Kx := q_callV (y' := iX9_isFine) (As := []) (rest := st) dX9_next_1 k6_107 k6_109 ks_39 k1_10 hhX9_isFine rfl hdX9_isFine rfl rfl (Nat.le_of_ble_eq_true rfl) (Nat.le_of_ble_eq_true rfl) hW rfl hb (QMi.run hm)
theorem dX9_next_4 : decode (i_b iX9_next) 4 = .ok (.ifCond .ne 4, 3) := by decide +kernel
theorem wX9_next_4 {x : Int32} (kt : ¬ x = 0 → QW V iX9_next 8 [a0] (st) h z bc bs Kr Kx) (kf : x = 0 → QW V iX9_next 7 [a0] (st) h z bc bs Kr Kx) : QW V iX9_next 4 [a0] (.int x :: st) h z bc bs Kr Kx := q_if_ne dX9_next_4 (by decide) kt kf
theorem dX9_next_7 : decode (i_b iX9_next) 7 = .ok (.return_, 1) := by decide +kernel
theorem wX9_next_7 {P : q_H → Option Nat → Prop} (hk : P h z) : QW V iX9_next 7 [a0] [] h z bc bs (q_Kv P) Kx := q_vret dX9_next_7 rfl ⟨rfl, hk⟩
theorem dX9_next_8 : decode (i_b iX9_next) 8 = .ok (.aload_n 0, 1) := by decide +kernel
theorem wX9_next_8 {x : Nat} (kk : QW V iX9_next 9 [some (.ref x)] (.ref x :: st) h z bc bs Kr Kx) : QW V iX9_next 8 [some (.ref x)] (st) h z bc bs Kr Kx := q_aload_n dX9_next_8 rfl rfl kk
theorem dX9_next_9 : decode (i_b iX9_next) 9 = .ok (.aload_n 0, 1) := by decide +kernel
theorem wX9_next_9 {x : Nat} (kk : QW V iX9_next 10 [some (.ref x)] (.ref x :: st) h z bc bs Kr Kx) : QW V iX9_next 9 [some (.ref x)] (st) h z bc bs Kr Kx := q_aload_n dX9_next_9 rfl rfl kk
theorem dX9_next_10 : decode (i_b iX9_next) 10 = .ok (.getfield 91, 3) := by decide +kernel
theorem wX9_next_10 {o : Nat} {m : Nat → Int32} (ha : h o = some (.inr (10, q_MF o m))) (kk : QW V iX9_next 13 [a0] (.int (m 18) :: st) h z bc bs Kr Kx) : QW V iX9_next 10 [a0] (.ref o :: st) h z bc bs Kr Kx := q_getf (k := 18) dX9_next_10 klX9 rfl (Nat.le_of_ble_eq_true rfl : 18 < 35) k5_231 rfl ha rfl kk
theorem wX9_next_10u {o : Nat} {m : Nat → Int32} (kk : QW V iX9_next 13 [a0] (.int (m 18) :: st) (q_up h o (.inr (10, q_MF o m))) z bc bs Kr Kx) : QW V iX9_next 10 [a0] (.ref o :: st) (q_up h o (.inr (10, q_MF o m))) z bc bs Kr Kx := wX9_next_10 q_up_s kk
theorem dX9_next_13 : decode (i_b iX9_next) 13 = .ok (.invokevirtual 72, 3) := by decide +kernel
theorem wX9_next_13 {a : Nat} {fs : List Value} {x0 : Int32} (hb : h a = some (.inr (10, fs))) (hm : QMi V iX9_byteAt [.ref a, .int x0] h z (fun r h' z' => QW V iX9_next 16 [a0] (.int r :: st) h' z' bc bs Kr Kx) Kx) (hW : (st.map fun v => v.category).sum ≤ 8 := by exact Nat.le_of_ble_eq_true rfl) : QW V iX9_next 13 [a0] (.int x0 :: .ref a :: st) h z bc bs Kr Kx := q_callV (y' := iX9_byteAt) (As := [.int x0]) (rest := st) dX9_next_13 k6_111 k6_113 ks_40 k1_10 hhX9_byteAt rfl hdX9_byteAt rfl rfl (Nat.le_of_ble_eq_true rfl) (Nat.le_of_ble_eq_true rfl) hW rfl hb (QMi.run hm)
theorem dX9_next_16 : decode (i_b iX9_next) 16 = .ok (.bipush 32, 2) := by decide +kernel
theorem wX9_next_16  (kk : QW V iX9_next 18 [a0] (.int (32) :: st) h z bc bs Kr Kx) : QW V iX9_next 16 [a0] (st) h z bc bs Kr Kx := q_bipush dX9_next_16 (by decide) kk
theorem dX9_next_18 : decode (i_b iX9_next) 18 = .ok (.if_icmp .eq 16, 3) := by decide +kernel
theorem wX9_next_18 {x y : Int32} (kt : x = y → QW V iX9_next 34 [a0] (st) h z bc bs Kr Kx) (kf : ¬ x = y → QW V iX9_next 21 [a0] (st) h z bc bs Kr Kx) : QW V iX9_next 18 [a0] (.int y :: .int x :: st) h z bc bs Kr Kx := q_icmp_eq dX9_next_18 (by decide) kt kf
theorem dX9_next_21 : decode (i_b iX9_next) 21 = .ok (.aload_n 0, 1) := by decide +kernel
theorem wX9_next_21 {x : Nat} (kk : QW V iX9_next 22 [some (.ref x)] (.ref x :: st) h z bc bs Kr Kx) : QW V iX9_next 21 [some (.ref x)] (st) h z bc bs Kr Kx := q_aload_n dX9_next_21 rfl rfl kk
theorem dX9_next_22 : decode (i_b iX9_next) 22 = .ok (.aload_n 0, 1) := by decide +kernel
theorem wX9_next_22 {x : Nat} (kk : QW V iX9_next 23 [some (.ref x)] (.ref x :: st) h z bc bs Kr Kx) : QW V iX9_next 22 [some (.ref x)] (st) h z bc bs Kr Kx := q_aload_n dX9_next_22 rfl rfl kk
theorem dX9_next_23 : decode (i_b iX9_next) 23 = .ok (.getfield 91, 3) := by decide +kernel
theorem wX9_next_23 {o : Nat} {m : Nat → Int32} (ha : h o = some (.inr (10, q_MF o m))) (kk : QW V iX9_next 26 [a0] (.int (m 18) :: st) h z bc bs Kr Kx) : QW V iX9_next 23 [a0] (.ref o :: st) h z bc bs Kr Kx := q_getf (k := 18) dX9_next_23 klX9 rfl (Nat.le_of_ble_eq_true rfl : 18 < 35) k5_231 rfl ha rfl kk
theorem wX9_next_23u {o : Nat} {m : Nat → Int32} (kk : QW V iX9_next 26 [a0] (.int (m 18) :: st) (q_up h o (.inr (10, q_MF o m))) z bc bs Kr Kx) : QW V iX9_next 23 [a0] (.ref o :: st) (q_up h o (.inr (10, q_MF o m))) z bc bs Kr Kx := wX9_next_23 q_up_s kk
theorem dX9_next_26 : decode (i_b iX9_next) 26 = .ok (.invokevirtual 72, 3) := by decide +kernel
theorem wX9_next_26 {a : Nat} {fs : List Value} {x0 : Int32} (hb : h a = some (.inr (10, fs))) (hm : QMi V iX9_byteAt [.ref a, .int x0] h z (fun r h' z' => QW V iX9_next 29 [a0] (.int r :: st) h' z' bc bs Kr Kx) Kx) (hW : (st.map fun v => v.category).sum ≤ 8 := by exact Nat.le_of_ble_eq_true rfl) : QW V iX9_next 26 [a0] (.int x0 :: .ref a :: st) h z bc bs Kr Kx := q_callV (y' := iX9_byteAt) (As := [.int x0]) (rest := st) dX9_next_26 k6_111 k6_113 ks_40 k1_10 hhX9_byteAt rfl hdX9_byteAt rfl rfl (Nat.le_of_ble_eq_true rfl) (Nat.le_of_ble_eq_true rfl) hW rfl hb (QMi.run hm)
theorem dX9_next_29 : decode (i_b iX9_next) 29 = .ok (.bipush 10, 2) := by decide +kernel
theorem wX9_next_29  (kk : QW V iX9_next 31 [a0] (.int (10) :: st) h z bc bs Kr Kx) : QW V iX9_next 29 [a0] (st) h z bc bs Kr Kx := q_bipush dX9_next_29 (by decide) kk
theorem dX9_next_31 : decode (i_b iX9_next) 31 = .ok (.if_icmp .ne 16, 3) := by decide +kernel
theorem wX9_next_31 {x y : Int32} (kt : ¬ x = y → QW V iX9_next 47 [a0] (st) h z bc bs Kr Kx) (kf : x = y → QW V iX9_next 34 [a0] (st) h z bc bs Kr Kx) : QW V iX9_next 31 [a0] (.int y :: .int x :: st) h z bc bs Kr Kx := q_icmp_ne dX9_next_31 (by decide) kt kf
theorem dX9_next_34 : decode (i_b iX9_next) 34 = .ok (.aload_n 0, 1) := by decide +kernel
theorem wX9_next_34 {x : Nat} (kk : QW V iX9_next 35 [some (.ref x)] (.ref x :: st) h z bc bs Kr Kx) : QW V iX9_next 34 [some (.ref x)] (st) h z bc bs Kr Kx := q_aload_n dX9_next_34 rfl rfl kk
theorem dX9_next_35 : decode (i_b iX9_next) 35 = .ok (.dup, 1) := by decide +kernel
theorem wX9_next_35 {v : Value} (kk : QW V iX9_next 36 [a0] (v :: v :: st) h z bc bs Kr Kx) (hv : v.category = 1 := by rfl) : QW V iX9_next 35 [a0] (v :: st) h z bc bs Kr Kx := q_dup dX9_next_35 hv kk
theorem dX9_next_36 : decode (i_b iX9_next) 36 = .ok (.getfield 91, 3) := by decide +kernel
theorem wX9_next_36 {o : Nat} {m : Nat → Int32} (ha : h o = some (.inr (10, q_MF o m))) (kk : QW V iX9_next 39 [a0] (.int (m 18) :: st) h z bc bs Kr Kx) : QW V iX9_next 36 [a0] (.ref o :: st) h z bc bs Kr Kx := q_getf (k := 18) dX9_next_36 klX9 rfl (Nat.le_of_ble_eq_true rfl : 18 < 35) k5_231 rfl ha rfl kk
theorem wX9_next_36u {o : Nat} {m : Nat → Int32} (kk : QW V iX9_next 39 [a0] (.int (m 18) :: st) (q_up h o (.inr (10, q_MF o m))) z bc bs Kr Kx) : QW V iX9_next 36 [a0] (.ref o :: st) (q_up h o (.inr (10, q_MF o m))) z bc bs Kr Kx := wX9_next_36 q_up_s kk
theorem dX9_next_39 : decode (i_b iX9_next) 39 = .ok (.iconst 1, 1) := by decide +kernel
theorem wX9_next_39  (kk : QW V iX9_next 40 [a0] (.int (1) :: st) h z bc bs Kr Kx) : QW V iX9_next 39 [a0] (st) h z bc bs Kr Kx := q_iconst dX9_next_39 (by decide) kk
theorem dX9_next_40 : decode (i_b iX9_next) 40 = .ok (.iadd, 1) := by decide +kernel
theorem wX9_next_40 {x y : Int32} (kk : QW V iX9_next 41 [a0] (.int (x + y) :: st) h z bc bs Kr Kx) : QW V iX9_next 40 [a0] (.int y :: .int x :: st) h z bc bs Kr Kx := q_iadd dX9_next_40 kk
theorem dX9_next_41 : decode (i_b iX9_next) 41 = .ok (.putfield 91, 3) := by decide +kernel
theorem wX9_next_41 {o : Nat} {m : Nat → Int32} {x : Int32} (ha : h o = some (.inr (10, q_MF o m))) (kk : QW V iX9_next 44 [a0] (st) (q_up h o (.inr (10, q_MF o (upd m 18 x)))) z bc bs Kr Kx) : QW V iX9_next 41 [a0] (.int x :: .ref o :: st) h z bc bs Kr Kx := q_putf (k := 18) tyX9 dX9_next_41 klX9 tyX9_ok nmX9 rfl (Nat.le_of_ble_eq_true rfl : 18 < 35) k5_231 rfl rfl rfl rfl (Nat.le_of_ble_eq_true rfl) ha (by rw [q_MF_18]; exact kk)
theorem wX9_next_41u {o : Nat} {m : Nat → Int32} {x : Int32} (kk : QW V iX9_next 44 [a0] (st) (q_up h o (.inr (10, q_MF o (upd m 18 x)))) z bc bs Kr Kx) : QW V iX9_next 41 [a0] (.int x :: .ref o :: st) (q_up h o (.inr (10, q_MF o m))) z bc bs Kr Kx := wX9_next_41 q_up_s (by rw [q_up_u]; exact kk)
theorem dX9_next_44 : decode (i_b iX9_next) 44 = .ok (.goto (-36), 3) := by decide +kernel
theorem wX9_next_44  (kk : QW V iX9_next 8 [a0] (st) h z bc bs Kr Kx) : QW V iX9_next 44 [a0] (st) h z bc bs Kr Kx := q_goto dX9_next_44 (by decide) kk
theorem dX9_next_47 : decode (i_b iX9_next) 47 = .ok (.aload_n 0, 1) := by decide +kernel
theorem wX9_next_47 {x : Nat} (kk : QW V iX9_next 48 [some (.ref x)] (.ref x :: st) h z bc bs Kr Kx) : QW V iX9_next 47 [some (.ref x)] (st) h z bc bs Kr Kx := q_aload_n dX9_next_47 rfl rfl kk
theorem dX9_next_48 : decode (i_b iX9_next) 48 = .ok (.aload_n 0, 1) := by decide +kernel
theorem wX9_next_48 {x : Nat} (kk : QW V iX9_next 49 [some (.ref x)] (.ref x :: st) h z bc bs Kr Kx) : QW V iX9_next 48 [some (.ref x)] (st) h z bc bs Kr Kx := q_aload_n dX9_next_48 rfl rfl kk
theorem dX9_next_49 : decode (i_b iX9_next) 49 = .ok (.getfield 91, 3) := by decide +kernel
theorem wX9_next_49 {o : Nat} {m : Nat → Int32} (ha : h o = some (.inr (10, q_MF o m))) (kk : QW V iX9_next 52 [a0] (.int (m 18) :: st) h z bc bs Kr Kx) : QW V iX9_next 49 [a0] (.ref o :: st) h z bc bs Kr Kx := q_getf (k := 18) dX9_next_49 klX9 rfl (Nat.le_of_ble_eq_true rfl : 18 < 35) k5_231 rfl ha rfl kk
theorem wX9_next_49u {o : Nat} {m : Nat → Int32} (kk : QW V iX9_next 52 [a0] (.int (m 18) :: st) (q_up h o (.inr (10, q_MF o m))) z bc bs Kr Kx) : QW V iX9_next 49 [a0] (.ref o :: st) (q_up h o (.inr (10, q_MF o m))) z bc bs Kr Kx := wX9_next_49 q_up_s kk
theorem dX9_next_52 : decode (i_b iX9_next) 52 = .ok (.putfield 94, 3) := by decide +kernel
theorem wX9_next_52 {o : Nat} {m : Nat → Int32} {x : Int32} (ha : h o = some (.inr (10, q_MF o m))) (kk : QW V iX9_next 55 [a0] (st) (q_up h o (.inr (10, q_MF o (upd m 19 x)))) z bc bs Kr Kx) : QW V iX9_next 52 [a0] (.int x :: .ref o :: st) h z bc bs Kr Kx := q_putf (k := 19) tyX9 dX9_next_52 klX9 tyX9_ok nmX9 rfl (Nat.le_of_ble_eq_true rfl : 19 < 35) k5_232 rfl rfl rfl rfl (Nat.le_of_ble_eq_true rfl) ha (by rw [q_MF_19]; exact kk)
theorem wX9_next_52u {o : Nat} {m : Nat → Int32} {x : Int32} (kk : QW V iX9_next 55 [a0] (st) (q_up h o (.inr (10, q_MF o (upd m 19 x)))) z bc bs Kr Kx) : QW V iX9_next 52 [a0] (.int x :: .ref o :: st) (q_up h o (.inr (10, q_MF o m))) z bc bs Kr Kx := wX9_next_52 q_up_s (by rw [q_up_u]; exact kk)
theorem dX9_next_55 : decode (i_b iX9_next) 55 = .ok (.aload_n 0, 1) := by decide +kernel
theorem wX9_next_55 {x : Nat} (kk : QW V iX9_next 56 [some (.ref x)] (.ref x :: st) h z bc bs Kr Kx) : QW V iX9_next 55 [some (.ref x)] (st) h z bc bs Kr Kx := q_aload_n dX9_next_55 rfl rfl kk
theorem dX9_next_56 : decode (i_b iX9_next) 56 = .ok (.getfield 91, 3) := by decide +kernel
theorem wX9_next_56 {o : Nat} {m : Nat → Int32} (ha : h o = some (.inr (10, q_MF o m))) (kk : QW V iX9_next 59 [a0] (.int (m 18) :: st) h z bc bs Kr Kx) : QW V iX9_next 56 [a0] (.ref o :: st) h z bc bs Kr Kx := q_getf (k := 18) dX9_next_56 klX9 rfl (Nat.le_of_ble_eq_true rfl : 18 < 35) k5_231 rfl ha rfl kk
theorem wX9_next_56u {o : Nat} {m : Nat → Int32} (kk : QW V iX9_next 59 [a0] (.int (m 18) :: st) (q_up h o (.inr (10, q_MF o m))) z bc bs Kr Kx) : QW V iX9_next 56 [a0] (.ref o :: st) (q_up h o (.inr (10, q_MF o m))) z bc bs Kr Kx := wX9_next_56 q_up_s kk
theorem dX9_next_59 : decode (i_b iX9_next) 59 = .ok (.aload_n 0, 1) := by decide +kernel
theorem wX9_next_59 {x : Nat} (kk : QW V iX9_next 60 [some (.ref x)] (.ref x :: st) h z bc bs Kr Kx) : QW V iX9_next 59 [some (.ref x)] (st) h z bc bs Kr Kx := q_aload_n dX9_next_59 rfl rfl kk
theorem dX9_next_60 : decode (i_b iX9_next) 60 = .ok (.getfield 69, 3) := by decide +kernel
theorem wX9_next_60 {o : Nat} {m : Nat → Int32} (ha : h o = some (.inr (10, q_MF o m))) (kk : QW V iX9_next 63 [a0] (.int (m 17) :: st) h z bc bs Kr Kx) : QW V iX9_next 60 [a0] (.ref o :: st) h z bc bs Kr Kx := q_getf (k := 17) dX9_next_60 klX9 rfl (Nat.le_of_ble_eq_true rfl : 17 < 35) k5_230 rfl ha rfl kk
theorem wX9_next_60u {o : Nat} {m : Nat → Int32} (kk : QW V iX9_next 63 [a0] (.int (m 17) :: st) (q_up h o (.inr (10, q_MF o m))) z bc bs Kr Kx) : QW V iX9_next 60 [a0] (.ref o :: st) (q_up h o (.inr (10, q_MF o m))) z bc bs Kr Kx := wX9_next_60 q_up_s kk
theorem dX9_next_63 : decode (i_b iX9_next) 63 = .ok (.if_icmp .ne 11, 3) := by decide +kernel
theorem wX9_next_63 {x y : Int32} (kt : ¬ x = y → QW V iX9_next 74 [a0] (st) h z bc bs Kr Kx) (kf : x = y → QW V iX9_next 66 [a0] (st) h z bc bs Kr Kx) : QW V iX9_next 63 [a0] (.int y :: .int x :: st) h z bc bs Kr Kx := q_icmp_ne dX9_next_63 (by decide) kt kf
theorem dX9_next_66 : decode (i_b iX9_next) 66 = .ok (.aload_n 0, 1) := by decide +kernel
theorem wX9_next_66 {x : Nat} (kk : QW V iX9_next 67 [some (.ref x)] (.ref x :: st) h z bc bs Kr Kx) : QW V iX9_next 66 [some (.ref x)] (st) h z bc bs Kr Kx := q_aload_n dX9_next_66 rfl rfl kk
theorem dX9_next_67 : decode (i_b iX9_next) 67 = .ok (.iconst 0, 1) := by decide +kernel
theorem wX9_next_67  (kk : QW V iX9_next 68 [a0] (.int (0) :: st) h z bc bs Kr Kx) : QW V iX9_next 67 [a0] (st) h z bc bs Kr Kx := q_iconst dX9_next_67 (by decide) kk
theorem dX9_next_68 : decode (i_b iX9_next) 68 = .ok (.putfield 97, 3) := by decide +kernel
theorem wX9_next_68 {o : Nat} {m : Nat → Int32} {x : Int32} (ha : h o = some (.inr (10, q_MF o m))) (kk : QW V iX9_next 71 [a0] (st) (q_up h o (.inr (10, q_MF o (upd m 20 x)))) z bc bs Kr Kx) : QW V iX9_next 68 [a0] (.int x :: .ref o :: st) h z bc bs Kr Kx := q_putf (k := 20) tyX9 dX9_next_68 klX9 tyX9_ok nmX9 rfl (Nat.le_of_ble_eq_true rfl : 20 < 35) k5_233 rfl rfl rfl rfl (Nat.le_of_ble_eq_true rfl) ha (by rw [q_MF_20]; exact kk)
theorem wX9_next_68u {o : Nat} {m : Nat → Int32} {x : Int32} (kk : QW V iX9_next 71 [a0] (st) (q_up h o (.inr (10, q_MF o (upd m 20 x)))) z bc bs Kr Kx) : QW V iX9_next 68 [a0] (.int x :: .ref o :: st) (q_up h o (.inr (10, q_MF o m))) z bc bs Kr Kx := wX9_next_68 q_up_s (by rw [q_up_u]; exact kk)
theorem dX9_next_71 : decode (i_b iX9_next) 71 = .ok (.goto 181, 3) := by decide +kernel
theorem wX9_next_71  (kk : QW V iX9_next 252 [a0] (st) h z bc bs Kr Kx) : QW V iX9_next 71 [a0] (st) h z bc bs Kr Kx := q_goto dX9_next_71 (by decide) kk
theorem dX9_next_74 : decode (i_b iX9_next) 74 = .ok (.aload_n 0, 1) := by decide +kernel
theorem wX9_next_74 {x : Nat} (kk : QW V iX9_next 75 [some (.ref x)] (.ref x :: st) h z bc bs Kr Kx) : QW V iX9_next 74 [some (.ref x)] (st) h z bc bs Kr Kx := q_aload_n dX9_next_74 rfl rfl kk
theorem dX9_next_75 : decode (i_b iX9_next) 75 = .ok (.aload_n 0, 1) := by decide +kernel
theorem wX9_next_75 {x : Nat} (kk : QW V iX9_next 76 [some (.ref x)] (.ref x :: st) h z bc bs Kr Kx) : QW V iX9_next 75 [some (.ref x)] (st) h z bc bs Kr Kx := q_aload_n dX9_next_75 rfl rfl kk
theorem dX9_next_76 : decode (i_b iX9_next) 76 = .ok (.getfield 91, 3) := by decide +kernel
theorem wX9_next_76 {o : Nat} {m : Nat → Int32} (ha : h o = some (.inr (10, q_MF o m))) (kk : QW V iX9_next 79 [a0] (.int (m 18) :: st) h z bc bs Kr Kx) : QW V iX9_next 76 [a0] (.ref o :: st) h z bc bs Kr Kx := q_getf (k := 18) dX9_next_76 klX9 rfl (Nat.le_of_ble_eq_true rfl : 18 < 35) k5_231 rfl ha rfl kk
theorem wX9_next_76u {o : Nat} {m : Nat → Int32} (kk : QW V iX9_next 79 [a0] (.int (m 18) :: st) (q_up h o (.inr (10, q_MF o m))) z bc bs Kr Kx) : QW V iX9_next 76 [a0] (.ref o :: st) (q_up h o (.inr (10, q_MF o m))) z bc bs Kr Kx := wX9_next_76 q_up_s kk
theorem dX9_next_79 : decode (i_b iX9_next) 79 = .ok (.invokevirtual 100, 3) := by decide +kernel
theorem wX9_next_79 {a : Nat} {fs : List Value} {x0 : Int32} (hb : h a = some (.inr (10, fs))) (hm : QMi V iX9_isLetterAt [.ref a, .int x0] h z (fun r h' z' => QW V iX9_next 82 [a0] (.int r :: st) h' z' bc bs Kr Kx) Kx) (hW : (st.map fun v => v.category).sum ≤ 8 := by exact Nat.le_of_ble_eq_true rfl) : QW V iX9_next 79 [a0] (.int x0 :: .ref a :: st) h z bc bs Kr Kx := q_callV (y' := iX9_isLetterAt) (As := [.int x0]) (rest := st) dX9_next_79 k6_115 k6_117 ks_41 k1_10 hhX9_isLetterAt rfl hdX9_isLetterAt rfl rfl (Nat.le_of_ble_eq_true rfl) (Nat.le_of_ble_eq_true rfl) hW rfl hb (QMi.run hm)
theorem dX9_next_82 : decode (i_b iX9_next) 82 = .ok (.ifCond .eq 35, 3) := by decide +kernel
theorem wX9_next_82 {x : Int32} (kt : x = 0 → QW V iX9_next 117 [a0] (st) h z bc bs Kr Kx) (kf : ¬ x = 0 → QW V iX9_next 85 [a0] (st) h z bc bs Kr Kx) : QW V iX9_next 82 [a0] (.int x :: st) h z bc bs Kr Kx := q_if_eq dX9_next_82 (by decide) kt kf
theorem dX9_next_85 : decode (i_b iX9_next) 85 = .ok (.aload_n 0, 1) := by decide +kernel
theorem wX9_next_85 {x : Nat} (kk : QW V iX9_next 86 [some (.ref x)] (.ref x :: st) h z bc bs Kr Kx) : QW V iX9_next 85 [some (.ref x)] (st) h z bc bs Kr Kx := q_aload_n dX9_next_85 rfl rfl kk
theorem dX9_next_86 : decode (i_b iX9_next) 86 = .ok (.aload_n 0, 1) := by decide +kernel
theorem wX9_next_86 {x : Nat} (kk : QW V iX9_next 87 [some (.ref x)] (.ref x :: st) h z bc bs Kr Kx) : QW V iX9_next 86 [some (.ref x)] (st) h z bc bs Kr Kx := q_aload_n dX9_next_86 rfl rfl kk
theorem dX9_next_87 : decode (i_b iX9_next) 87 = .ok (.getfield 91, 3) := by decide +kernel
theorem wX9_next_87 {o : Nat} {m : Nat → Int32} (ha : h o = some (.inr (10, q_MF o m))) (kk : QW V iX9_next 90 [a0] (.int (m 18) :: st) h z bc bs Kr Kx) : QW V iX9_next 87 [a0] (.ref o :: st) h z bc bs Kr Kx := q_getf (k := 18) dX9_next_87 klX9 rfl (Nat.le_of_ble_eq_true rfl : 18 < 35) k5_231 rfl ha rfl kk
theorem wX9_next_87u {o : Nat} {m : Nat → Int32} (kk : QW V iX9_next 90 [a0] (.int (m 18) :: st) (q_up h o (.inr (10, q_MF o m))) z bc bs Kr Kx) : QW V iX9_next 87 [a0] (.ref o :: st) (q_up h o (.inr (10, q_MF o m))) z bc bs Kr Kx := wX9_next_87 q_up_s kk
theorem dX9_next_90 : decode (i_b iX9_next) 90 = .ok (.invokevirtual 100, 3) := by decide +kernel
theorem wX9_next_90 {a : Nat} {fs : List Value} {x0 : Int32} (hb : h a = some (.inr (10, fs))) (hm : QMi V iX9_isLetterAt [.ref a, .int x0] h z (fun r h' z' => QW V iX9_next 93 [a0] (.int r :: st) h' z' bc bs Kr Kx) Kx) (hW : (st.map fun v => v.category).sum ≤ 8 := by exact Nat.le_of_ble_eq_true rfl) : QW V iX9_next 90 [a0] (.int x0 :: .ref a :: st) h z bc bs Kr Kx := q_callV (y' := iX9_isLetterAt) (As := [.int x0]) (rest := st) dX9_next_90 k6_115 k6_117 ks_41 k1_10 hhX9_isLetterAt rfl hdX9_isLetterAt rfl rfl (Nat.le_of_ble_eq_true rfl) (Nat.le_of_ble_eq_true rfl) hW rfl hb (QMi.run hm)
theorem dX9_next_93 : decode (i_b iX9_next) 93 = .ok (.ifCond .eq 16, 3) := by decide +kernel
theorem wX9_next_93 {x : Int32} (kt : x = 0 → QW V iX9_next 109 [a0] (st) h z bc bs Kr Kx) (kf : ¬ x = 0 → QW V iX9_next 96 [a0] (st) h z bc bs Kr Kx) : QW V iX9_next 93 [a0] (.int x :: st) h z bc bs Kr Kx := q_if_eq dX9_next_93 (by decide) kt kf
theorem dX9_next_96 : decode (i_b iX9_next) 96 = .ok (.aload_n 0, 1) := by decide +kernel
theorem wX9_next_96 {x : Nat} (kk : QW V iX9_next 97 [some (.ref x)] (.ref x :: st) h z bc bs Kr Kx) : QW V iX9_next 96 [some (.ref x)] (st) h z bc bs Kr Kx := q_aload_n dX9_next_96 rfl rfl kk
theorem dX9_next_97 : decode (i_b iX9_next) 97 = .ok (.dup, 1) := by decide +kernel
theorem wX9_next_97 {v : Value} (kk : QW V iX9_next 98 [a0] (v :: v :: st) h z bc bs Kr Kx) (hv : v.category = 1 := by rfl) : QW V iX9_next 97 [a0] (v :: st) h z bc bs Kr Kx := q_dup dX9_next_97 hv kk
theorem dX9_next_98 : decode (i_b iX9_next) 98 = .ok (.getfield 91, 3) := by decide +kernel
theorem wX9_next_98 {o : Nat} {m : Nat → Int32} (ha : h o = some (.inr (10, q_MF o m))) (kk : QW V iX9_next 101 [a0] (.int (m 18) :: st) h z bc bs Kr Kx) : QW V iX9_next 98 [a0] (.ref o :: st) h z bc bs Kr Kx := q_getf (k := 18) dX9_next_98 klX9 rfl (Nat.le_of_ble_eq_true rfl : 18 < 35) k5_231 rfl ha rfl kk
theorem wX9_next_98u {o : Nat} {m : Nat → Int32} (kk : QW V iX9_next 101 [a0] (.int (m 18) :: st) (q_up h o (.inr (10, q_MF o m))) z bc bs Kr Kx) : QW V iX9_next 98 [a0] (.ref o :: st) (q_up h o (.inr (10, q_MF o m))) z bc bs Kr Kx := wX9_next_98 q_up_s kk
theorem dX9_next_101 : decode (i_b iX9_next) 101 = .ok (.iconst 1, 1) := by decide +kernel
theorem wX9_next_101  (kk : QW V iX9_next 102 [a0] (.int (1) :: st) h z bc bs Kr Kx) : QW V iX9_next 101 [a0] (st) h z bc bs Kr Kx := q_iconst dX9_next_101 (by decide) kk
theorem dX9_next_102 : decode (i_b iX9_next) 102 = .ok (.iadd, 1) := by decide +kernel
theorem wX9_next_102 {x y : Int32} (kk : QW V iX9_next 103 [a0] (.int (x + y) :: st) h z bc bs Kr Kx) : QW V iX9_next 102 [a0] (.int y :: .int x :: st) h z bc bs Kr Kx := q_iadd dX9_next_102 kk
theorem dX9_next_103 : decode (i_b iX9_next) 103 = .ok (.putfield 91, 3) := by decide +kernel
theorem wX9_next_103 {o : Nat} {m : Nat → Int32} {x : Int32} (ha : h o = some (.inr (10, q_MF o m))) (kk : QW V iX9_next 106 [a0] (st) (q_up h o (.inr (10, q_MF o (upd m 18 x)))) z bc bs Kr Kx) : QW V iX9_next 103 [a0] (.int x :: .ref o :: st) h z bc bs Kr Kx := q_putf (k := 18) tyX9 dX9_next_103 klX9 tyX9_ok nmX9 rfl (Nat.le_of_ble_eq_true rfl : 18 < 35) k5_231 rfl rfl rfl rfl (Nat.le_of_ble_eq_true rfl) ha (by rw [q_MF_18]; exact kk)
theorem wX9_next_103u {o : Nat} {m : Nat → Int32} {x : Int32} (kk : QW V iX9_next 106 [a0] (st) (q_up h o (.inr (10, q_MF o (upd m 18 x)))) z bc bs Kr Kx) : QW V iX9_next 103 [a0] (.int x :: .ref o :: st) (q_up h o (.inr (10, q_MF o m))) z bc bs Kr Kx := wX9_next_103 q_up_s (by rw [q_up_u]; exact kk)
theorem dX9_next_106 : decode (i_b iX9_next) 106 = .ok (.goto (-21), 3) := by decide +kernel
theorem wX9_next_106  (kk : QW V iX9_next 85 [a0] (st) h z bc bs Kr Kx) : QW V iX9_next 106 [a0] (st) h z bc bs Kr Kx := q_goto dX9_next_106 (by decide) kk
theorem dX9_next_109 : decode (i_b iX9_next) 109 = .ok (.aload_n 0, 1) := by decide +kernel
theorem wX9_next_109 {x : Nat} (kk : QW V iX9_next 110 [some (.ref x)] (.ref x :: st) h z bc bs Kr Kx) : QW V iX9_next 109 [some (.ref x)] (st) h z bc bs Kr Kx := q_aload_n dX9_next_109 rfl rfl kk
theorem dX9_next_110 : decode (i_b iX9_next) 110 = .ok (.iconst 2, 1) := by decide +kernel
theorem wX9_next_110  (kk : QW V iX9_next 111 [a0] (.int (2) :: st) h z bc bs Kr Kx) : QW V iX9_next 110 [a0] (st) h z bc bs Kr Kx := q_iconst dX9_next_110 (by decide) kk
theorem dX9_next_111 : decode (i_b iX9_next) 111 = .ok (.putfield 97, 3) := by decide +kernel
theorem wX9_next_111 {o : Nat} {m : Nat → Int32} {x : Int32} (ha : h o = some (.inr (10, q_MF o m))) (kk : QW V iX9_next 114 [a0] (st) (q_up h o (.inr (10, q_MF o (upd m 20 x)))) z bc bs Kr Kx) : QW V iX9_next 111 [a0] (.int x :: .ref o :: st) h z bc bs Kr Kx := q_putf (k := 20) tyX9 dX9_next_111 klX9 tyX9_ok nmX9 rfl (Nat.le_of_ble_eq_true rfl : 20 < 35) k5_233 rfl rfl rfl rfl (Nat.le_of_ble_eq_true rfl) ha (by rw [q_MF_20]; exact kk)
theorem wX9_next_111u {o : Nat} {m : Nat → Int32} {x : Int32} (kk : QW V iX9_next 114 [a0] (st) (q_up h o (.inr (10, q_MF o (upd m 20 x)))) z bc bs Kr Kx) : QW V iX9_next 111 [a0] (.int x :: .ref o :: st) (q_up h o (.inr (10, q_MF o m))) z bc bs Kr Kx := wX9_next_111 q_up_s (by rw [q_up_u]; exact kk)
theorem dX9_next_114 : decode (i_b iX9_next) 114 = .ok (.goto 138, 3) := by decide +kernel
theorem wX9_next_114  (kk : QW V iX9_next 252 [a0] (st) h z bc bs Kr Kx) : QW V iX9_next 114 [a0] (st) h z bc bs Kr Kx := q_goto dX9_next_114 (by decide) kk
theorem dX9_next_117 : decode (i_b iX9_next) 117 = .ok (.aload_n 0, 1) := by decide +kernel
theorem wX9_next_117 {x : Nat} (kk : QW V iX9_next 118 [some (.ref x)] (.ref x :: st) h z bc bs Kr Kx) : QW V iX9_next 117 [some (.ref x)] (st) h z bc bs Kr Kx := q_aload_n dX9_next_117 rfl rfl kk
theorem dX9_next_118 : decode (i_b iX9_next) 118 = .ok (.aload_n 0, 1) := by decide +kernel
theorem wX9_next_118 {x : Nat} (kk : QW V iX9_next 119 [some (.ref x)] (.ref x :: st) h z bc bs Kr Kx) : QW V iX9_next 118 [some (.ref x)] (st) h z bc bs Kr Kx := q_aload_n dX9_next_118 rfl rfl kk
theorem dX9_next_119 : decode (i_b iX9_next) 119 = .ok (.getfield 91, 3) := by decide +kernel
theorem wX9_next_119 {o : Nat} {m : Nat → Int32} (ha : h o = some (.inr (10, q_MF o m))) (kk : QW V iX9_next 122 [a0] (.int (m 18) :: st) h z bc bs Kr Kx) : QW V iX9_next 119 [a0] (.ref o :: st) h z bc bs Kr Kx := q_getf (k := 18) dX9_next_119 klX9 rfl (Nat.le_of_ble_eq_true rfl : 18 < 35) k5_231 rfl ha rfl kk
theorem wX9_next_119u {o : Nat} {m : Nat → Int32} (kk : QW V iX9_next 122 [a0] (.int (m 18) :: st) (q_up h o (.inr (10, q_MF o m))) z bc bs Kr Kx) : QW V iX9_next 119 [a0] (.ref o :: st) (q_up h o (.inr (10, q_MF o m))) z bc bs Kr Kx := wX9_next_119 q_up_s kk
theorem dX9_next_122 : decode (i_b iX9_next) 122 = .ok (.invokevirtual 104, 3) := by decide +kernel
theorem wX9_next_122 {a : Nat} {fs : List Value} {x0 : Int32} (hb : h a = some (.inr (10, fs))) (hm : QMi V iX9_isDigitAt [.ref a, .int x0] h z (fun r h' z' => QW V iX9_next 125 [a0] (.int r :: st) h' z' bc bs Kr Kx) Kx) (hW : (st.map fun v => v.category).sum ≤ 8 := by exact Nat.le_of_ble_eq_true rfl) : QW V iX9_next 122 [a0] (.int x0 :: .ref a :: st) h z bc bs Kr Kx := q_callV (y' := iX9_isDigitAt) (As := [.int x0]) (rest := st) dX9_next_122 k6_121 k6_123 ks_42 k1_10 hhX9_isDigitAt rfl hdX9_isDigitAt rfl rfl (Nat.le_of_ble_eq_true rfl) (Nat.le_of_ble_eq_true rfl) hW rfl hb (QMi.run hm)
theorem dX9_next_125 : decode (i_b iX9_next) 125 = .ok (.ifCond .eq 95, 3) := by decide +kernel
theorem wX9_next_125 {x : Int32} (kt : x = 0 → QW V iX9_next 220 [a0] (st) h z bc bs Kr Kx) (kf : ¬ x = 0 → QW V iX9_next 128 [a0] (st) h z bc bs Kr Kx) : QW V iX9_next 125 [a0] (.int x :: st) h z bc bs Kr Kx := q_if_eq dX9_next_125 (by decide) kt kf
theorem dX9_next_128 : decode (i_b iX9_next) 128 = .ok (.aload_n 0, 1) := by decide +kernel
theorem wX9_next_128 {x : Nat} (kk : QW V iX9_next 129 [some (.ref x)] (.ref x :: st) h z bc bs Kr Kx) : QW V iX9_next 128 [some (.ref x)] (st) h z bc bs Kr Kx := q_aload_n dX9_next_128 rfl rfl kk
theorem dX9_next_129 : decode (i_b iX9_next) 129 = .ok (.iconst 0, 1) := by decide +kernel
theorem wX9_next_129  (kk : QW V iX9_next 130 [a0] (.int (0) :: st) h z bc bs Kr Kx) : QW V iX9_next 129 [a0] (st) h z bc bs Kr Kx := q_iconst dX9_next_129 (by decide) kk
theorem dX9_next_130 : decode (i_b iX9_next) 130 = .ok (.putfield 107, 3) := by decide +kernel
theorem wX9_next_130 {o : Nat} {m : Nat → Int32} {x : Int32} (ha : h o = some (.inr (10, q_MF o m))) (kk : QW V iX9_next 133 [a0] (st) (q_up h o (.inr (10, q_MF o (upd m 21 x)))) z bc bs Kr Kx) : QW V iX9_next 130 [a0] (.int x :: .ref o :: st) h z bc bs Kr Kx := q_putf (k := 21) tyX9 dX9_next_130 klX9 tyX9_ok nmX9 rfl (Nat.le_of_ble_eq_true rfl : 21 < 35) k5_234 rfl rfl rfl rfl (Nat.le_of_ble_eq_true rfl) ha (by rw [q_MF_21]; exact kk)
theorem wX9_next_130u {o : Nat} {m : Nat → Int32} {x : Int32} (kk : QW V iX9_next 133 [a0] (st) (q_up h o (.inr (10, q_MF o (upd m 21 x)))) z bc bs Kr Kx) : QW V iX9_next 130 [a0] (.int x :: .ref o :: st) (q_up h o (.inr (10, q_MF o m))) z bc bs Kr Kx := wX9_next_130 q_up_s (by rw [q_up_u]; exact kk)
theorem dX9_next_133 : decode (i_b iX9_next) 133 = .ok (.aload_n 0, 1) := by decide +kernel
theorem wX9_next_133 {x : Nat} (kk : QW V iX9_next 134 [some (.ref x)] (.ref x :: st) h z bc bs Kr Kx) : QW V iX9_next 133 [some (.ref x)] (st) h z bc bs Kr Kx := q_aload_n dX9_next_133 rfl rfl kk
theorem dX9_next_134 : decode (i_b iX9_next) 134 = .ok (.aload_n 0, 1) := by decide +kernel
theorem wX9_next_134 {x : Nat} (kk : QW V iX9_next 135 [some (.ref x)] (.ref x :: st) h z bc bs Kr Kx) : QW V iX9_next 134 [some (.ref x)] (st) h z bc bs Kr Kx := q_aload_n dX9_next_134 rfl rfl kk
theorem dX9_next_135 : decode (i_b iX9_next) 135 = .ok (.getfield 91, 3) := by decide +kernel
theorem wX9_next_135 {o : Nat} {m : Nat → Int32} (ha : h o = some (.inr (10, q_MF o m))) (kk : QW V iX9_next 138 [a0] (.int (m 18) :: st) h z bc bs Kr Kx) : QW V iX9_next 135 [a0] (.ref o :: st) h z bc bs Kr Kx := q_getf (k := 18) dX9_next_135 klX9 rfl (Nat.le_of_ble_eq_true rfl : 18 < 35) k5_231 rfl ha rfl kk
theorem wX9_next_135u {o : Nat} {m : Nat → Int32} (kk : QW V iX9_next 138 [a0] (.int (m 18) :: st) (q_up h o (.inr (10, q_MF o m))) z bc bs Kr Kx) : QW V iX9_next 135 [a0] (.ref o :: st) (q_up h o (.inr (10, q_MF o m))) z bc bs Kr Kx := wX9_next_135 q_up_s kk
theorem dX9_next_138 : decode (i_b iX9_next) 138 = .ok (.invokevirtual 104, 3) := by decide +kernel
theorem wX9_next_138 {a : Nat} {fs : List Value} {x0 : Int32} (hb : h a = some (.inr (10, fs))) (hm : QMi V iX9_isDigitAt [.ref a, .int x0] h z (fun r h' z' => QW V iX9_next 141 [a0] (.int r :: st) h' z' bc bs Kr Kx) Kx) (hW : (st.map fun v => v.category).sum ≤ 8 := by exact Nat.le_of_ble_eq_true rfl) : QW V iX9_next 138 [a0] (.int x0 :: .ref a :: st) h z bc bs Kr Kx := q_callV (y' := iX9_isDigitAt) (As := [.int x0]) (rest := st) dX9_next_138 k6_121 k6_123 ks_42 k1_10 hhX9_isDigitAt rfl hdX9_isDigitAt rfl rfl (Nat.le_of_ble_eq_true rfl) (Nat.le_of_ble_eq_true rfl) hW rfl hb (QMi.run hm)
theorem dX9_next_141 : decode (i_b iX9_next) 141 = .ok (.ifCond .eq 53, 3) := by decide +kernel
theorem wX9_next_141 {x : Int32} (kt : x = 0 → QW V iX9_next 194 [a0] (st) h z bc bs Kr Kx) (kf : ¬ x = 0 → QW V iX9_next 144 [a0] (st) h z bc bs Kr Kx) : QW V iX9_next 141 [a0] (.int x :: st) h z bc bs Kr Kx := q_if_eq dX9_next_141 (by decide) kt kf
theorem dX9_next_144 : decode (i_b iX9_next) 144 = .ok (.aload_n 0, 1) := by decide +kernel
theorem wX9_next_144 {x : Nat} (kk : QW V iX9_next 145 [some (.ref x)] (.ref x :: st) h z bc bs Kr Kx) : QW V iX9_next 144 [some (.ref x)] (st) h z bc bs Kr Kx := q_aload_n dX9_next_144 rfl rfl kk
theorem dX9_next_145 : decode (i_b iX9_next) 145 = .ok (.getfield 91, 3) := by decide +kernel
theorem wX9_next_145 {o : Nat} {m : Nat → Int32} (ha : h o = some (.inr (10, q_MF o m))) (kk : QW V iX9_next 148 [a0] (.int (m 18) :: st) h z bc bs Kr Kx) : QW V iX9_next 145 [a0] (.ref o :: st) h z bc bs Kr Kx := q_getf (k := 18) dX9_next_145 klX9 rfl (Nat.le_of_ble_eq_true rfl : 18 < 35) k5_231 rfl ha rfl kk
theorem wX9_next_145u {o : Nat} {m : Nat → Int32} (kk : QW V iX9_next 148 [a0] (.int (m 18) :: st) (q_up h o (.inr (10, q_MF o m))) z bc bs Kr Kx) : QW V iX9_next 145 [a0] (.ref o :: st) (q_up h o (.inr (10, q_MF o m))) z bc bs Kr Kx := wX9_next_145 q_up_s kk
theorem dX9_next_148 : decode (i_b iX9_next) 148 = .ok (.aload_n 0, 1) := by decide +kernel
theorem wX9_next_148 {x : Nat} (kk : QW V iX9_next 149 [some (.ref x)] (.ref x :: st) h z bc bs Kr Kx) : QW V iX9_next 148 [some (.ref x)] (st) h z bc bs Kr Kx := q_aload_n dX9_next_148 rfl rfl kk
theorem dX9_next_149 : decode (i_b iX9_next) 149 = .ok (.getfield 94, 3) := by decide +kernel
theorem wX9_next_149 {o : Nat} {m : Nat → Int32} (ha : h o = some (.inr (10, q_MF o m))) (kk : QW V iX9_next 152 [a0] (.int (m 19) :: st) h z bc bs Kr Kx) : QW V iX9_next 149 [a0] (.ref o :: st) h z bc bs Kr Kx := q_getf (k := 19) dX9_next_149 klX9 rfl (Nat.le_of_ble_eq_true rfl : 19 < 35) k5_232 rfl ha rfl kk
theorem wX9_next_149u {o : Nat} {m : Nat → Int32} (kk : QW V iX9_next 152 [a0] (.int (m 19) :: st) (q_up h o (.inr (10, q_MF o m))) z bc bs Kr Kx) : QW V iX9_next 149 [a0] (.ref o :: st) (q_up h o (.inr (10, q_MF o m))) z bc bs Kr Kx := wX9_next_149 q_up_s kk
theorem dX9_next_152 : decode (i_b iX9_next) 152 = .ok (.isub, 1) := by decide +kernel
theorem wX9_next_152 {x y : Int32} (kk : QW V iX9_next 153 [a0] (.int (x - y) :: st) h z bc bs Kr Kx) : QW V iX9_next 152 [a0] (.int y :: .int x :: st) h z bc bs Kr Kx := q_isub dX9_next_152 kk
theorem dX9_next_153 : decode (i_b iX9_next) 153 = .ok (.bipush 6, 2) := by decide +kernel
theorem wX9_next_153  (kk : QW V iX9_next 155 [a0] (.int (6) :: st) h z bc bs Kr Kx) : QW V iX9_next 153 [a0] (st) h z bc bs Kr Kx := q_bipush dX9_next_153 (by decide) kk
theorem dX9_next_155 : decode (i_b iX9_next) 155 = .ok (.if_icmp .ge 26, 3) := by decide +kernel
theorem wX9_next_155 {x y : Int32} (kt : y ≤ x → QW V iX9_next 181 [a0] (st) h z bc bs Kr Kx) (kf : ¬ y ≤ x → QW V iX9_next 158 [a0] (st) h z bc bs Kr Kx) : QW V iX9_next 155 [a0] (.int y :: .int x :: st) h z bc bs Kr Kx := q_icmp_ge dX9_next_155 (by decide) kt kf
theorem dX9_next_158 : decode (i_b iX9_next) 158 = .ok (.aload_n 0, 1) := by decide +kernel
theorem wX9_next_158 {x : Nat} (kk : QW V iX9_next 159 [some (.ref x)] (.ref x :: st) h z bc bs Kr Kx) : QW V iX9_next 158 [some (.ref x)] (st) h z bc bs Kr Kx := q_aload_n dX9_next_158 rfl rfl kk
theorem dX9_next_159 : decode (i_b iX9_next) 159 = .ok (.bipush 10, 2) := by decide +kernel
theorem wX9_next_159  (kk : QW V iX9_next 161 [a0] (.int (10) :: st) h z bc bs Kr Kx) : QW V iX9_next 159 [a0] (st) h z bc bs Kr Kx := q_bipush dX9_next_159 (by decide) kk
theorem dX9_next_161 : decode (i_b iX9_next) 161 = .ok (.aload_n 0, 1) := by decide +kernel
theorem wX9_next_161 {x : Nat} (kk : QW V iX9_next 162 [some (.ref x)] (.ref x :: st) h z bc bs Kr Kx) : QW V iX9_next 161 [some (.ref x)] (st) h z bc bs Kr Kx := q_aload_n dX9_next_161 rfl rfl kk
theorem dX9_next_162 : decode (i_b iX9_next) 162 = .ok (.getfield 107, 3) := by decide +kernel
theorem wX9_next_162 {o : Nat} {m : Nat → Int32} (ha : h o = some (.inr (10, q_MF o m))) (kk : QW V iX9_next 165 [a0] (.int (m 21) :: st) h z bc bs Kr Kx) : QW V iX9_next 162 [a0] (.ref o :: st) h z bc bs Kr Kx := q_getf (k := 21) dX9_next_162 klX9 rfl (Nat.le_of_ble_eq_true rfl : 21 < 35) k5_234 rfl ha rfl kk
theorem wX9_next_162u {o : Nat} {m : Nat → Int32} (kk : QW V iX9_next 165 [a0] (.int (m 21) :: st) (q_up h o (.inr (10, q_MF o m))) z bc bs Kr Kx) : QW V iX9_next 162 [a0] (.ref o :: st) (q_up h o (.inr (10, q_MF o m))) z bc bs Kr Kx := wX9_next_162 q_up_s kk
theorem dX9_next_165 : decode (i_b iX9_next) 165 = .ok (.imul, 1) := by decide +kernel
theorem wX9_next_165 {x y : Int32} (kk : QW V iX9_next 166 [a0] (.int (x * y) :: st) h z bc bs Kr Kx) : QW V iX9_next 165 [a0] (.int y :: .int x :: st) h z bc bs Kr Kx := q_imul dX9_next_165 kk
theorem dX9_next_166 : decode (i_b iX9_next) 166 = .ok (.aload_n 0, 1) := by decide +kernel
theorem wX9_next_166 {x : Nat} (kk : QW V iX9_next 167 [some (.ref x)] (.ref x :: st) h z bc bs Kr Kx) : QW V iX9_next 166 [some (.ref x)] (st) h z bc bs Kr Kx := q_aload_n dX9_next_166 rfl rfl kk
theorem dX9_next_167 : decode (i_b iX9_next) 167 = .ok (.aload_n 0, 1) := by decide +kernel
theorem wX9_next_167 {x : Nat} (kk : QW V iX9_next 168 [some (.ref x)] (.ref x :: st) h z bc bs Kr Kx) : QW V iX9_next 167 [some (.ref x)] (st) h z bc bs Kr Kx := q_aload_n dX9_next_167 rfl rfl kk
theorem dX9_next_168 : decode (i_b iX9_next) 168 = .ok (.getfield 91, 3) := by decide +kernel
theorem wX9_next_168 {o : Nat} {m : Nat → Int32} (ha : h o = some (.inr (10, q_MF o m))) (kk : QW V iX9_next 171 [a0] (.int (m 18) :: st) h z bc bs Kr Kx) : QW V iX9_next 168 [a0] (.ref o :: st) h z bc bs Kr Kx := q_getf (k := 18) dX9_next_168 klX9 rfl (Nat.le_of_ble_eq_true rfl : 18 < 35) k5_231 rfl ha rfl kk
theorem wX9_next_168u {o : Nat} {m : Nat → Int32} (kk : QW V iX9_next 171 [a0] (.int (m 18) :: st) (q_up h o (.inr (10, q_MF o m))) z bc bs Kr Kx) : QW V iX9_next 168 [a0] (.ref o :: st) (q_up h o (.inr (10, q_MF o m))) z bc bs Kr Kx := wX9_next_168 q_up_s kk
theorem dX9_next_171 : decode (i_b iX9_next) 171 = .ok (.invokevirtual 72, 3) := by decide +kernel
theorem wX9_next_171 {a : Nat} {fs : List Value} {x0 : Int32} (hb : h a = some (.inr (10, fs))) (hm : QMi V iX9_byteAt [.ref a, .int x0] h z (fun r h' z' => QW V iX9_next 174 [a0] (.int r :: st) h' z' bc bs Kr Kx) Kx) (hW : (st.map fun v => v.category).sum ≤ 8 := by exact Nat.le_of_ble_eq_true rfl) : QW V iX9_next 171 [a0] (.int x0 :: .ref a :: st) h z bc bs Kr Kx := q_callV (y' := iX9_byteAt) (As := [.int x0]) (rest := st) dX9_next_171 k6_111 k6_113 ks_40 k1_10 hhX9_byteAt rfl hdX9_byteAt rfl rfl (Nat.le_of_ble_eq_true rfl) (Nat.le_of_ble_eq_true rfl) hW rfl hb (QMi.run hm)
theorem dX9_next_174 : decode (i_b iX9_next) 174 = .ok (.iadd, 1) := by decide +kernel
theorem wX9_next_174 {x y : Int32} (kk : QW V iX9_next 175 [a0] (.int (x + y) :: st) h z bc bs Kr Kx) : QW V iX9_next 174 [a0] (.int y :: .int x :: st) h z bc bs Kr Kx := q_iadd dX9_next_174 kk
theorem dX9_next_175 : decode (i_b iX9_next) 175 = .ok (.bipush 48, 2) := by decide +kernel
theorem wX9_next_175  (kk : QW V iX9_next 177 [a0] (.int (48) :: st) h z bc bs Kr Kx) : QW V iX9_next 175 [a0] (st) h z bc bs Kr Kx := q_bipush dX9_next_175 (by decide) kk
theorem dX9_next_177 : decode (i_b iX9_next) 177 = .ok (.isub, 1) := by decide +kernel
theorem wX9_next_177 {x y : Int32} (kk : QW V iX9_next 178 [a0] (.int (x - y) :: st) h z bc bs Kr Kx) : QW V iX9_next 177 [a0] (.int y :: .int x :: st) h z bc bs Kr Kx := q_isub dX9_next_177 kk
theorem dX9_next_178 : decode (i_b iX9_next) 178 = .ok (.putfield 107, 3) := by decide +kernel
theorem wX9_next_178 {o : Nat} {m : Nat → Int32} {x : Int32} (ha : h o = some (.inr (10, q_MF o m))) (kk : QW V iX9_next 181 [a0] (st) (q_up h o (.inr (10, q_MF o (upd m 21 x)))) z bc bs Kr Kx) : QW V iX9_next 178 [a0] (.int x :: .ref o :: st) h z bc bs Kr Kx := q_putf (k := 21) tyX9 dX9_next_178 klX9 tyX9_ok nmX9 rfl (Nat.le_of_ble_eq_true rfl : 21 < 35) k5_234 rfl rfl rfl rfl (Nat.le_of_ble_eq_true rfl) ha (by rw [q_MF_21]; exact kk)
theorem wX9_next_178u {o : Nat} {m : Nat → Int32} {x : Int32} (kk : QW V iX9_next 181 [a0] (st) (q_up h o (.inr (10, q_MF o (upd m 21 x)))) z bc bs Kr Kx) : QW V iX9_next 178 [a0] (.int x :: .ref o :: st) (q_up h o (.inr (10, q_MF o m))) z bc bs Kr Kx := wX9_next_178 q_up_s (by rw [q_up_u]; exact kk)
theorem dX9_next_181 : decode (i_b iX9_next) 181 = .ok (.aload_n 0, 1) := by decide +kernel
theorem wX9_next_181 {x : Nat} (kk : QW V iX9_next 182 [some (.ref x)] (.ref x :: st) h z bc bs Kr Kx) : QW V iX9_next 181 [some (.ref x)] (st) h z bc bs Kr Kx := q_aload_n dX9_next_181 rfl rfl kk
theorem dX9_next_182 : decode (i_b iX9_next) 182 = .ok (.dup, 1) := by decide +kernel
theorem wX9_next_182 {v : Value} (kk : QW V iX9_next 183 [a0] (v :: v :: st) h z bc bs Kr Kx) (hv : v.category = 1 := by rfl) : QW V iX9_next 182 [a0] (v :: st) h z bc bs Kr Kx := q_dup dX9_next_182 hv kk
theorem dX9_next_183 : decode (i_b iX9_next) 183 = .ok (.getfield 91, 3) := by decide +kernel
theorem wX9_next_183 {o : Nat} {m : Nat → Int32} (ha : h o = some (.inr (10, q_MF o m))) (kk : QW V iX9_next 186 [a0] (.int (m 18) :: st) h z bc bs Kr Kx) : QW V iX9_next 183 [a0] (.ref o :: st) h z bc bs Kr Kx := q_getf (k := 18) dX9_next_183 klX9 rfl (Nat.le_of_ble_eq_true rfl : 18 < 35) k5_231 rfl ha rfl kk
theorem wX9_next_183u {o : Nat} {m : Nat → Int32} (kk : QW V iX9_next 186 [a0] (.int (m 18) :: st) (q_up h o (.inr (10, q_MF o m))) z bc bs Kr Kx) : QW V iX9_next 183 [a0] (.ref o :: st) (q_up h o (.inr (10, q_MF o m))) z bc bs Kr Kx := wX9_next_183 q_up_s kk
theorem dX9_next_186 : decode (i_b iX9_next) 186 = .ok (.iconst 1, 1) := by decide +kernel
theorem wX9_next_186  (kk : QW V iX9_next 187 [a0] (.int (1) :: st) h z bc bs Kr Kx) : QW V iX9_next 186 [a0] (st) h z bc bs Kr Kx := q_iconst dX9_next_186 (by decide) kk
theorem dX9_next_187 : decode (i_b iX9_next) 187 = .ok (.iadd, 1) := by decide +kernel
theorem wX9_next_187 {x y : Int32} (kk : QW V iX9_next 188 [a0] (.int (x + y) :: st) h z bc bs Kr Kx) : QW V iX9_next 187 [a0] (.int y :: .int x :: st) h z bc bs Kr Kx := q_iadd dX9_next_187 kk
theorem dX9_next_188 : decode (i_b iX9_next) 188 = .ok (.putfield 91, 3) := by decide +kernel
theorem wX9_next_188 {o : Nat} {m : Nat → Int32} {x : Int32} (ha : h o = some (.inr (10, q_MF o m))) (kk : QW V iX9_next 191 [a0] (st) (q_up h o (.inr (10, q_MF o (upd m 18 x)))) z bc bs Kr Kx) : QW V iX9_next 188 [a0] (.int x :: .ref o :: st) h z bc bs Kr Kx := q_putf (k := 18) tyX9 dX9_next_188 klX9 tyX9_ok nmX9 rfl (Nat.le_of_ble_eq_true rfl : 18 < 35) k5_231 rfl rfl rfl rfl (Nat.le_of_ble_eq_true rfl) ha (by rw [q_MF_18]; exact kk)
theorem wX9_next_188u {o : Nat} {m : Nat → Int32} {x : Int32} (kk : QW V iX9_next 191 [a0] (st) (q_up h o (.inr (10, q_MF o (upd m 18 x)))) z bc bs Kr Kx) : QW V iX9_next 188 [a0] (.int x :: .ref o :: st) (q_up h o (.inr (10, q_MF o m))) z bc bs Kr Kx := wX9_next_188 q_up_s (by rw [q_up_u]; exact kk)
theorem dX9_next_191 : decode (i_b iX9_next) 191 = .ok (.goto (-58), 3) := by decide +kernel
theorem wX9_next_191  (kk : QW V iX9_next 133 [a0] (st) h z bc bs Kr Kx) : QW V iX9_next 191 [a0] (st) h z bc bs Kr Kx := q_goto dX9_next_191 (by decide) kk
theorem dX9_next_194 : decode (i_b iX9_next) 194 = .ok (.aload_n 0, 1) := by decide +kernel
theorem wX9_next_194 {x : Nat} (kk : QW V iX9_next 195 [some (.ref x)] (.ref x :: st) h z bc bs Kr Kx) : QW V iX9_next 194 [some (.ref x)] (st) h z bc bs Kr Kx := q_aload_n dX9_next_194 rfl rfl kk
theorem dX9_next_195 : decode (i_b iX9_next) 195 = .ok (.aload_n 0, 1) := by decide +kernel
theorem wX9_next_195 {x : Nat} (kk : QW V iX9_next 196 [some (.ref x)] (.ref x :: st) h z bc bs Kr Kx) : QW V iX9_next 195 [some (.ref x)] (st) h z bc bs Kr Kx := q_aload_n dX9_next_195 rfl rfl kk
theorem dX9_next_196 : decode (i_b iX9_next) 196 = .ok (.getfield 91, 3) := by decide +kernel
theorem wX9_next_196 {o : Nat} {m : Nat → Int32} (ha : h o = some (.inr (10, q_MF o m))) (kk : QW V iX9_next 199 [a0] (.int (m 18) :: st) h z bc bs Kr Kx) : QW V iX9_next 196 [a0] (.ref o :: st) h z bc bs Kr Kx := q_getf (k := 18) dX9_next_196 klX9 rfl (Nat.le_of_ble_eq_true rfl : 18 < 35) k5_231 rfl ha rfl kk
theorem wX9_next_196u {o : Nat} {m : Nat → Int32} (kk : QW V iX9_next 199 [a0] (.int (m 18) :: st) (q_up h o (.inr (10, q_MF o m))) z bc bs Kr Kx) : QW V iX9_next 196 [a0] (.ref o :: st) (q_up h o (.inr (10, q_MF o m))) z bc bs Kr Kx := wX9_next_196 q_up_s kk
theorem dX9_next_199 : decode (i_b iX9_next) 199 = .ok (.aload_n 0, 1) := by decide +kernel
theorem wX9_next_199 {x : Nat} (kk : QW V iX9_next 200 [some (.ref x)] (.ref x :: st) h z bc bs Kr Kx) : QW V iX9_next 199 [some (.ref x)] (st) h z bc bs Kr Kx := q_aload_n dX9_next_199 rfl rfl kk
theorem dX9_next_200 : decode (i_b iX9_next) 200 = .ok (.getfield 94, 3) := by decide +kernel
theorem wX9_next_200 {o : Nat} {m : Nat → Int32} (ha : h o = some (.inr (10, q_MF o m))) (kk : QW V iX9_next 203 [a0] (.int (m 19) :: st) h z bc bs Kr Kx) : QW V iX9_next 200 [a0] (.ref o :: st) h z bc bs Kr Kx := q_getf (k := 19) dX9_next_200 klX9 rfl (Nat.le_of_ble_eq_true rfl : 19 < 35) k5_232 rfl ha rfl kk
theorem wX9_next_200u {o : Nat} {m : Nat → Int32} (kk : QW V iX9_next 203 [a0] (.int (m 19) :: st) (q_up h o (.inr (10, q_MF o m))) z bc bs Kr Kx) : QW V iX9_next 200 [a0] (.ref o :: st) (q_up h o (.inr (10, q_MF o m))) z bc bs Kr Kx := wX9_next_200 q_up_s kk
theorem dX9_next_203 : decode (i_b iX9_next) 203 = .ok (.isub, 1) := by decide +kernel
theorem wX9_next_203 {x y : Int32} (kk : QW V iX9_next 204 [a0] (.int (x - y) :: st) h z bc bs Kr Kx) : QW V iX9_next 203 [a0] (.int y :: .int x :: st) h z bc bs Kr Kx := q_isub dX9_next_203 kk
theorem dX9_next_204 : decode (i_b iX9_next) 204 = .ok (.bipush 6, 2) := by decide +kernel
theorem wX9_next_204  (kk : QW V iX9_next 206 [a0] (.int (6) :: st) h z bc bs Kr Kx) : QW V iX9_next 204 [a0] (st) h z bc bs Kr Kx := q_bipush dX9_next_204 (by decide) kk
theorem dX9_next_206 : decode (i_b iX9_next) 206 = .ok (.if_icmp .le 7, 3) := by decide +kernel
theorem wX9_next_206 {x y : Int32} (kt : x ≤ y → QW V iX9_next 213 [a0] (st) h z bc bs Kr Kx) (kf : ¬ x ≤ y → QW V iX9_next 209 [a0] (st) h z bc bs Kr Kx) : QW V iX9_next 206 [a0] (.int y :: .int x :: st) h z bc bs Kr Kx := q_icmp_le dX9_next_206 (by decide) kt kf
theorem dX9_next_209 : decode (i_b iX9_next) 209 = .ok (.iconst 1, 1) := by decide +kernel
theorem wX9_next_209  (kk : QW V iX9_next 210 [a0] (.int (1) :: st) h z bc bs Kr Kx) : QW V iX9_next 209 [a0] (st) h z bc bs Kr Kx := q_iconst dX9_next_209 (by decide) kk
theorem dX9_next_210 : decode (i_b iX9_next) 210 = .ok (.goto 4, 3) := by decide +kernel
theorem wX9_next_210  (kk : QW V iX9_next 214 [a0] (st) h z bc bs Kr Kx) : QW V iX9_next 210 [a0] (st) h z bc bs Kr Kx := q_goto dX9_next_210 (by decide) kk
theorem dX9_next_213 : decode (i_b iX9_next) 213 = .ok (.iconst 3, 1) := by decide +kernel
theorem wX9_next_213  (kk : QW V iX9_next 214 [a0] (.int (3) :: st) h z bc bs Kr Kx) : QW V iX9_next 213 [a0] (st) h z bc bs Kr Kx := q_iconst dX9_next_213 (by decide) kk
theorem dX9_next_214 : decode (i_b iX9_next) 214 = .ok (.putfield 97, 3) := by decide +kernel
theorem wX9_next_214 {o : Nat} {m : Nat → Int32} {x : Int32} (ha : h o = some (.inr (10, q_MF o m))) (kk : QW V iX9_next 217 [a0] (st) (q_up h o (.inr (10, q_MF o (upd m 20 x)))) z bc bs Kr Kx) : QW V iX9_next 214 [a0] (.int x :: .ref o :: st) h z bc bs Kr Kx := q_putf (k := 20) tyX9 dX9_next_214 klX9 tyX9_ok nmX9 rfl (Nat.le_of_ble_eq_true rfl : 20 < 35) k5_233 rfl rfl rfl rfl (Nat.le_of_ble_eq_true rfl) ha (by rw [q_MF_20]; exact kk)
theorem wX9_next_214u {o : Nat} {m : Nat → Int32} {x : Int32} (kk : QW V iX9_next 217 [a0] (st) (q_up h o (.inr (10, q_MF o (upd m 20 x)))) z bc bs Kr Kx) : QW V iX9_next 214 [a0] (.int x :: .ref o :: st) (q_up h o (.inr (10, q_MF o m))) z bc bs Kr Kx := wX9_next_214 q_up_s (by rw [q_up_u]; exact kk)
theorem dX9_next_217 : decode (i_b iX9_next) 217 = .ok (.goto 35, 3) := by decide +kernel
theorem wX9_next_217  (kk : QW V iX9_next 252 [a0] (st) h z bc bs Kr Kx) : QW V iX9_next 217 [a0] (st) h z bc bs Kr Kx := q_goto dX9_next_217 (by decide) kk
theorem dX9_next_220 : decode (i_b iX9_next) 220 = .ok (.aload_n 0, 1) := by decide +kernel
theorem wX9_next_220 {x : Nat} (kk : QW V iX9_next 221 [some (.ref x)] (.ref x :: st) h z bc bs Kr Kx) : QW V iX9_next 220 [some (.ref x)] (st) h z bc bs Kr Kx := q_aload_n dX9_next_220 rfl rfl kk
theorem dX9_next_221 : decode (i_b iX9_next) 221 = .ok (.aload_n 0, 1) := by decide +kernel
theorem wX9_next_221 {x : Nat} (kk : QW V iX9_next 222 [some (.ref x)] (.ref x :: st) h z bc bs Kr Kx) : QW V iX9_next 221 [some (.ref x)] (st) h z bc bs Kr Kx := q_aload_n dX9_next_221 rfl rfl kk
theorem dX9_next_222 : decode (i_b iX9_next) 222 = .ok (.aload_n 0, 1) := by decide +kernel
theorem wX9_next_222 {x : Nat} (kk : QW V iX9_next 223 [some (.ref x)] (.ref x :: st) h z bc bs Kr Kx) : QW V iX9_next 222 [some (.ref x)] (st) h z bc bs Kr Kx := q_aload_n dX9_next_222 rfl rfl kk
theorem dX9_next_223 : decode (i_b iX9_next) 223 = .ok (.getfield 91, 3) := by decide +kernel
theorem wX9_next_223 {o : Nat} {m : Nat → Int32} (ha : h o = some (.inr (10, q_MF o m))) (kk : QW V iX9_next 226 [a0] (.int (m 18) :: st) h z bc bs Kr Kx) : QW V iX9_next 223 [a0] (.ref o :: st) h z bc bs Kr Kx := q_getf (k := 18) dX9_next_223 klX9 rfl (Nat.le_of_ble_eq_true rfl : 18 < 35) k5_231 rfl ha rfl kk
theorem wX9_next_223u {o : Nat} {m : Nat → Int32} (kk : QW V iX9_next 226 [a0] (.int (m 18) :: st) (q_up h o (.inr (10, q_MF o m))) z bc bs Kr Kx) : QW V iX9_next 223 [a0] (.ref o :: st) (q_up h o (.inr (10, q_MF o m))) z bc bs Kr Kx := wX9_next_223 q_up_s kk
theorem dX9_next_226 : decode (i_b iX9_next) 226 = .ok (.invokevirtual 72, 3) := by decide +kernel
theorem wX9_next_226 {a : Nat} {fs : List Value} {x0 : Int32} (hb : h a = some (.inr (10, fs))) (hm : QMi V iX9_byteAt [.ref a, .int x0] h z (fun r h' z' => QW V iX9_next 229 [a0] (.int r :: st) h' z' bc bs Kr Kx) Kx) (hW : (st.map fun v => v.category).sum ≤ 8 := by exact Nat.le_of_ble_eq_true rfl) : QW V iX9_next 226 [a0] (.int x0 :: .ref a :: st) h z bc bs Kr Kx := q_callV (y' := iX9_byteAt) (As := [.int x0]) (rest := st) dX9_next_226 k6_111 k6_113 ks_40 k1_10 hhX9_byteAt rfl hdX9_byteAt rfl rfl (Nat.le_of_ble_eq_true rfl) (Nat.le_of_ble_eq_true rfl) hW rfl hb (QMi.run hm)
theorem dX9_next_229 : decode (i_b iX9_next) 229 = .ok (.bipush 59, 2) := by decide +kernel
theorem wX9_next_229  (kk : QW V iX9_next 231 [a0] (.int (59) :: st) h z bc bs Kr Kx) : QW V iX9_next 229 [a0] (st) h z bc bs Kr Kx := q_bipush dX9_next_229 (by decide) kk
theorem dX9_next_231 : decode (i_b iX9_next) 231 = .ok (.if_icmp .ne 7, 3) := by decide +kernel
theorem wX9_next_231 {x y : Int32} (kt : ¬ x = y → QW V iX9_next 238 [a0] (st) h z bc bs Kr Kx) (kf : x = y → QW V iX9_next 234 [a0] (st) h z bc bs Kr Kx) : QW V iX9_next 231 [a0] (.int y :: .int x :: st) h z bc bs Kr Kx := q_icmp_ne dX9_next_231 (by decide) kt kf
theorem dX9_next_234 : decode (i_b iX9_next) 234 = .ok (.iconst 4, 1) := by decide +kernel
theorem wX9_next_234  (kk : QW V iX9_next 235 [a0] (.int (4) :: st) h z bc bs Kr Kx) : QW V iX9_next 234 [a0] (st) h z bc bs Kr Kx := q_iconst dX9_next_234 (by decide) kk
theorem dX9_next_235 : decode (i_b iX9_next) 235 = .ok (.goto 4, 3) := by decide +kernel
theorem wX9_next_235  (kk : QW V iX9_next 239 [a0] (st) h z bc bs Kr Kx) : QW V iX9_next 235 [a0] (st) h z bc bs Kr Kx := q_goto dX9_next_235 (by decide) kk
theorem dX9_next_238 : decode (i_b iX9_next) 238 = .ok (.iconst 1, 1) := by decide +kernel
theorem wX9_next_238  (kk : QW V iX9_next 239 [a0] (.int (1) :: st) h z bc bs Kr Kx) : QW V iX9_next 238 [a0] (st) h z bc bs Kr Kx := q_iconst dX9_next_238 (by decide) kk
theorem dX9_next_239 : decode (i_b iX9_next) 239 = .ok (.putfield 97, 3) := by decide +kernel
theorem wX9_next_239 {o : Nat} {m : Nat → Int32} {x : Int32} (ha : h o = some (.inr (10, q_MF o m))) (kk : QW V iX9_next 242 [a0] (st) (q_up h o (.inr (10, q_MF o (upd m 20 x)))) z bc bs Kr Kx) : QW V iX9_next 239 [a0] (.int x :: .ref o :: st) h z bc bs Kr Kx := q_putf (k := 20) tyX9 dX9_next_239 klX9 tyX9_ok nmX9 rfl (Nat.le_of_ble_eq_true rfl : 20 < 35) k5_233 rfl rfl rfl rfl (Nat.le_of_ble_eq_true rfl) ha (by rw [q_MF_20]; exact kk)
theorem wX9_next_239u {o : Nat} {m : Nat → Int32} {x : Int32} (kk : QW V iX9_next 242 [a0] (st) (q_up h o (.inr (10, q_MF o (upd m 20 x)))) z bc bs Kr Kx) : QW V iX9_next 239 [a0] (.int x :: .ref o :: st) (q_up h o (.inr (10, q_MF o m))) z bc bs Kr Kx := wX9_next_239 q_up_s (by rw [q_up_u]; exact kk)
theorem dX9_next_242 : decode (i_b iX9_next) 242 = .ok (.aload_n 0, 1) := by decide +kernel
theorem wX9_next_242 {x : Nat} (kk : QW V iX9_next 243 [some (.ref x)] (.ref x :: st) h z bc bs Kr Kx) : QW V iX9_next 242 [some (.ref x)] (st) h z bc bs Kr Kx := q_aload_n dX9_next_242 rfl rfl kk
theorem dX9_next_243 : decode (i_b iX9_next) 243 = .ok (.dup, 1) := by decide +kernel
theorem wX9_next_243 {v : Value} (kk : QW V iX9_next 244 [a0] (v :: v :: st) h z bc bs Kr Kx) (hv : v.category = 1 := by rfl) : QW V iX9_next 243 [a0] (v :: st) h z bc bs Kr Kx := q_dup dX9_next_243 hv kk
theorem dX9_next_244 : decode (i_b iX9_next) 244 = .ok (.getfield 91, 3) := by decide +kernel
theorem wX9_next_244 {o : Nat} {m : Nat → Int32} (ha : h o = some (.inr (10, q_MF o m))) (kk : QW V iX9_next 247 [a0] (.int (m 18) :: st) h z bc bs Kr Kx) : QW V iX9_next 244 [a0] (.ref o :: st) h z bc bs Kr Kx := q_getf (k := 18) dX9_next_244 klX9 rfl (Nat.le_of_ble_eq_true rfl : 18 < 35) k5_231 rfl ha rfl kk
theorem wX9_next_244u {o : Nat} {m : Nat → Int32} (kk : QW V iX9_next 247 [a0] (.int (m 18) :: st) (q_up h o (.inr (10, q_MF o m))) z bc bs Kr Kx) : QW V iX9_next 244 [a0] (.ref o :: st) (q_up h o (.inr (10, q_MF o m))) z bc bs Kr Kx := wX9_next_244 q_up_s kk
theorem dX9_next_247 : decode (i_b iX9_next) 247 = .ok (.iconst 1, 1) := by decide +kernel
theorem wX9_next_247  (kk : QW V iX9_next 248 [a0] (.int (1) :: st) h z bc bs Kr Kx) : QW V iX9_next 247 [a0] (st) h z bc bs Kr Kx := q_iconst dX9_next_247 (by decide) kk
theorem dX9_next_248 : decode (i_b iX9_next) 248 = .ok (.iadd, 1) := by decide +kernel
theorem wX9_next_248 {x y : Int32} (kk : QW V iX9_next 249 [a0] (.int (x + y) :: st) h z bc bs Kr Kx) : QW V iX9_next 248 [a0] (.int y :: .int x :: st) h z bc bs Kr Kx := q_iadd dX9_next_248 kk
theorem dX9_next_249 : decode (i_b iX9_next) 249 = .ok (.putfield 91, 3) := by decide +kernel
theorem wX9_next_249 {o : Nat} {m : Nat → Int32} {x : Int32} (ha : h o = some (.inr (10, q_MF o m))) (kk : QW V iX9_next 252 [a0] (st) (q_up h o (.inr (10, q_MF o (upd m 18 x)))) z bc bs Kr Kx) : QW V iX9_next 249 [a0] (.int x :: .ref o :: st) h z bc bs Kr Kx := q_putf (k := 18) tyX9 dX9_next_249 klX9 tyX9_ok nmX9 rfl (Nat.le_of_ble_eq_true rfl : 18 < 35) k5_231 rfl rfl rfl rfl (Nat.le_of_ble_eq_true rfl) ha (by rw [q_MF_18]; exact kk)
theorem wX9_next_249u {o : Nat} {m : Nat → Int32} {x : Int32} (kk : QW V iX9_next 252 [a0] (st) (q_up h o (.inr (10, q_MF o (upd m 18 x)))) z bc bs Kr Kx) : QW V iX9_next 249 [a0] (.int x :: .ref o :: st) (q_up h o (.inr (10, q_MF o m))) z bc bs Kr Kx := wX9_next_249 q_up_s (by rw [q_up_u]; exact kk)
theorem dX9_next_252 : decode (i_b iX9_next) 252 = .ok (.return_, 1) := by decide +kernel
theorem wX9_next_252 {P : q_H → Option Nat → Prop} (hk : P h z) : QW V iX9_next 252 [a0] [] h z bc bs (q_Kv P) Kx := q_vret dX9_next_252 rfl ⟨rfl, hk⟩
theorem eX9_fail {o : Nat} {x0 : Int32} {P : q_H → Option Nat → Prop} (kk : QW V iX9_fail 0 [some (.ref o), some (.int x0)] [] h z 0 0 (q_Kv P) Kx) : QMv V iX9_fail [.ref o, .int x0] h z P Kx := q_enter rfl (by decide +kernel) rfl (Nat.le_of_ble_eq_true rfl) kk
theorem dX9_fail_0 : decode (i_b iX9_fail) 0 = .ok (.aload_n 0, 1) := by decide +kernel
theorem wX9_fail_0 {x : Nat} (kk : QW V iX9_fail 1 [some (.ref x), a1] (.ref x :: st) h z bc bs Kr Kx) : QW V iX9_fail 0 [some (.ref x), a1] (st) h z bc bs Kr Kx := q_aload_n dX9_fail_0 rfl rfl kk
theorem dX9_fail_1 : decode (i_b iX9_fail) 1 = .ok (.invokevirtual 87, 3) := by decide +kernel
theorem wX9_fail_1 {a : Nat} {fs : List Value}  (hb : h a = some (.inr (10, fs))) (hm : QMi V iX9_isFine [.ref a] h z (fun r h' z' => QW V iX9_fail 4 [a0, a1] (.int r :: st) h' z' bc bs Kr Kx) Kx) (hW : (st.map fun v => v.category).sum ≤ 8 := by exact Nat.le_of_ble_eq_true rfl) : QW V iX9_fail 1 [a0, a1] (.ref a :: st) h z bc bs Kr Kx := q_callV (y' := iX9_isFine) (As := []) (rest := st) dX9_fail_1 k6_107 k6_109 ks_39 k1_10 hhX9_isFine rfl hdX9_isFine rfl rfl (Nat.le_of_ble_eq_true rfl) (Nat.le_of_ble_eq_true rfl) hW rfl hb (QMi.run hm)
theorem dX9_fail_4 : decode (i_b iX9_fail) 4 = .ok (.ifCond .eq 16, 3) := by decide +kernel
theorem wX9_fail_4 {x : Int32} (kt : x = 0 → QW V iX9_fail 20 [a0, a1] (st) h z bc bs Kr Kx) (kf : ¬ x = 0 → QW V iX9_fail 7 [a0, a1] (st) h z bc bs Kr Kx) : QW V iX9_fail 4 [a0, a1] (.int x :: st) h z bc bs Kr Kx := q_if_eq dX9_fail_4 (by decide) kt kf
theorem dX9_fail_7 : decode (i_b iX9_fail) 7 = .ok (.aload_n 0, 1) := by decide +kernel
theorem wX9_fail_7 {x : Nat} (kk : QW V iX9_fail 8 [some (.ref x), a1] (.ref x :: st) h z bc bs Kr Kx) : QW V iX9_fail 7 [some (.ref x), a1] (st) h z bc bs Kr Kx := q_aload_n dX9_fail_7 rfl rfl kk
theorem dX9_fail_8 : decode (i_b iX9_fail) 8 = .ok (.iload_n 1, 1) := by decide +kernel
theorem wX9_fail_8 {x : Int32} (kk : QW V iX9_fail 9 [a0, some (.int x)] (.int x :: st) h z bc bs Kr Kx) : QW V iX9_fail 8 [a0, some (.int x)] (st) h z bc bs Kr Kx := q_iload_n dX9_fail_8 rfl rfl kk
theorem dX9_fail_9 : decode (i_b iX9_fail) 9 = .ok (.putfield 84, 3) := by decide +kernel
theorem wX9_fail_9 {o : Nat} {m : Nat → Int32} {x : Int32} (ha : h o = some (.inr (10, q_MF o m))) (kk : QW V iX9_fail 12 [a0, a1] (st) (q_up h o (.inr (10, q_MF o (upd m 22 x)))) z bc bs Kr Kx) : QW V iX9_fail 9 [a0, a1] (.int x :: .ref o :: st) h z bc bs Kr Kx := q_putf (k := 22) tyX9 dX9_fail_9 klX9 tyX9_ok nmX9 rfl (Nat.le_of_ble_eq_true rfl : 22 < 35) k5_235 rfl rfl rfl rfl (Nat.le_of_ble_eq_true rfl) ha (by rw [q_MF_22]; exact kk)
theorem wX9_fail_9u {o : Nat} {m : Nat → Int32} {x : Int32} (kk : QW V iX9_fail 12 [a0, a1] (st) (q_up h o (.inr (10, q_MF o (upd m 22 x)))) z bc bs Kr Kx) : QW V iX9_fail 9 [a0, a1] (.int x :: .ref o :: st) (q_up h o (.inr (10, q_MF o m))) z bc bs Kr Kx := wX9_fail_9 q_up_s (by rw [q_up_u]; exact kk)
theorem dX9_fail_12 : decode (i_b iX9_fail) 12 = .ok (.aload_n 0, 1) := by decide +kernel
theorem wX9_fail_12 {x : Nat} (kk : QW V iX9_fail 13 [some (.ref x), a1] (.ref x :: st) h z bc bs Kr Kx) : QW V iX9_fail 12 [some (.ref x), a1] (st) h z bc bs Kr Kx := q_aload_n dX9_fail_12 rfl rfl kk
theorem dX9_fail_13 : decode (i_b iX9_fail) 13 = .ok (.aload_n 0, 1) := by decide +kernel
theorem wX9_fail_13 {x : Nat} (kk : QW V iX9_fail 14 [some (.ref x), a1] (.ref x :: st) h z bc bs Kr Kx) : QW V iX9_fail 13 [some (.ref x), a1] (st) h z bc bs Kr Kx := q_aload_n dX9_fail_13 rfl rfl kk
theorem dX9_fail_14 : decode (i_b iX9_fail) 14 = .ok (.getfield 94, 3) := by decide +kernel
theorem wX9_fail_14 {o : Nat} {m : Nat → Int32} (ha : h o = some (.inr (10, q_MF o m))) (kk : QW V iX9_fail 17 [a0, a1] (.int (m 19) :: st) h z bc bs Kr Kx) : QW V iX9_fail 14 [a0, a1] (.ref o :: st) h z bc bs Kr Kx := q_getf (k := 19) dX9_fail_14 klX9 rfl (Nat.le_of_ble_eq_true rfl : 19 < 35) k5_232 rfl ha rfl kk
theorem wX9_fail_14u {o : Nat} {m : Nat → Int32} (kk : QW V iX9_fail 17 [a0, a1] (.int (m 19) :: st) (q_up h o (.inr (10, q_MF o m))) z bc bs Kr Kx) : QW V iX9_fail 14 [a0, a1] (.ref o :: st) (q_up h o (.inr (10, q_MF o m))) z bc bs Kr Kx := wX9_fail_14 q_up_s kk
theorem dX9_fail_17 : decode (i_b iX9_fail) 17 = .ok (.putfield 26, 3) := by decide +kernel
theorem wX9_fail_17 {o : Nat} {m : Nat → Int32} {x : Int32} (ha : h o = some (.inr (10, q_MF o m))) (kk : QW V iX9_fail 20 [a0, a1] (st) (q_up h o (.inr (10, q_MF o (upd m 23 x)))) z bc bs Kr Kx) : QW V iX9_fail 17 [a0, a1] (.int x :: .ref o :: st) h z bc bs Kr Kx := q_putf (k := 23) tyX9 dX9_fail_17 klX9 tyX9_ok nmX9 rfl (Nat.le_of_ble_eq_true rfl : 23 < 35) k5_236 rfl rfl rfl rfl (Nat.le_of_ble_eq_true rfl) ha (by rw [q_MF_23]; exact kk)
theorem wX9_fail_17u {o : Nat} {m : Nat → Int32} {x : Int32} (kk : QW V iX9_fail 20 [a0, a1] (st) (q_up h o (.inr (10, q_MF o (upd m 23 x)))) z bc bs Kr Kx) : QW V iX9_fail 17 [a0, a1] (.int x :: .ref o :: st) (q_up h o (.inr (10, q_MF o m))) z bc bs Kr Kx := wX9_fail_17 q_up_s (by rw [q_up_u]; exact kk)
theorem dX9_fail_20 : decode (i_b iX9_fail) 20 = .ok (.return_, 1) := by decide +kernel
theorem wX9_fail_20 {P : q_H → Option Nat → Prop} (hk : P h z) : QW V iX9_fail 20 [a0, a1] [] h z bc bs (q_Kv P) Kx := q_vret dX9_fail_20 rfl ⟨rfl, hk⟩
theorem eX9_isWord {o : Nat} {x0 : Nat} {P : Int32 → q_H → Option Nat → Prop} (kk : QW V iX9_isWord 0 [some (.ref o), some (.ref x0), none] [] h z 0 0 (q_Ki P) Kx) : QMi V iX9_isWord [.ref o, .ref x0] h z P Kx := q_enter rfl (by decide +kernel) rfl (Nat.le_of_ble_eq_true rfl) kk
theorem dX9_isWord_0 : decode (i_b iX9_isWord) 0 = .ok (.aload_n 0, 1) := by decide +kernel
theorem wX9_isWord_0 {x : Nat} (kk : QW V iX9_isWord 1 [some (.ref x), a1, a2] (.ref x :: st) h z bc bs Kr Kx) : QW V iX9_isWord 0 [some (.ref x), a1, a2] (st) h z bc bs Kr Kx := q_aload_n dX9_isWord_0 rfl rfl kk
theorem dX9_isWord_1 : decode (i_b iX9_isWord) 1 = .ok (.invokevirtual 87, 3) := by decide +kernel
theorem wX9_isWord_1 {a : Nat} {fs : List Value}  (hb : h a = some (.inr (10, fs))) (hm : QMi V iX9_isFine [.ref a] h z (fun r h' z' => QW V iX9_isWord 4 [a0, a1, a2] (.int r :: st) h' z' bc bs Kr Kx) Kx) (hW : (st.map fun v => v.category).sum ≤ 8 := by exact Nat.le_of_ble_eq_true rfl) : QW V iX9_isWord 1 [a0, a1, a2] (.ref a :: st) h z bc bs Kr Kx := q_callV (y' := iX9_isFine) (As := []) (rest := st) dX9_isWord_1 k6_107 k6_109 ks_39 k1_10 hhX9_isFine rfl hdX9_isFine rfl rfl (Nat.le_of_ble_eq_true rfl) (Nat.le_of_ble_eq_true rfl) hW rfl hb (QMi.run hm)
theorem dX9_isWord_4 : decode (i_b iX9_isWord) 4 = .ok (.ifCond .eq 27, 3) := by decide +kernel
theorem wX9_isWord_4 {x : Int32} (kt : x = 0 → QW V iX9_isWord 31 [a0, a1, a2] (st) h z bc bs Kr Kx) (kf : ¬ x = 0 → QW V iX9_isWord 7 [a0, a1, a2] (st) h z bc bs Kr Kx) : QW V iX9_isWord 4 [a0, a1, a2] (.int x :: st) h z bc bs Kr Kx := q_if_eq dX9_isWord_4 (by decide) kt kf
theorem dX9_isWord_7 : decode (i_b iX9_isWord) 7 = .ok (.aload_n 0, 1) := by decide +kernel
theorem wX9_isWord_7 {x : Nat} (kk : QW V iX9_isWord 8 [some (.ref x), a1, a2] (.ref x :: st) h z bc bs Kr Kx) : QW V iX9_isWord 7 [some (.ref x), a1, a2] (st) h z bc bs Kr Kx := q_aload_n dX9_isWord_7 rfl rfl kk
theorem dX9_isWord_8 : decode (i_b iX9_isWord) 8 = .ok (.getfield 97, 3) := by decide +kernel
theorem wX9_isWord_8 {o : Nat} {m : Nat → Int32} (ha : h o = some (.inr (10, q_MF o m))) (kk : QW V iX9_isWord 11 [a0, a1, a2] (.int (m 20) :: st) h z bc bs Kr Kx) : QW V iX9_isWord 8 [a0, a1, a2] (.ref o :: st) h z bc bs Kr Kx := q_getf (k := 20) dX9_isWord_8 klX9 rfl (Nat.le_of_ble_eq_true rfl : 20 < 35) k5_233 rfl ha rfl kk
theorem wX9_isWord_8u {o : Nat} {m : Nat → Int32} (kk : QW V iX9_isWord 11 [a0, a1, a2] (.int (m 20) :: st) (q_up h o (.inr (10, q_MF o m))) z bc bs Kr Kx) : QW V iX9_isWord 8 [a0, a1, a2] (.ref o :: st) (q_up h o (.inr (10, q_MF o m))) z bc bs Kr Kx := wX9_isWord_8 q_up_s kk
theorem dX9_isWord_11 : decode (i_b iX9_isWord) 11 = .ok (.iconst 2, 1) := by decide +kernel
theorem wX9_isWord_11  (kk : QW V iX9_isWord 12 [a0, a1, a2] (.int (2) :: st) h z bc bs Kr Kx) : QW V iX9_isWord 11 [a0, a1, a2] (st) h z bc bs Kr Kx := q_iconst dX9_isWord_11 (by decide) kk
theorem dX9_isWord_12 : decode (i_b iX9_isWord) 12 = .ok (.if_icmp .ne 19, 3) := by decide +kernel
theorem wX9_isWord_12 {x y : Int32} (kt : ¬ x = y → QW V iX9_isWord 31 [a0, a1, a2] (st) h z bc bs Kr Kx) (kf : x = y → QW V iX9_isWord 15 [a0, a1, a2] (st) h z bc bs Kr Kx) : QW V iX9_isWord 12 [a0, a1, a2] (.int y :: .int x :: st) h z bc bs Kr Kx := q_icmp_ne dX9_isWord_12 (by decide) kt kf
theorem dX9_isWord_15 : decode (i_b iX9_isWord) 15 = .ok (.aload_n 0, 1) := by decide +kernel
theorem wX9_isWord_15 {x : Nat} (kk : QW V iX9_isWord 16 [some (.ref x), a1, a2] (.ref x :: st) h z bc bs Kr Kx) : QW V iX9_isWord 15 [some (.ref x), a1, a2] (st) h z bc bs Kr Kx := q_aload_n dX9_isWord_15 rfl rfl kk
theorem dX9_isWord_16 : decode (i_b iX9_isWord) 16 = .ok (.getfield 91, 3) := by decide +kernel
theorem wX9_isWord_16 {o : Nat} {m : Nat → Int32} (ha : h o = some (.inr (10, q_MF o m))) (kk : QW V iX9_isWord 19 [a0, a1, a2] (.int (m 18) :: st) h z bc bs Kr Kx) : QW V iX9_isWord 16 [a0, a1, a2] (.ref o :: st) h z bc bs Kr Kx := q_getf (k := 18) dX9_isWord_16 klX9 rfl (Nat.le_of_ble_eq_true rfl : 18 < 35) k5_231 rfl ha rfl kk
theorem wX9_isWord_16u {o : Nat} {m : Nat → Int32} (kk : QW V iX9_isWord 19 [a0, a1, a2] (.int (m 18) :: st) (q_up h o (.inr (10, q_MF o m))) z bc bs Kr Kx) : QW V iX9_isWord 16 [a0, a1, a2] (.ref o :: st) (q_up h o (.inr (10, q_MF o m))) z bc bs Kr Kx := wX9_isWord_16 q_up_s kk
theorem dX9_isWord_19 : decode (i_b iX9_isWord) 19 = .ok (.aload_n 0, 1) := by decide +kernel
theorem wX9_isWord_19 {x : Nat} (kk : QW V iX9_isWord 20 [some (.ref x), a1, a2] (.ref x :: st) h z bc bs Kr Kx) : QW V iX9_isWord 19 [some (.ref x), a1, a2] (st) h z bc bs Kr Kx := q_aload_n dX9_isWord_19 rfl rfl kk
theorem dX9_isWord_20 : decode (i_b iX9_isWord) 20 = .ok (.getfield 94, 3) := by decide +kernel
theorem wX9_isWord_20 {o : Nat} {m : Nat → Int32} (ha : h o = some (.inr (10, q_MF o m))) (kk : QW V iX9_isWord 23 [a0, a1, a2] (.int (m 19) :: st) h z bc bs Kr Kx) : QW V iX9_isWord 20 [a0, a1, a2] (.ref o :: st) h z bc bs Kr Kx := q_getf (k := 19) dX9_isWord_20 klX9 rfl (Nat.le_of_ble_eq_true rfl : 19 < 35) k5_232 rfl ha rfl kk
theorem wX9_isWord_20u {o : Nat} {m : Nat → Int32} (kk : QW V iX9_isWord 23 [a0, a1, a2] (.int (m 19) :: st) (q_up h o (.inr (10, q_MF o m))) z bc bs Kr Kx) : QW V iX9_isWord 20 [a0, a1, a2] (.ref o :: st) (q_up h o (.inr (10, q_MF o m))) z bc bs Kr Kx := wX9_isWord_20 q_up_s kk
theorem dX9_isWord_23 : decode (i_b iX9_isWord) 23 = .ok (.isub, 1) := by decide +kernel
theorem wX9_isWord_23 {x y : Int32} (kk : QW V iX9_isWord 24 [a0, a1, a2] (.int (x - y) :: st) h z bc bs Kr Kx) : QW V iX9_isWord 23 [a0, a1, a2] (.int y :: .int x :: st) h z bc bs Kr Kx := q_isub dX9_isWord_23 kk
theorem dX9_isWord_24 : decode (i_b iX9_isWord) 24 = .ok (.aload_n 1, 1) := by decide +kernel
theorem wX9_isWord_24 {x : Nat} (kk : QW V iX9_isWord 25 [a0, some (.ref x), a2] (.ref x :: st) h z bc bs Kr Kx) : QW V iX9_isWord 24 [a0, some (.ref x), a2] (st) h z bc bs Kr Kx := q_aload_n dX9_isWord_24 rfl rfl kk
theorem dX9_isWord_25 : decode (i_b iX9_isWord) 25 = .ok (.invokevirtual 110, 3) := by decide +kernel
-- wX9_isWord_25: by hand
theorem dX9_isWord_28 : decode (i_b iX9_isWord) 28 = .ok (.if_icmp .eq 5, 3) := by decide +kernel
theorem wX9_isWord_28 {x y : Int32} (kt : x = y → QW V iX9_isWord 33 [a0, a1, a2] (st) h z bc bs Kr Kx) (kf : ¬ x = y → QW V iX9_isWord 31 [a0, a1, a2] (st) h z bc bs Kr Kx) : QW V iX9_isWord 28 [a0, a1, a2] (.int y :: .int x :: st) h z bc bs Kr Kx := q_icmp_eq dX9_isWord_28 (by decide) kt kf
theorem dX9_isWord_31 : decode (i_b iX9_isWord) 31 = .ok (.iconst 0, 1) := by decide +kernel
theorem wX9_isWord_31  (kk : QW V iX9_isWord 32 [a0, a1, a2] (.int (0) :: st) h z bc bs Kr Kx) : QW V iX9_isWord 31 [a0, a1, a2] (st) h z bc bs Kr Kx := q_iconst dX9_isWord_31 (by decide) kk
theorem dX9_isWord_32 : decode (i_b iX9_isWord) 32 = .ok (.ireturn, 1) := by decide +kernel
theorem wX9_isWord_32 {x : Int32} {P : Int32 → q_H → Option Nat → Prop} (hk : P x h z) (hn : narrow .boolean (.int x) = .int x := by first | rfl | exact q_b_n _) : QW V iX9_isWord 32 [a0, a1, a2] [.int x] h z bc bs (q_Ki P) Kx := q_iret dX9_isWord_32 rfl hn ⟨x, rfl, hk⟩
theorem dX9_isWord_33 : decode (i_b iX9_isWord) 33 = .ok (.iconst 0, 1) := by decide +kernel
theorem wX9_isWord_33  (kk : QW V iX9_isWord 34 [a0, a1, a2] (.int (0) :: st) h z bc bs Kr Kx) : QW V iX9_isWord 33 [a0, a1, a2] (st) h z bc bs Kr Kx := q_iconst dX9_isWord_33 (by decide) kk
theorem dX9_isWord_34 : decode (i_b iX9_isWord) 34 = .ok (.istore_n 2, 1) := by decide +kernel
theorem wX9_isWord_34 {x : Int32} (kk : QW V iX9_isWord 35 [a0, a1, some (.int x)] (st) h z bc bs Kr Kx) (hp : q_n2 a1 = true := by rfl) : QW V iX9_isWord 34 [a0, a1, a2] (.int x :: st) h z bc bs Kr Kx := q_istore_n dX9_isWord_34 rfl (Nat.le_of_ble_eq_true rfl) hp kk
theorem dX9_isWord_35 : decode (i_b iX9_isWord) 35 = .ok (.iload_n 2, 1) := by decide +kernel
theorem wX9_isWord_35 {x : Int32} (kk : QW V iX9_isWord 36 [a0, a1, some (.int x)] (.int x :: st) h z bc bs Kr Kx) : QW V iX9_isWord 35 [a0, a1, some (.int x)] (st) h z bc bs Kr Kx := q_iload_n dX9_isWord_35 rfl rfl kk
theorem dX9_isWord_36 : decode (i_b iX9_isWord) 36 = .ok (.aload_n 1, 1) := by decide +kernel
theorem wX9_isWord_36 {x : Nat} (kk : QW V iX9_isWord 37 [a0, some (.ref x), a2] (.ref x :: st) h z bc bs Kr Kx) : QW V iX9_isWord 36 [a0, some (.ref x), a2] (st) h z bc bs Kr Kx := q_aload_n dX9_isWord_36 rfl rfl kk
theorem dX9_isWord_37 : decode (i_b iX9_isWord) 37 = .ok (.invokevirtual 110, 3) := by decide +kernel
-- wX9_isWord_37: by hand
theorem dX9_isWord_40 : decode (i_b iX9_isWord) 40 = .ok (.if_icmp .ge 30, 3) := by decide +kernel
theorem wX9_isWord_40 {x y : Int32} (kt : y ≤ x → QW V iX9_isWord 70 [a0, a1, a2] (st) h z bc bs Kr Kx) (kf : ¬ y ≤ x → QW V iX9_isWord 43 [a0, a1, a2] (st) h z bc bs Kr Kx) : QW V iX9_isWord 40 [a0, a1, a2] (.int y :: .int x :: st) h z bc bs Kr Kx := q_icmp_ge dX9_isWord_40 (by decide) kt kf
theorem dX9_isWord_43 : decode (i_b iX9_isWord) 43 = .ok (.aload_n 0, 1) := by decide +kernel
theorem wX9_isWord_43 {x : Nat} (kk : QW V iX9_isWord 44 [some (.ref x), a1, a2] (.ref x :: st) h z bc bs Kr Kx) : QW V iX9_isWord 43 [some (.ref x), a1, a2] (st) h z bc bs Kr Kx := q_aload_n dX9_isWord_43 rfl rfl kk
theorem dX9_isWord_44 : decode (i_b iX9_isWord) 44 = .ok (.getfield 23, 3) := by decide +kernel
theorem wX9_isWord_44 {o : Nat} {m : Nat → Int32} (ha : h o = some (.inr (10, q_MF o m))) (kk : QW V iX9_isWord 47 [a0, a1, a2] (.ref (o + 5) :: st) h z bc bs Kr Kx) : QW V iX9_isWord 44 [a0, a1, a2] (.ref o :: st) h z bc bs Kr Kx := q_getf (k := 15) dX9_isWord_44 klX9 rfl (Nat.le_of_ble_eq_true rfl : 15 < 35) k5_228 rfl ha rfl kk
theorem wX9_isWord_44u {o : Nat} {m : Nat → Int32} (kk : QW V iX9_isWord 47 [a0, a1, a2] (.ref (o + 5) :: st) (q_up h o (.inr (10, q_MF o m))) z bc bs Kr Kx) : QW V iX9_isWord 44 [a0, a1, a2] (.ref o :: st) (q_up h o (.inr (10, q_MF o m))) z bc bs Kr Kx := wX9_isWord_44 q_up_s kk
theorem dX9_isWord_47 : decode (i_b iX9_isWord) 47 = .ok (.aload_n 0, 1) := by decide +kernel
theorem wX9_isWord_47 {x : Nat} (kk : QW V iX9_isWord 48 [some (.ref x), a1, a2] (.ref x :: st) h z bc bs Kr Kx) : QW V iX9_isWord 47 [some (.ref x), a1, a2] (st) h z bc bs Kr Kx := q_aload_n dX9_isWord_47 rfl rfl kk
theorem dX9_isWord_48 : decode (i_b iX9_isWord) 48 = .ok (.getfield 94, 3) := by decide +kernel
theorem wX9_isWord_48 {o : Nat} {m : Nat → Int32} (ha : h o = some (.inr (10, q_MF o m))) (kk : QW V iX9_isWord 51 [a0, a1, a2] (.int (m 19) :: st) h z bc bs Kr Kx) : QW V iX9_isWord 48 [a0, a1, a2] (.ref o :: st) h z bc bs Kr Kx := q_getf (k := 19) dX9_isWord_48 klX9 rfl (Nat.le_of_ble_eq_true rfl : 19 < 35) k5_232 rfl ha rfl kk
theorem wX9_isWord_48u {o : Nat} {m : Nat → Int32} (kk : QW V iX9_isWord 51 [a0, a1, a2] (.int (m 19) :: st) (q_up h o (.inr (10, q_MF o m))) z bc bs Kr Kx) : QW V iX9_isWord 48 [a0, a1, a2] (.ref o :: st) (q_up h o (.inr (10, q_MF o m))) z bc bs Kr Kx := wX9_isWord_48 q_up_s kk
theorem dX9_isWord_51 : decode (i_b iX9_isWord) 51 = .ok (.iload_n 2, 1) := by decide +kernel
theorem wX9_isWord_51 {x : Int32} (kk : QW V iX9_isWord 52 [a0, a1, some (.int x)] (.int x :: st) h z bc bs Kr Kx) : QW V iX9_isWord 51 [a0, a1, some (.int x)] (st) h z bc bs Kr Kx := q_iload_n dX9_isWord_51 rfl rfl kk
theorem dX9_isWord_52 : decode (i_b iX9_isWord) 52 = .ok (.iadd, 1) := by decide +kernel
theorem wX9_isWord_52 {x y : Int32} (kk : QW V iX9_isWord 53 [a0, a1, a2] (.int (x + y) :: st) h z bc bs Kr Kx) : QW V iX9_isWord 52 [a0, a1, a2] (.int y :: .int x :: st) h z bc bs Kr Kx := q_iadd dX9_isWord_52 kk
theorem dX9_isWord_53 : decode (i_b iX9_isWord) 53 = .ok (.iaload, 1) := by decide +kernel
theorem wX9_isWord_53 {a n j : Nat} {f : Nat → Int32} {i : Int32} (ha : h a = some (.inl (1, n, .inl f))) (hi : i = nI j) (hj : j < n) (hn : n < 2147483648) (kk : QW V iX9_isWord 54 [a0, a1, a2] (.int (f j) :: st) h z bc bs Kr Kx) : QW V iX9_isWord 53 [a0, a1, a2] (.int i :: .ref a :: st) h z bc bs Kr Kx := q_iald dX9_isWord_53 ha hi hj hn kk
theorem dX9_isWord_54 : decode (i_b iX9_isWord) 54 = .ok (.aload_n 1, 1) := by decide +kernel
theorem wX9_isWord_54 {x : Nat} (kk : QW V iX9_isWord 55 [a0, some (.ref x), a2] (.ref x :: st) h z bc bs Kr Kx) : QW V iX9_isWord 54 [a0, some (.ref x), a2] (st) h z bc bs Kr Kx := q_aload_n dX9_isWord_54 rfl rfl kk
theorem dX9_isWord_55 : decode (i_b iX9_isWord) 55 = .ok (.iload_n 2, 1) := by decide +kernel
theorem wX9_isWord_55 {x : Int32} (kk : QW V iX9_isWord 56 [a0, a1, some (.int x)] (.int x :: st) h z bc bs Kr Kx) : QW V iX9_isWord 55 [a0, a1, some (.int x)] (st) h z bc bs Kr Kx := q_iload_n dX9_isWord_55 rfl rfl kk
theorem dX9_isWord_56 : decode (i_b iX9_isWord) 56 = .ok (.invokevirtual 116, 3) := by decide +kernel
-- wX9_isWord_56: by hand
theorem dX9_isWord_59 : decode (i_b iX9_isWord) 59 = .ok (.if_icmp .eq 5, 3) := by decide +kernel
theorem wX9_isWord_59 {x y : Int32} (kt : x = y → QW V iX9_isWord 64 [a0, a1, a2] (st) h z bc bs Kr Kx) (kf : ¬ x = y → QW V iX9_isWord 62 [a0, a1, a2] (st) h z bc bs Kr Kx) : QW V iX9_isWord 59 [a0, a1, a2] (.int y :: .int x :: st) h z bc bs Kr Kx := q_icmp_eq dX9_isWord_59 (by decide) kt kf
theorem dX9_isWord_62 : decode (i_b iX9_isWord) 62 = .ok (.iconst 0, 1) := by decide +kernel
theorem wX9_isWord_62  (kk : QW V iX9_isWord 63 [a0, a1, a2] (.int (0) :: st) h z bc bs Kr Kx) : QW V iX9_isWord 62 [a0, a1, a2] (st) h z bc bs Kr Kx := q_iconst dX9_isWord_62 (by decide) kk
theorem dX9_isWord_63 : decode (i_b iX9_isWord) 63 = .ok (.ireturn, 1) := by decide +kernel
theorem wX9_isWord_63 {x : Int32} {P : Int32 → q_H → Option Nat → Prop} (hk : P x h z) (hn : narrow .boolean (.int x) = .int x := by first | rfl | exact q_b_n _) : QW V iX9_isWord 63 [a0, a1, a2] [.int x] h z bc bs (q_Ki P) Kx := q_iret dX9_isWord_63 rfl hn ⟨x, rfl, hk⟩
theorem dX9_isWord_64 : decode (i_b iX9_isWord) 64 = .ok (.iinc 2 1, 3) := by decide +kernel
theorem wX9_isWord_64 {x : Int32} (kk : QW V iX9_isWord 67 [a0, a1, some (.int (x + (1)))] (st) h z bc bs Kr Kx) (hp : q_n2 a1 = true := by rfl) : QW V iX9_isWord 64 [a0, a1, some (.int x)] (st) h z bc bs Kr Kx := q_iinc (v := x + (1)) dX9_isWord_64 rfl rfl (Nat.le_of_ble_eq_true rfl) hp kk
theorem dX9_isWord_67 : decode (i_b iX9_isWord) 67 = .ok (.goto (-32), 3) := by decide +kernel
theorem wX9_isWord_67  (kk : QW V iX9_isWord 35 [a0, a1, a2] (st) h z bc bs Kr Kx) : QW V iX9_isWord 67 [a0, a1, a2] (st) h z bc bs Kr Kx := q_goto dX9_isWord_67 (by decide) kk
theorem dX9_isWord_70 : decode (i_b iX9_isWord) 70 = .ok (.iconst 1, 1) := by decide +kernel
theorem wX9_isWord_70  (kk : QW V iX9_isWord 71 [a0, a1, a2] (.int (1) :: st) h z bc bs Kr Kx) : QW V iX9_isWord 70 [a0, a1, a2] (st) h z bc bs Kr Kx := q_iconst dX9_isWord_70 (by decide) kk
theorem dX9_isWord_71 : decode (i_b iX9_isWord) 71 = .ok (.ireturn, 1) := by decide +kernel
theorem wX9_isWord_71 {x : Int32} {P : Int32 → q_H → Option Nat → Prop} (hk : P x h z) (hn : narrow .boolean (.int x) = .int x := by first | rfl | exact q_b_n _) : QW V iX9_isWord 71 [a0, a1, a2] [.int x] h z bc bs (q_Ki P) Kx := q_iret dX9_isWord_71 rfl hn ⟨x, rfl, hk⟩
theorem eX9_expect {o : Nat} {x0 : Nat} {P : q_H → Option Nat → Prop} (kk : QW V iX9_expect 0 [some (.ref o), some (.ref x0)] [] h z 0 0 (q_Kv P) Kx) : QMv V iX9_expect [.ref o, .ref x0] h z P Kx := q_enter rfl (by decide +kernel) rfl (Nat.le_of_ble_eq_true rfl) kk
theorem dX9_expect_0 : decode (i_b iX9_expect) 0 = .ok (.aload_n 0, 1) := by decide +kernel
theorem wX9_expect_0 {x : Nat} (kk : QW V iX9_expect 1 [some (.ref x), a1] (.ref x :: st) h z bc bs Kr Kx) : QW V iX9_expect 0 [some (.ref x), a1] (st) h z bc bs Kr Kx := q_aload_n dX9_expect_0 rfl rfl kk
theorem dX9_expect_1 : decode (i_b iX9_expect) 1 = .ok (.aload_n 1, 1) := by decide +kernel
theorem wX9_expect_1 {x : Nat} (kk : QW V iX9_expect 2 [a0, some (.ref x)] (.ref x :: st) h z bc bs Kr Kx) : QW V iX9_expect 1 [a0, some (.ref x)] (st) h z bc bs Kr Kx := q_aload_n dX9_expect_1 rfl rfl kk
theorem dX9_expect_2 : decode (i_b iX9_expect) 2 = .ok (.invokevirtual 120, 3) := by decide +kernel
theorem wX9_expect_2 {a : Nat} {fs : List Value} {x0 : Nat} (hb : h a = some (.inr (10, fs))) (hm : QMi V iX9_isWord [.ref a, .ref x0] h z (fun r h' z' => QW V iX9_expect 5 [a0, a1] (.int r :: st) h' z' bc bs Kr Kx) Kx) (hW : (st.map fun v => v.category).sum ≤ 8 := by exact Nat.le_of_ble_eq_true rfl) : QW V iX9_expect 2 [a0, a1] (.ref x0 :: .ref a :: st) h z bc bs Kr Kx := q_callV (y' := iX9_isWord) (As := [.ref x0]) (rest := st) dX9_expect_2 k6_136 k6_138 ks_45 k1_10 hhX9_isWord rfl hdX9_isWord rfl rfl (Nat.le_of_ble_eq_true rfl) (Nat.le_of_ble_eq_true rfl) hW rfl hb (QMi.run hm)
theorem dX9_expect_5 : decode (i_b iX9_expect) 5 = .ok (.ifCond .ne 8, 3) := by decide +kernel
theorem wX9_expect_5 {x : Int32} (kt : ¬ x = 0 → QW V iX9_expect 13 [a0, a1] (st) h z bc bs Kr Kx) (kf : x = 0 → QW V iX9_expect 8 [a0, a1] (st) h z bc bs Kr Kx) : QW V iX9_expect 5 [a0, a1] (.int x :: st) h z bc bs Kr Kx := q_if_ne dX9_expect_5 (by decide) kt kf
theorem dX9_expect_8 : decode (i_b iX9_expect) 8 = .ok (.aload_n 0, 1) := by decide +kernel
theorem wX9_expect_8 {x : Nat} (kk : QW V iX9_expect 9 [some (.ref x), a1] (.ref x :: st) h z bc bs Kr Kx) : QW V iX9_expect 8 [some (.ref x), a1] (st) h z bc bs Kr Kx := q_aload_n dX9_expect_8 rfl rfl kk
theorem dX9_expect_9 : decode (i_b iX9_expect) 9 = .ok (.iconst 1, 1) := by decide +kernel
theorem wX9_expect_9  (kk : QW V iX9_expect 10 [a0, a1] (.int (1) :: st) h z bc bs Kr Kx) : QW V iX9_expect 9 [a0, a1] (st) h z bc bs Kr Kx := q_iconst dX9_expect_9 (by decide) kk
theorem dX9_expect_10 : decode (i_b iX9_expect) 10 = .ok (.invokevirtual 124, 3) := by decide +kernel
theorem wX9_expect_10 {a : Nat} {fs : List Value} {x0 : Int32} (hb : h a = some (.inr (10, fs))) (hm : QMv V iX9_fail [.ref a, .int x0] h z (fun h' z' => QW V iX9_expect 13 [a0, a1] (st) h' z' bc bs Kr Kx) Kx) (hW : (st.map fun v => v.category).sum ≤ 8 := by exact Nat.le_of_ble_eq_true rfl) : QW V iX9_expect 10 [a0, a1] (.int x0 :: .ref a :: st) h z bc bs Kr Kx := q_callV (y' := iX9_fail) (As := [.int x0]) (rest := st) dX9_expect_10 k6_142 k6_144 ks_46 k1_10 hhX9_fail rfl hdX9_fail rfl rfl (Nat.le_of_ble_eq_true rfl) (Nat.le_of_ble_eq_true rfl) hW rfl hb (QMv.run hm)
theorem dX9_expect_13 : decode (i_b iX9_expect) 13 = .ok (.aload_n 0, 1) := by decide +kernel
theorem wX9_expect_13 {x : Nat} (kk : QW V iX9_expect 14 [some (.ref x), a1] (.ref x :: st) h z bc bs Kr Kx) : QW V iX9_expect 13 [some (.ref x), a1] (st) h z bc bs Kr Kx := q_aload_n dX9_expect_13 rfl rfl kk
theorem dX9_expect_14 : decode (i_b iX9_expect) 14 = .ok (.invokevirtual 127, 3) := by decide +kernel
theorem wX9_expect_14 {a : Nat} {fs : List Value}  (hb : h a = some (.inr (10, fs))) (hm : QMv V iX9_next [.ref a] h z (fun h' z' => QW V iX9_expect 17 [a0, a1] (st) h' z' bc bs Kr Kx) Kx) (hW : (st.map fun v => v.category).sum ≤ 8 := by exact Nat.le_of_ble_eq_true rfl) : QW V iX9_expect 14 [a0, a1] (.ref a :: st) h z bc bs Kr Kx := q_callV (y' := iX9_next) (As := []) (rest := st) dX9_expect_14 k6_103 k6_105 ks_38 k1_10 hhX9_next rfl hdX9_next rfl rfl (Nat.le_of_ble_eq_true rfl) (Nat.le_of_ble_eq_true rfl) hW rfl hb (QMv.run hm)
theorem dX9_expect_17 : decode (i_b iX9_expect) 17 = .ok (.return_, 1) := by decide +kernel
theorem wX9_expect_17 {P : q_H → Option Nat → Prop} (hk : P h z) : QW V iX9_expect 17 [a0, a1] [] h z bc bs (q_Kv P) Kx := q_vret dX9_expect_17 rfl ⟨rfl, hk⟩
theorem eX9_read {o : Nat} {x0 : Int32} {x1 : Int32} {P : Int32 → q_H → Option Nat → Prop} (kk : QW V iX9_read 0 [some (.ref o), some (.int x0), some (.int x1), none] [] h z 0 0 (q_Ki P) Kx) : QMi V iX9_read [.ref o, .int x0, .int x1] h z P Kx := q_enter rfl (by decide +kernel) rfl (Nat.le_of_ble_eq_true rfl) kk
theorem dX9_read_0 : decode (i_b iX9_read) 0 = .ok (.aload_n 0, 1) := by decide +kernel
theorem wX9_read_0 {x : Nat} (kk : QW V iX9_read 1 [some (.ref x), a1, a2, a3] (.ref x :: st) h z bc bs Kr Kx) : QW V iX9_read 0 [some (.ref x), a1, a2, a3] (st) h z bc bs Kr Kx := q_aload_n dX9_read_0 rfl rfl kk
theorem dX9_read_1 : decode (i_b iX9_read) 1 = .ok (.getfield 97, 3) := by decide +kernel
theorem wX9_read_1 {o : Nat} {m : Nat → Int32} (ha : h o = some (.inr (10, q_MF o m))) (kk : QW V iX9_read 4 [a0, a1, a2, a3] (.int (m 20) :: st) h z bc bs Kr Kx) : QW V iX9_read 1 [a0, a1, a2, a3] (.ref o :: st) h z bc bs Kr Kx := q_getf (k := 20) dX9_read_1 klX9 rfl (Nat.le_of_ble_eq_true rfl : 20 < 35) k5_233 rfl ha rfl kk
theorem wX9_read_1u {o : Nat} {m : Nat → Int32} (kk : QW V iX9_read 4 [a0, a1, a2, a3] (.int (m 20) :: st) (q_up h o (.inr (10, q_MF o m))) z bc bs Kr Kx) : QW V iX9_read 1 [a0, a1, a2, a3] (.ref o :: st) (q_up h o (.inr (10, q_MF o m))) z bc bs Kr Kx := wX9_read_1 q_up_s kk
theorem dX9_read_4 : decode (i_b iX9_read) 4 = .ok (.iconst 3, 1) := by decide +kernel
theorem wX9_read_4  (kk : QW V iX9_read 5 [a0, a1, a2, a3] (.int (3) :: st) h z bc bs Kr Kx) : QW V iX9_read 4 [a0, a1, a2, a3] (st) h z bc bs Kr Kx := q_iconst dX9_read_4 (by decide) kk
theorem dX9_read_5 : decode (i_b iX9_read) 5 = .ok (.if_icmp .eq 11, 3) := by decide +kernel
theorem wX9_read_5 {x y : Int32} (kt : x = y → QW V iX9_read 16 [a0, a1, a2, a3] (st) h z bc bs Kr Kx) (kf : ¬ x = y → QW V iX9_read 8 [a0, a1, a2, a3] (st) h z bc bs Kr Kx) : QW V iX9_read 5 [a0, a1, a2, a3] (.int y :: .int x :: st) h z bc bs Kr Kx := q_icmp_eq dX9_read_5 (by decide) kt kf
theorem dX9_read_8 : decode (i_b iX9_read) 8 = .ok (.aload_n 0, 1) := by decide +kernel
theorem wX9_read_8 {x : Nat} (kk : QW V iX9_read 9 [some (.ref x), a1, a2, a3] (.ref x :: st) h z bc bs Kr Kx) : QW V iX9_read 8 [some (.ref x), a1, a2, a3] (st) h z bc bs Kr Kx := q_aload_n dX9_read_8 rfl rfl kk
theorem dX9_read_9 : decode (i_b iX9_read) 9 = .ok (.iconst 1, 1) := by decide +kernel
theorem wX9_read_9  (kk : QW V iX9_read 10 [a0, a1, a2, a3] (.int (1) :: st) h z bc bs Kr Kx) : QW V iX9_read 9 [a0, a1, a2, a3] (st) h z bc bs Kr Kx := q_iconst dX9_read_9 (by decide) kk
theorem dX9_read_10 : decode (i_b iX9_read) 10 = .ok (.invokevirtual 124, 3) := by decide +kernel
theorem wX9_read_10 {a : Nat} {fs : List Value} {x0 : Int32} (hb : h a = some (.inr (10, fs))) (hm : QMv V iX9_fail [.ref a, .int x0] h z (fun h' z' => QW V iX9_read 13 [a0, a1, a2, a3] (st) h' z' bc bs Kr Kx) Kx) (hW : (st.map fun v => v.category).sum ≤ 8 := by exact Nat.le_of_ble_eq_true rfl) : QW V iX9_read 10 [a0, a1, a2, a3] (.int x0 :: .ref a :: st) h z bc bs Kr Kx := q_callV (y' := iX9_fail) (As := [.int x0]) (rest := st) dX9_read_10 k6_142 k6_144 ks_46 k1_10 hhX9_fail rfl hdX9_fail rfl rfl (Nat.le_of_ble_eq_true rfl) (Nat.le_of_ble_eq_true rfl) hW rfl hb (QMv.run hm)
theorem dX9_read_13 : decode (i_b iX9_read) 13 = .ok (.goto 23, 3) := by decide +kernel
theorem wX9_read_13  (kk : QW V iX9_read 36 [a0, a1, a2, a3] (st) h z bc bs Kr Kx) : QW V iX9_read 13 [a0, a1, a2, a3] (st) h z bc bs Kr Kx := q_goto dX9_read_13 (by decide) kk
theorem dX9_read_16 : decode (i_b iX9_read) 16 = .ok (.aload_n 0, 1) := by decide +kernel
theorem wX9_read_16 {x : Nat} (kk : QW V iX9_read 17 [some (.ref x), a1, a2, a3] (.ref x :: st) h z bc bs Kr Kx) : QW V iX9_read 16 [some (.ref x), a1, a2, a3] (st) h z bc bs Kr Kx := q_aload_n dX9_read_16 rfl rfl kk
theorem dX9_read_17 : decode (i_b iX9_read) 17 = .ok (.getfield 107, 3) := by decide +kernel
theorem wX9_read_17 {o : Nat} {m : Nat → Int32} (ha : h o = some (.inr (10, q_MF o m))) (kk : QW V iX9_read 20 [a0, a1, a2, a3] (.int (m 21) :: st) h z bc bs Kr Kx) : QW V iX9_read 17 [a0, a1, a2, a3] (.ref o :: st) h z bc bs Kr Kx := q_getf (k := 21) dX9_read_17 klX9 rfl (Nat.le_of_ble_eq_true rfl : 21 < 35) k5_234 rfl ha rfl kk
theorem wX9_read_17u {o : Nat} {m : Nat → Int32} (kk : QW V iX9_read 20 [a0, a1, a2, a3] (.int (m 21) :: st) (q_up h o (.inr (10, q_MF o m))) z bc bs Kr Kx) : QW V iX9_read 17 [a0, a1, a2, a3] (.ref o :: st) (q_up h o (.inr (10, q_MF o m))) z bc bs Kr Kx := wX9_read_17 q_up_s kk
theorem dX9_read_20 : decode (i_b iX9_read) 20 = .ok (.i2l, 1) := by decide +kernel
theorem wX9_read_20 {x : Int32} (kk : QW V iX9_read 21 [a0, a1, a2, a3] (.long (x.toInt64) :: st) h z bc bs Kr Kx) : QW V iX9_read 20 [a0, a1, a2, a3] (.int x :: st) h z bc bs Kr Kx := q_i2l dX9_read_20 kk
theorem dX9_read_21 : decode (i_b iX9_read) 21 = .ok (.iload_n 1, 1) := by decide +kernel
theorem wX9_read_21 {x : Int32} (kk : QW V iX9_read 22 [a0, some (.int x), a2, a3] (.int x :: st) h z bc bs Kr Kx) : QW V iX9_read 21 [a0, some (.int x), a2, a3] (st) h z bc bs Kr Kx := q_iload_n dX9_read_21 rfl rfl kk
theorem dX9_read_22 : decode (i_b iX9_read) 22 = .ok (.i2l, 1) := by decide +kernel
theorem wX9_read_22 {x : Int32} (kk : QW V iX9_read 23 [a0, a1, a2, a3] (.long (x.toInt64) :: st) h z bc bs Kr Kx) : QW V iX9_read 22 [a0, a1, a2, a3] (.int x :: st) h z bc bs Kr Kx := q_i2l dX9_read_22 kk
theorem dX9_read_23 : decode (i_b iX9_read) 23 = .ok (.iload_n 2, 1) := by decide +kernel
theorem wX9_read_23 {x : Int32} (kk : QW V iX9_read 24 [a0, a1, some (.int x), a3] (.int x :: st) h z bc bs Kr Kx) : QW V iX9_read 23 [a0, a1, some (.int x), a3] (st) h z bc bs Kr Kx := q_iload_n dX9_read_23 rfl rfl kk
theorem dX9_read_24 : decode (i_b iX9_read) 24 = .ok (.i2l, 1) := by decide +kernel
theorem wX9_read_24 {x : Int32} (kk : QW V iX9_read 25 [a0, a1, a2, a3] (.long (x.toInt64) :: st) h z bc bs Kr Kx) : QW V iX9_read 24 [a0, a1, a2, a3] (.int x :: st) h z bc bs Kr Kx := q_i2l dX9_read_24 kk
theorem dX9_read_25 : decode (i_b iX9_read) 25 = .ok (.invokestatic 65, 3) := by decide +kernel
theorem wX9_read_25 {x0 : Int64} {x1 : Int64} {x2 : Int64} (hm : QMi V iX9_isIn [.long x0, .long x1, .long x2] h z (fun r h' z' => QW V iX9_read 28 [a0, a1, a2, a3] (.int r :: st) h' z' bc bs Kr Kx) Kx) (hW : (st.map fun v => v.category).sum ≤ 8 := by exact Nat.le_of_ble_eq_true rfl) : QW V iX9_read 25 [a0, a1, a2, a3] (.long x2 :: .long x1 :: .long x0 :: st) h z bc bs Kr Kx := q_callS (y' := iX9_isIn) (As := [.long x0, .long x1, .long x2]) (rest := st) dX9_read_25 k6_96 k6_97 k1_10 hhX9_isIn rfl hdX9_isIn rfl (Nat.le_of_ble_eq_true rfl) (Nat.le_of_ble_eq_true rfl) hW rfl (QMi.run hm)
theorem dX9_read_28 : decode (i_b iX9_read) 28 = .ok (.ifCond .ne 8, 3) := by decide +kernel
theorem wX9_read_28 {x : Int32} (kt : ¬ x = 0 → QW V iX9_read 36 [a0, a1, a2, a3] (st) h z bc bs Kr Kx) (kf : x = 0 → QW V iX9_read 31 [a0, a1, a2, a3] (st) h z bc bs Kr Kx) : QW V iX9_read 28 [a0, a1, a2, a3] (.int x :: st) h z bc bs Kr Kx := q_if_ne dX9_read_28 (by decide) kt kf
theorem dX9_read_31 : decode (i_b iX9_read) 31 = .ok (.aload_n 0, 1) := by decide +kernel
theorem wX9_read_31 {x : Nat} (kk : QW V iX9_read 32 [some (.ref x), a1, a2, a3] (.ref x :: st) h z bc bs Kr Kx) : QW V iX9_read 31 [some (.ref x), a1, a2, a3] (st) h z bc bs Kr Kx := q_aload_n dX9_read_31 rfl rfl kk
theorem dX9_read_32 : decode (i_b iX9_read) 32 = .ok (.iconst 2, 1) := by decide +kernel
theorem wX9_read_32  (kk : QW V iX9_read 33 [a0, a1, a2, a3] (.int (2) :: st) h z bc bs Kr Kx) : QW V iX9_read 32 [a0, a1, a2, a3] (st) h z bc bs Kr Kx := q_iconst dX9_read_32 (by decide) kk
theorem dX9_read_33 : decode (i_b iX9_read) 33 = .ok (.invokevirtual 124, 3) := by decide +kernel
theorem wX9_read_33 {a : Nat} {fs : List Value} {x0 : Int32} (hb : h a = some (.inr (10, fs))) (hm : QMv V iX9_fail [.ref a, .int x0] h z (fun h' z' => QW V iX9_read 36 [a0, a1, a2, a3] (st) h' z' bc bs Kr Kx) Kx) (hW : (st.map fun v => v.category).sum ≤ 8 := by exact Nat.le_of_ble_eq_true rfl) : QW V iX9_read 33 [a0, a1, a2, a3] (.int x0 :: .ref a :: st) h z bc bs Kr Kx := q_callV (y' := iX9_fail) (As := [.int x0]) (rest := st) dX9_read_33 k6_142 k6_144 ks_46 k1_10 hhX9_fail rfl hdX9_fail rfl rfl (Nat.le_of_ble_eq_true rfl) (Nat.le_of_ble_eq_true rfl) hW rfl hb (QMv.run hm)
theorem dX9_read_36 : decode (i_b iX9_read) 36 = .ok (.aload_n 0, 1) := by decide +kernel
theorem wX9_read_36 {x : Nat} (kk : QW V iX9_read 37 [some (.ref x), a1, a2, a3] (.ref x :: st) h z bc bs Kr Kx) : QW V iX9_read 36 [some (.ref x), a1, a2, a3] (st) h z bc bs Kr Kx := q_aload_n dX9_read_36 rfl rfl kk
theorem dX9_read_37 : decode (i_b iX9_read) 37 = .ok (.getfield 107, 3) := by decide +kernel
theorem wX9_read_37 {o : Nat} {m : Nat → Int32} (ha : h o = some (.inr (10, q_MF o m))) (kk : QW V iX9_read 40 [a0, a1, a2, a3] (.int (m 21) :: st) h z bc bs Kr Kx) : QW V iX9_read 37 [a0, a1, a2, a3] (.ref o :: st) h z bc bs Kr Kx := q_getf (k := 21) dX9_read_37 klX9 rfl (Nat.le_of_ble_eq_true rfl : 21 < 35) k5_234 rfl ha rfl kk
theorem wX9_read_37u {o : Nat} {m : Nat → Int32} (kk : QW V iX9_read 40 [a0, a1, a2, a3] (.int (m 21) :: st) (q_up h o (.inr (10, q_MF o m))) z bc bs Kr Kx) : QW V iX9_read 37 [a0, a1, a2, a3] (.ref o :: st) (q_up h o (.inr (10, q_MF o m))) z bc bs Kr Kx := wX9_read_37 q_up_s kk
theorem dX9_read_40 : decode (i_b iX9_read) 40 = .ok (.istore_n 3, 1) := by decide +kernel
theorem wX9_read_40 {x : Int32} (kk : QW V iX9_read 41 [a0, a1, a2, some (.int x)] (st) h z bc bs Kr Kx) (hp : q_n2 a2 = true := by rfl) : QW V iX9_read 40 [a0, a1, a2, a3] (.int x :: st) h z bc bs Kr Kx := q_istore_n dX9_read_40 rfl (Nat.le_of_ble_eq_true rfl) hp kk
theorem dX9_read_41 : decode (i_b iX9_read) 41 = .ok (.aload_n 0, 1) := by decide +kernel
theorem wX9_read_41 {x : Nat} (kk : QW V iX9_read 42 [some (.ref x), a1, a2, a3] (.ref x :: st) h z bc bs Kr Kx) : QW V iX9_read 41 [some (.ref x), a1, a2, a3] (st) h z bc bs Kr Kx := q_aload_n dX9_read_41 rfl rfl kk
theorem dX9_read_42 : decode (i_b iX9_read) 42 = .ok (.invokevirtual 127, 3) := by decide +kernel
theorem wX9_read_42 {a : Nat} {fs : List Value}  (hb : h a = some (.inr (10, fs))) (hm : QMv V iX9_next [.ref a] h z (fun h' z' => QW V iX9_read 45 [a0, a1, a2, a3] (st) h' z' bc bs Kr Kx) Kx) (hW : (st.map fun v => v.category).sum ≤ 8 := by exact Nat.le_of_ble_eq_true rfl) : QW V iX9_read 42 [a0, a1, a2, a3] (.ref a :: st) h z bc bs Kr Kx := q_callV (y' := iX9_next) (As := []) (rest := st) dX9_read_42 k6_103 k6_105 ks_38 k1_10 hhX9_next rfl hdX9_next rfl rfl (Nat.le_of_ble_eq_true rfl) (Nat.le_of_ble_eq_true rfl) hW rfl hb (QMv.run hm)
theorem dX9_read_45 : decode (i_b iX9_read) 45 = .ok (.iload_n 3, 1) := by decide +kernel
theorem wX9_read_45 {x : Int32} (kk : QW V iX9_read 46 [a0, a1, a2, some (.int x)] (.int x :: st) h z bc bs Kr Kx) : QW V iX9_read 45 [a0, a1, a2, some (.int x)] (st) h z bc bs Kr Kx := q_iload_n dX9_read_45 rfl rfl kk
theorem dX9_read_46 : decode (i_b iX9_read) 46 = .ok (.ireturn, 1) := by decide +kernel
theorem wX9_read_46 {x : Int32} {P : Int32 → q_H → Option Nat → Prop} (hk : P x h z) : QW V iX9_read 46 [a0, a1, a2, a3] [.int x] h z bc bs (q_Ki P) Kx := q_iret dX9_read_46 rfl rfl ⟨x, rfl, hk⟩
theorem eX9_expectSemicolon {o : Nat} {P : q_H → Option Nat → Prop} (kk : QW V iX9_expectSemicolon 0 [some (.ref o)] [] h z 0 0 (q_Kv P) Kx) : QMv V iX9_expectSemicolon [.ref o] h z P Kx := q_enter rfl (by decide +kernel) rfl (Nat.le_of_ble_eq_true rfl) kk
theorem dX9_expectSemicolon_0 : decode (i_b iX9_expectSemicolon) 0 = .ok (.aload_n 0, 1) := by decide +kernel
theorem wX9_expectSemicolon_0 {x : Nat} (kk : QW V iX9_expectSemicolon 1 [some (.ref x)] (.ref x :: st) h z bc bs Kr Kx) : QW V iX9_expectSemicolon 0 [some (.ref x)] (st) h z bc bs Kr Kx := q_aload_n dX9_expectSemicolon_0 rfl rfl kk
theorem dX9_expectSemicolon_1 : decode (i_b iX9_expectSemicolon) 1 = .ok (.getfield 97, 3) := by decide +kernel
theorem wX9_expectSemicolon_1 {o : Nat} {m : Nat → Int32} (ha : h o = some (.inr (10, q_MF o m))) (kk : QW V iX9_expectSemicolon 4 [a0] (.int (m 20) :: st) h z bc bs Kr Kx) : QW V iX9_expectSemicolon 1 [a0] (.ref o :: st) h z bc bs Kr Kx := q_getf (k := 20) dX9_expectSemicolon_1 klX9 rfl (Nat.le_of_ble_eq_true rfl : 20 < 35) k5_233 rfl ha rfl kk
theorem wX9_expectSemicolon_1u {o : Nat} {m : Nat → Int32} (kk : QW V iX9_expectSemicolon 4 [a0] (.int (m 20) :: st) (q_up h o (.inr (10, q_MF o m))) z bc bs Kr Kx) : QW V iX9_expectSemicolon 1 [a0] (.ref o :: st) (q_up h o (.inr (10, q_MF o m))) z bc bs Kr Kx := wX9_expectSemicolon_1 q_up_s kk
theorem dX9_expectSemicolon_4 : decode (i_b iX9_expectSemicolon) 4 = .ok (.iconst 4, 1) := by decide +kernel
theorem wX9_expectSemicolon_4  (kk : QW V iX9_expectSemicolon 5 [a0] (.int (4) :: st) h z bc bs Kr Kx) : QW V iX9_expectSemicolon 4 [a0] (st) h z bc bs Kr Kx := q_iconst dX9_expectSemicolon_4 (by decide) kk
theorem dX9_expectSemicolon_5 : decode (i_b iX9_expectSemicolon) 5 = .ok (.if_icmp .eq 8, 3) := by decide +kernel
theorem wX9_expectSemicolon_5 {x y : Int32} (kt : x = y → QW V iX9_expectSemicolon 13 [a0] (st) h z bc bs Kr Kx) (kf : ¬ x = y → QW V iX9_expectSemicolon 8 [a0] (st) h z bc bs Kr Kx) : QW V iX9_expectSemicolon 5 [a0] (.int y :: .int x :: st) h z bc bs Kr Kx := q_icmp_eq dX9_expectSemicolon_5 (by decide) kt kf
theorem dX9_expectSemicolon_8 : decode (i_b iX9_expectSemicolon) 8 = .ok (.aload_n 0, 1) := by decide +kernel
theorem wX9_expectSemicolon_8 {x : Nat} (kk : QW V iX9_expectSemicolon 9 [some (.ref x)] (.ref x :: st) h z bc bs Kr Kx) : QW V iX9_expectSemicolon 8 [some (.ref x)] (st) h z bc bs Kr Kx := q_aload_n dX9_expectSemicolon_8 rfl rfl kk
theorem dX9_expectSemicolon_9 : decode (i_b iX9_expectSemicolon) 9 = .ok (.iconst 1, 1) := by decide +kernel
theorem wX9_expectSemicolon_9  (kk : QW V iX9_expectSemicolon 10 [a0] (.int (1) :: st) h z bc bs Kr Kx) : QW V iX9_expectSemicolon 9 [a0] (st) h z bc bs Kr Kx := q_iconst dX9_expectSemicolon_9 (by decide) kk
theorem dX9_expectSemicolon_10 : decode (i_b iX9_expectSemicolon) 10 = .ok (.invokevirtual 124, 3) := by decide +kernel
theorem wX9_expectSemicolon_10 {a : Nat} {fs : List Value} {x0 : Int32} (hb : h a = some (.inr (10, fs))) (hm : QMv V iX9_fail [.ref a, .int x0] h z (fun h' z' => QW V iX9_expectSemicolon 13 [a0] (st) h' z' bc bs Kr Kx) Kx) (hW : (st.map fun v => v.category).sum ≤ 8 := by exact Nat.le_of_ble_eq_true rfl) : QW V iX9_expectSemicolon 10 [a0] (.int x0 :: .ref a :: st) h z bc bs Kr Kx := q_callV (y' := iX9_fail) (As := [.int x0]) (rest := st) dX9_expectSemicolon_10 k6_142 k6_144 ks_46 k1_10 hhX9_fail rfl hdX9_fail rfl rfl (Nat.le_of_ble_eq_true rfl) (Nat.le_of_ble_eq_true rfl) hW rfl hb (QMv.run hm)
theorem dX9_expectSemicolon_13 : decode (i_b iX9_expectSemicolon) 13 = .ok (.aload_n 0, 1) := by decide +kernel
theorem wX9_expectSemicolon_13 {x : Nat} (kk : QW V iX9_expectSemicolon 14 [some (.ref x)] (.ref x :: st) h z bc bs Kr Kx) : QW V iX9_expectSemicolon 13 [some (.ref x)] (st) h z bc bs Kr Kx := q_aload_n dX9_expectSemicolon_13 rfl rfl kk
theorem dX9_expectSemicolon_14 : decode (i_b iX9_expectSemicolon) 14 = .ok (.invokevirtual 127, 3) := by decide +kernel
theorem wX9_expectSemicolon_14 {a : Nat} {fs : List Value}  (hb : h a = some (.inr (10, fs))) (hm : QMv V iX9_next [.ref a] h z (fun h' z' => QW V iX9_expectSemicolon 17 [a0] (st) h' z' bc bs Kr Kx) Kx) (hW : (st.map fun v => v.category).sum ≤ 8 := by exact Nat.le_of_ble_eq_true rfl) : QW V iX9_expectSemicolon 14 [a0] (.ref a :: st) h z bc bs Kr Kx := q_callV (y' := iX9_next) (As := []) (rest := st) dX9_expectSemicolon_14 k6_103 k6_105 ks_38 k1_10 hhX9_next rfl hdX9_next rfl rfl (Nat.le_of_ble_eq_true rfl) (Nat.le_of_ble_eq_true rfl) hW rfl hb (QMv.run hm)
theorem dX9_expectSemicolon_17 : decode (i_b iX9_expectSemicolon) 17 = .ok (.return_, 1) := by decide +kernel
theorem wX9_expectSemicolon_17 {P : q_H → Option Nat → Prop} (hk : P h z) : QW V iX9_expectSemicolon 17 [a0] [] h z bc bs (q_Kv P) Kx := q_vret dX9_expectSemicolon_17 rfl ⟨rfl, hk⟩
theorem eX9_readLeague {o : Nat} {P : q_H → Option Nat → Prop} (kk : QW V iX9_readLeague 0 [some (.ref o)] [] h z 0 0 (q_Kv P) Kx) : QMv V iX9_readLeague [.ref o] h z P Kx := q_enter rfl (by decide +kernel) rfl (Nat.le_of_ble_eq_true rfl) kk
theorem dX9_readLeague_0 : decode (i_b iX9_readLeague) 0 = .ok (.aload_n 0, 1) := by decide +kernel
theorem wX9_readLeague_0 {x : Nat} (kk : QW V iX9_readLeague 1 [some (.ref x)] (.ref x :: st) h z bc bs Kr Kx) : QW V iX9_readLeague 0 [some (.ref x)] (st) h z bc bs Kr Kx := q_aload_n dX9_readLeague_0 rfl rfl kk
theorem dX9_readLeague_1 : decode (i_b iX9_readLeague) 1 = .ok (.ldc 130, 2) := by decide +kernel
theorem wX9_readLeague_1  (kk : QW V iX9_readLeague 3 [a0] (.ref (e_S V 0) :: st) h z bc bs Kr Kx) : QW V iX9_readLeague 1 [a0] (st) h z bc bs Kr Kx := q_ldcS (tx := "league") dX9_readLeague_1 (by decide +kernel) kk
theorem dX9_readLeague_3 : decode (i_b iX9_readLeague) 3 = .ok (.invokevirtual 132, 3) := by decide +kernel
theorem wX9_readLeague_3 {a : Nat} {fs : List Value} {x0 : Nat} (hb : h a = some (.inr (10, fs))) (hm : QMv V iX9_expect [.ref a, .ref x0] h z (fun h' z' => QW V iX9_readLeague 6 [a0] (st) h' z' bc bs Kr Kx) Kx) (hW : (st.map fun v => v.category).sum ≤ 8 := by exact Nat.le_of_ble_eq_true rfl) : QW V iX9_readLeague 3 [a0] (.ref x0 :: .ref a :: st) h z bc bs Kr Kx := q_callV (y' := iX9_expect) (As := [.ref x0]) (rest := st) dX9_readLeague_3 k6_132 k6_134 ks_44 k1_10 hhX9_expect rfl hdX9_expect rfl rfl (Nat.le_of_ble_eq_true rfl) (Nat.le_of_ble_eq_true rfl) hW rfl hb (QMv.run hm)
theorem dX9_readLeague_6 : decode (i_b iX9_readLeague) 6 = .ok (.aload_n 0, 1) := by decide +kernel
theorem wX9_readLeague_6 {x : Nat} (kk : QW V iX9_readLeague 7 [some (.ref x)] (.ref x :: st) h z bc bs Kr Kx) : QW V iX9_readLeague 6 [some (.ref x)] (st) h z bc bs Kr Kx := q_aload_n dX9_readLeague_6 rfl rfl kk
theorem dX9_readLeague_7 : decode (i_b iX9_readLeague) 7 = .ok (.getfield 30, 3) := by decide +kernel
theorem wX9_readLeague_7 {o : Nat} {m : Nat → Int32} (ha : h o = some (.inr (10, q_MF o m))) (kk : QW V iX9_readLeague 10 [a0] (.ref (o + 6) :: st) h z bc bs Kr Kx) : QW V iX9_readLeague 7 [a0] (.ref o :: st) h z bc bs Kr Kx := q_getf (k := 24) dX9_readLeague_7 klX9 rfl (Nat.le_of_ble_eq_true rfl : 24 < 35) k5_237 rfl ha rfl kk
theorem wX9_readLeague_7u {o : Nat} {m : Nat → Int32} (kk : QW V iX9_readLeague 10 [a0] (.ref (o + 6) :: st) (q_up h o (.inr (10, q_MF o m))) z bc bs Kr Kx) : QW V iX9_readLeague 7 [a0] (.ref o :: st) (q_up h o (.inr (10, q_MF o m))) z bc bs Kr Kx := wX9_readLeague_7 q_up_s kk
theorem dX9_readLeague_10 : decode (i_b iX9_readLeague) 10 = .ok (.iconst 0, 1) := by decide +kernel
theorem wX9_readLeague_10  (kk : QW V iX9_readLeague 11 [a0] (.int (0) :: st) h z bc bs Kr Kx) : QW V iX9_readLeague 10 [a0] (st) h z bc bs Kr Kx := q_iconst dX9_readLeague_10 (by decide) kk
theorem dX9_readLeague_11 : decode (i_b iX9_readLeague) 11 = .ok (.aload_n 0, 1) := by decide +kernel
theorem wX9_readLeague_11 {x : Nat} (kk : QW V iX9_readLeague 12 [some (.ref x)] (.ref x :: st) h z bc bs Kr Kx) : QW V iX9_readLeague 11 [some (.ref x)] (st) h z bc bs Kr Kx := q_aload_n dX9_readLeague_11 rfl rfl kk
theorem dX9_readLeague_12 : decode (i_b iX9_readLeague) 12 = .ok (.iconst 1, 1) := by decide +kernel
theorem wX9_readLeague_12  (kk : QW V iX9_readLeague 13 [a0] (.int (1) :: st) h z bc bs Kr Kx) : QW V iX9_readLeague 12 [a0] (st) h z bc bs Kr Kx := q_iconst dX9_readLeague_12 (by decide) kk
theorem dX9_readLeague_13 : decode (i_b iX9_readLeague) 13 = .ok (.ldc 136, 2) := by decide +kernel
theorem wX9_readLeague_13  (kk : QW V iX9_readLeague 15 [a0] (.int (999999) :: st) h z bc bs Kr Kx) : QW V iX9_readLeague 13 [a0] (st) h z bc bs Kr Kx := q_ldc dX9_readLeague_13 k6_146 kk
theorem dX9_readLeague_15 : decode (i_b iX9_readLeague) 15 = .ok (.invokevirtual 137, 3) := by decide +kernel
theorem wX9_readLeague_15 {a : Nat} {fs : List Value} {x0 : Int32} {x1 : Int32} (hb : h a = some (.inr (10, fs))) (hm : QMi V iX9_read [.ref a, .int x0, .int x1] h z (fun r h' z' => QW V iX9_readLeague 18 [a0] (.int r :: st) h' z' bc bs Kr Kx) Kx) (hW : (st.map fun v => v.category).sum ≤ 8 := by exact Nat.le_of_ble_eq_true rfl) : QW V iX9_readLeague 15 [a0] (.int x1 :: .int x0 :: .ref a :: st) h z bc bs Kr Kx := q_callV (y' := iX9_read) (As := [.int x0, .int x1]) (rest := st) dX9_readLeague_15 k6_147 k6_149 ks_47 k1_10 hhX9_read rfl hdX9_read rfl rfl (Nat.le_of_ble_eq_true rfl) (Nat.le_of_ble_eq_true rfl) hW rfl hb (QMi.run hm)
theorem dX9_readLeague_18 : decode (i_b iX9_readLeague) 18 = .ok (.iastore, 1) := by decide +kernel
theorem wX9_readLeague_18 {a n j : Nat} {f : Nat → Int32} {i : Int32} {x : Int32} (ha : h a = some (.inl (1, n, .inl f))) (hi : i = nI j) (hj : j < n) (hn : n < 2147483648) (kk : QW V iX9_readLeague 19 [a0] (st) (q_up h a (.inl (1, n, .inl (upd f j x)))) z bc bs Kr Kx) : QW V iX9_readLeague 18 [a0] (.int x :: .int i :: .ref a :: st) h z bc bs Kr Kx := q_iast dX9_readLeague_18 ha hi hj hn kk
theorem wX9_readLeague_18u {a n j : Nat} {f : Nat → Int32} {i : Int32} {x : Int32} (hi : i = nI j) (hj : j < n) (hn : n < 2147483648) (kk : QW V iX9_readLeague 19 [a0] (st) (q_up h a (.inl (1, n, .inl (upd f j x)))) z bc bs Kr Kx) : QW V iX9_readLeague 18 [a0] (.int x :: .int i :: .ref a :: st) (q_up h a (.inl (1, n, .inl f))) z bc bs Kr Kx := wX9_readLeague_18 q_up_s hi hj hn (by rw [q_up_u]; exact kk)
theorem dX9_readLeague_19 : decode (i_b iX9_readLeague) 19 = .ok (.aload_n 0, 1) := by decide +kernel
theorem wX9_readLeague_19 {x : Nat} (kk : QW V iX9_readLeague 20 [some (.ref x)] (.ref x :: st) h z bc bs Kr Kx) : QW V iX9_readLeague 19 [some (.ref x)] (st) h z bc bs Kr Kx := q_aload_n dX9_readLeague_19 rfl rfl kk
theorem dX9_readLeague_20 : decode (i_b iX9_readLeague) 20 = .ok (.getfield 30, 3) := by decide +kernel
theorem wX9_readLeague_20 {o : Nat} {m : Nat → Int32} (ha : h o = some (.inr (10, q_MF o m))) (kk : QW V iX9_readLeague 23 [a0] (.ref (o + 6) :: st) h z bc bs Kr Kx) : QW V iX9_readLeague 20 [a0] (.ref o :: st) h z bc bs Kr Kx := q_getf (k := 24) dX9_readLeague_20 klX9 rfl (Nat.le_of_ble_eq_true rfl : 24 < 35) k5_237 rfl ha rfl kk
theorem wX9_readLeague_20u {o : Nat} {m : Nat → Int32} (kk : QW V iX9_readLeague 23 [a0] (.ref (o + 6) :: st) (q_up h o (.inr (10, q_MF o m))) z bc bs Kr Kx) : QW V iX9_readLeague 20 [a0] (.ref o :: st) (q_up h o (.inr (10, q_MF o m))) z bc bs Kr Kx := wX9_readLeague_20 q_up_s kk
theorem dX9_readLeague_23 : decode (i_b iX9_readLeague) 23 = .ok (.iconst 1, 1) := by decide +kernel
theorem wX9_readLeague_23  (kk : QW V iX9_readLeague 24 [a0] (.int (1) :: st) h z bc bs Kr Kx) : QW V iX9_readLeague 23 [a0] (st) h z bc bs Kr Kx := q_iconst dX9_readLeague_23 (by decide) kk
theorem dX9_readLeague_24 : decode (i_b iX9_readLeague) 24 = .ok (.aload_n 0, 1) := by decide +kernel
theorem wX9_readLeague_24 {x : Nat} (kk : QW V iX9_readLeague 25 [some (.ref x)] (.ref x :: st) h z bc bs Kr Kx) : QW V iX9_readLeague 24 [some (.ref x)] (st) h z bc bs Kr Kx := q_aload_n dX9_readLeague_24 rfl rfl kk
theorem dX9_readLeague_25 : decode (i_b iX9_readLeague) 25 = .ok (.iconst 1, 1) := by decide +kernel
theorem wX9_readLeague_25  (kk : QW V iX9_readLeague 26 [a0] (.int (1) :: st) h z bc bs Kr Kx) : QW V iX9_readLeague 25 [a0] (st) h z bc bs Kr Kx := q_iconst dX9_readLeague_25 (by decide) kk
theorem dX9_readLeague_26 : decode (i_b iX9_readLeague) 26 = .ok (.ldc 136, 2) := by decide +kernel
theorem wX9_readLeague_26  (kk : QW V iX9_readLeague 28 [a0] (.int (999999) :: st) h z bc bs Kr Kx) : QW V iX9_readLeague 26 [a0] (st) h z bc bs Kr Kx := q_ldc dX9_readLeague_26 k6_146 kk
theorem dX9_readLeague_28 : decode (i_b iX9_readLeague) 28 = .ok (.invokevirtual 137, 3) := by decide +kernel
theorem wX9_readLeague_28 {a : Nat} {fs : List Value} {x0 : Int32} {x1 : Int32} (hb : h a = some (.inr (10, fs))) (hm : QMi V iX9_read [.ref a, .int x0, .int x1] h z (fun r h' z' => QW V iX9_readLeague 31 [a0] (.int r :: st) h' z' bc bs Kr Kx) Kx) (hW : (st.map fun v => v.category).sum ≤ 8 := by exact Nat.le_of_ble_eq_true rfl) : QW V iX9_readLeague 28 [a0] (.int x1 :: .int x0 :: .ref a :: st) h z bc bs Kr Kx := q_callV (y' := iX9_read) (As := [.int x0, .int x1]) (rest := st) dX9_readLeague_28 k6_147 k6_149 ks_47 k1_10 hhX9_read rfl hdX9_read rfl rfl (Nat.le_of_ble_eq_true rfl) (Nat.le_of_ble_eq_true rfl) hW rfl hb (QMi.run hm)
theorem dX9_readLeague_31 : decode (i_b iX9_readLeague) 31 = .ok (.iastore, 1) := by decide +kernel
theorem wX9_readLeague_31 {a n j : Nat} {f : Nat → Int32} {i : Int32} {x : Int32} (ha : h a = some (.inl (1, n, .inl f))) (hi : i = nI j) (hj : j < n) (hn : n < 2147483648) (kk : QW V iX9_readLeague 32 [a0] (st) (q_up h a (.inl (1, n, .inl (upd f j x)))) z bc bs Kr Kx) : QW V iX9_readLeague 31 [a0] (.int x :: .int i :: .ref a :: st) h z bc bs Kr Kx := q_iast dX9_readLeague_31 ha hi hj hn kk
theorem wX9_readLeague_31u {a n j : Nat} {f : Nat → Int32} {i : Int32} {x : Int32} (hi : i = nI j) (hj : j < n) (hn : n < 2147483648) (kk : QW V iX9_readLeague 32 [a0] (st) (q_up h a (.inl (1, n, .inl (upd f j x)))) z bc bs Kr Kx) : QW V iX9_readLeague 31 [a0] (.int x :: .int i :: .ref a :: st) (q_up h a (.inl (1, n, .inl f))) z bc bs Kr Kx := wX9_readLeague_31 q_up_s hi hj hn (by rw [q_up_u]; exact kk)
theorem dX9_readLeague_32 : decode (i_b iX9_readLeague) 32 = .ok (.aload_n 0, 1) := by decide +kernel
theorem wX9_readLeague_32 {x : Nat} (kk : QW V iX9_readLeague 33 [some (.ref x)] (.ref x :: st) h z bc bs Kr Kx) : QW V iX9_readLeague 32 [some (.ref x)] (st) h z bc bs Kr Kx := q_aload_n dX9_readLeague_32 rfl rfl kk
theorem dX9_readLeague_33 : decode (i_b iX9_readLeague) 33 = .ok (.getfield 30, 3) := by decide +kernel
theorem wX9_readLeague_33 {o : Nat} {m : Nat → Int32} (ha : h o = some (.inr (10, q_MF o m))) (kk : QW V iX9_readLeague 36 [a0] (.ref (o + 6) :: st) h z bc bs Kr Kx) : QW V iX9_readLeague 33 [a0] (.ref o :: st) h z bc bs Kr Kx := q_getf (k := 24) dX9_readLeague_33 klX9 rfl (Nat.le_of_ble_eq_true rfl : 24 < 35) k5_237 rfl ha rfl kk
theorem wX9_readLeague_33u {o : Nat} {m : Nat → Int32} (kk : QW V iX9_readLeague 36 [a0] (.ref (o + 6) :: st) (q_up h o (.inr (10, q_MF o m))) z bc bs Kr Kx) : QW V iX9_readLeague 33 [a0] (.ref o :: st) (q_up h o (.inr (10, q_MF o m))) z bc bs Kr Kx := wX9_readLeague_33 q_up_s kk
theorem dX9_readLeague_36 : decode (i_b iX9_readLeague) 36 = .ok (.iconst 2, 1) := by decide +kernel
theorem wX9_readLeague_36  (kk : QW V iX9_readLeague 37 [a0] (.int (2) :: st) h z bc bs Kr Kx) : QW V iX9_readLeague 36 [a0] (st) h z bc bs Kr Kx := q_iconst dX9_readLeague_36 (by decide) kk
theorem dX9_readLeague_37 : decode (i_b iX9_readLeague) 37 = .ok (.aload_n 0, 1) := by decide +kernel
theorem wX9_readLeague_37 {x : Nat} (kk : QW V iX9_readLeague 38 [some (.ref x)] (.ref x :: st) h z bc bs Kr Kx) : QW V iX9_readLeague 37 [some (.ref x)] (st) h z bc bs Kr Kx := q_aload_n dX9_readLeague_37 rfl rfl kk
theorem dX9_readLeague_38 : decode (i_b iX9_readLeague) 38 = .ok (.iconst 0, 1) := by decide +kernel
theorem wX9_readLeague_38  (kk : QW V iX9_readLeague 39 [a0] (.int (0) :: st) h z bc bs Kr Kx) : QW V iX9_readLeague 38 [a0] (st) h z bc bs Kr Kx := q_iconst dX9_readLeague_38 (by decide) kk
theorem dX9_readLeague_39 : decode (i_b iX9_readLeague) 39 = .ok (.sipush 200, 3) := by decide +kernel
theorem wX9_readLeague_39  (kk : QW V iX9_readLeague 42 [a0] (.int (200) :: st) h z bc bs Kr Kx) : QW V iX9_readLeague 39 [a0] (st) h z bc bs Kr Kx := q_sipush dX9_readLeague_39 (by decide) kk
theorem dX9_readLeague_42 : decode (i_b iX9_readLeague) 42 = .ok (.invokevirtual 137, 3) := by decide +kernel
theorem wX9_readLeague_42 {a : Nat} {fs : List Value} {x0 : Int32} {x1 : Int32} (hb : h a = some (.inr (10, fs))) (hm : QMi V iX9_read [.ref a, .int x0, .int x1] h z (fun r h' z' => QW V iX9_readLeague 45 [a0] (.int r :: st) h' z' bc bs Kr Kx) Kx) (hW : (st.map fun v => v.category).sum ≤ 8 := by exact Nat.le_of_ble_eq_true rfl) : QW V iX9_readLeague 42 [a0] (.int x1 :: .int x0 :: .ref a :: st) h z bc bs Kr Kx := q_callV (y' := iX9_read) (As := [.int x0, .int x1]) (rest := st) dX9_readLeague_42 k6_147 k6_149 ks_47 k1_10 hhX9_read rfl hdX9_read rfl rfl (Nat.le_of_ble_eq_true rfl) (Nat.le_of_ble_eq_true rfl) hW rfl hb (QMi.run hm)
theorem dX9_readLeague_45 : decode (i_b iX9_readLeague) 45 = .ok (.iastore, 1) := by decide +kernel
theorem wX9_readLeague_45 {a n j : Nat} {f : Nat → Int32} {i : Int32} {x : Int32} (ha : h a = some (.inl (1, n, .inl f))) (hi : i = nI j) (hj : j < n) (hn : n < 2147483648) (kk : QW V iX9_readLeague 46 [a0] (st) (q_up h a (.inl (1, n, .inl (upd f j x)))) z bc bs Kr Kx) : QW V iX9_readLeague 45 [a0] (.int x :: .int i :: .ref a :: st) h z bc bs Kr Kx := q_iast dX9_readLeague_45 ha hi hj hn kk
theorem wX9_readLeague_45u {a n j : Nat} {f : Nat → Int32} {i : Int32} {x : Int32} (hi : i = nI j) (hj : j < n) (hn : n < 2147483648) (kk : QW V iX9_readLeague 46 [a0] (st) (q_up h a (.inl (1, n, .inl (upd f j x)))) z bc bs Kr Kx) : QW V iX9_readLeague 45 [a0] (.int x :: .int i :: .ref a :: st) (q_up h a (.inl (1, n, .inl f))) z bc bs Kr Kx := wX9_readLeague_45 q_up_s hi hj hn (by rw [q_up_u]; exact kk)
theorem dX9_readLeague_46 : decode (i_b iX9_readLeague) 46 = .ok (.aload_n 0, 1) := by decide +kernel
theorem wX9_readLeague_46 {x : Nat} (kk : QW V iX9_readLeague 47 [some (.ref x)] (.ref x :: st) h z bc bs Kr Kx) : QW V iX9_readLeague 46 [some (.ref x)] (st) h z bc bs Kr Kx := q_aload_n dX9_readLeague_46 rfl rfl kk
theorem dX9_readLeague_47 : decode (i_b iX9_readLeague) 47 = .ok (.getfield 30, 3) := by decide +kernel
theorem wX9_readLeague_47 {o : Nat} {m : Nat → Int32} (ha : h o = some (.inr (10, q_MF o m))) (kk : QW V iX9_readLeague 50 [a0] (.ref (o + 6) :: st) h z bc bs Kr Kx) : QW V iX9_readLeague 47 [a0] (.ref o :: st) h z bc bs Kr Kx := q_getf (k := 24) dX9_readLeague_47 klX9 rfl (Nat.le_of_ble_eq_true rfl : 24 < 35) k5_237 rfl ha rfl kk
theorem wX9_readLeague_47u {o : Nat} {m : Nat → Int32} (kk : QW V iX9_readLeague 50 [a0] (.ref (o + 6) :: st) (q_up h o (.inr (10, q_MF o m))) z bc bs Kr Kx) : QW V iX9_readLeague 47 [a0] (.ref o :: st) (q_up h o (.inr (10, q_MF o m))) z bc bs Kr Kx := wX9_readLeague_47 q_up_s kk
theorem dX9_readLeague_50 : decode (i_b iX9_readLeague) 50 = .ok (.iconst 3, 1) := by decide +kernel
theorem wX9_readLeague_50  (kk : QW V iX9_readLeague 51 [a0] (.int (3) :: st) h z bc bs Kr Kx) : QW V iX9_readLeague 50 [a0] (st) h z bc bs Kr Kx := q_iconst dX9_readLeague_50 (by decide) kk
theorem dX9_readLeague_51 : decode (i_b iX9_readLeague) 51 = .ok (.aload_n 0, 1) := by decide +kernel
theorem wX9_readLeague_51 {x : Nat} (kk : QW V iX9_readLeague 52 [some (.ref x)] (.ref x :: st) h z bc bs Kr Kx) : QW V iX9_readLeague 51 [some (.ref x)] (st) h z bc bs Kr Kx := q_aload_n dX9_readLeague_51 rfl rfl kk
theorem dX9_readLeague_52 : decode (i_b iX9_readLeague) 52 = .ok (.iconst 0, 1) := by decide +kernel
theorem wX9_readLeague_52  (kk : QW V iX9_readLeague 53 [a0] (.int (0) :: st) h z bc bs Kr Kx) : QW V iX9_readLeague 52 [a0] (st) h z bc bs Kr Kx := q_iconst dX9_readLeague_52 (by decide) kk
theorem dX9_readLeague_53 : decode (i_b iX9_readLeague) 53 = .ok (.ldc 141, 2) := by decide +kernel
theorem wX9_readLeague_53  (kk : QW V iX9_readLeague 55 [a0] (.int (99999) :: st) h z bc bs Kr Kx) : QW V iX9_readLeague 53 [a0] (st) h z bc bs Kr Kx := q_ldc dX9_readLeague_53 k6_151 kk
theorem dX9_readLeague_55 : decode (i_b iX9_readLeague) 55 = .ok (.invokevirtual 137, 3) := by decide +kernel
theorem wX9_readLeague_55 {a : Nat} {fs : List Value} {x0 : Int32} {x1 : Int32} (hb : h a = some (.inr (10, fs))) (hm : QMi V iX9_read [.ref a, .int x0, .int x1] h z (fun r h' z' => QW V iX9_readLeague 58 [a0] (.int r :: st) h' z' bc bs Kr Kx) Kx) (hW : (st.map fun v => v.category).sum ≤ 8 := by exact Nat.le_of_ble_eq_true rfl) : QW V iX9_readLeague 55 [a0] (.int x1 :: .int x0 :: .ref a :: st) h z bc bs Kr Kx := q_callV (y' := iX9_read) (As := [.int x0, .int x1]) (rest := st) dX9_readLeague_55 k6_147 k6_149 ks_47 k1_10 hhX9_read rfl hdX9_read rfl rfl (Nat.le_of_ble_eq_true rfl) (Nat.le_of_ble_eq_true rfl) hW rfl hb (QMi.run hm)
theorem dX9_readLeague_58 : decode (i_b iX9_readLeague) 58 = .ok (.iastore, 1) := by decide +kernel
theorem wX9_readLeague_58 {a n j : Nat} {f : Nat → Int32} {i : Int32} {x : Int32} (ha : h a = some (.inl (1, n, .inl f))) (hi : i = nI j) (hj : j < n) (hn : n < 2147483648) (kk : QW V iX9_readLeague 59 [a0] (st) (q_up h a (.inl (1, n, .inl (upd f j x)))) z bc bs Kr Kx) : QW V iX9_readLeague 58 [a0] (.int x :: .int i :: .ref a :: st) h z bc bs Kr Kx := q_iast dX9_readLeague_58 ha hi hj hn kk
theorem wX9_readLeague_58u {a n j : Nat} {f : Nat → Int32} {i : Int32} {x : Int32} (hi : i = nI j) (hj : j < n) (hn : n < 2147483648) (kk : QW V iX9_readLeague 59 [a0] (st) (q_up h a (.inl (1, n, .inl (upd f j x)))) z bc bs Kr Kx) : QW V iX9_readLeague 58 [a0] (.int x :: .int i :: .ref a :: st) (q_up h a (.inl (1, n, .inl f))) z bc bs Kr Kx := wX9_readLeague_58 q_up_s hi hj hn (by rw [q_up_u]; exact kk)
theorem dX9_readLeague_59 : decode (i_b iX9_readLeague) 59 = .ok (.aload_n 0, 1) := by decide +kernel
theorem wX9_readLeague_59 {x : Nat} (kk : QW V iX9_readLeague 60 [some (.ref x)] (.ref x :: st) h z bc bs Kr Kx) : QW V iX9_readLeague 59 [some (.ref x)] (st) h z bc bs Kr Kx := q_aload_n dX9_readLeague_59 rfl rfl kk
theorem dX9_readLeague_60 : decode (i_b iX9_readLeague) 60 = .ok (.getfield 30, 3) := by decide +kernel
theorem wX9_readLeague_60 {o : Nat} {m : Nat → Int32} (ha : h o = some (.inr (10, q_MF o m))) (kk : QW V iX9_readLeague 63 [a0] (.ref (o + 6) :: st) h z bc bs Kr Kx) : QW V iX9_readLeague 60 [a0] (.ref o :: st) h z bc bs Kr Kx := q_getf (k := 24) dX9_readLeague_60 klX9 rfl (Nat.le_of_ble_eq_true rfl : 24 < 35) k5_237 rfl ha rfl kk
theorem wX9_readLeague_60u {o : Nat} {m : Nat → Int32} (kk : QW V iX9_readLeague 63 [a0] (.ref (o + 6) :: st) (q_up h o (.inr (10, q_MF o m))) z bc bs Kr Kx) : QW V iX9_readLeague 60 [a0] (.ref o :: st) (q_up h o (.inr (10, q_MF o m))) z bc bs Kr Kx := wX9_readLeague_60 q_up_s kk
theorem dX9_readLeague_63 : decode (i_b iX9_readLeague) 63 = .ok (.iconst 4, 1) := by decide +kernel
theorem wX9_readLeague_63  (kk : QW V iX9_readLeague 64 [a0] (.int (4) :: st) h z bc bs Kr Kx) : QW V iX9_readLeague 63 [a0] (st) h z bc bs Kr Kx := q_iconst dX9_readLeague_63 (by decide) kk
theorem dX9_readLeague_64 : decode (i_b iX9_readLeague) 64 = .ok (.aload_n 0, 1) := by decide +kernel
theorem wX9_readLeague_64 {x : Nat} (kk : QW V iX9_readLeague 65 [some (.ref x)] (.ref x :: st) h z bc bs Kr Kx) : QW V iX9_readLeague 64 [some (.ref x)] (st) h z bc bs Kr Kx := q_aload_n dX9_readLeague_64 rfl rfl kk
theorem dX9_readLeague_65 : decode (i_b iX9_readLeague) 65 = .ok (.iconst 1, 1) := by decide +kernel
theorem wX9_readLeague_65  (kk : QW V iX9_readLeague 66 [a0] (.int (1) :: st) h z bc bs Kr Kx) : QW V iX9_readLeague 65 [a0] (st) h z bc bs Kr Kx := q_iconst dX9_readLeague_65 (by decide) kk
theorem dX9_readLeague_66 : decode (i_b iX9_readLeague) 66 = .ok (.ldc 141, 2) := by decide +kernel
theorem wX9_readLeague_66  (kk : QW V iX9_readLeague 68 [a0] (.int (99999) :: st) h z bc bs Kr Kx) : QW V iX9_readLeague 66 [a0] (st) h z bc bs Kr Kx := q_ldc dX9_readLeague_66 k6_151 kk
theorem dX9_readLeague_68 : decode (i_b iX9_readLeague) 68 = .ok (.invokevirtual 137, 3) := by decide +kernel
theorem wX9_readLeague_68 {a : Nat} {fs : List Value} {x0 : Int32} {x1 : Int32} (hb : h a = some (.inr (10, fs))) (hm : QMi V iX9_read [.ref a, .int x0, .int x1] h z (fun r h' z' => QW V iX9_readLeague 71 [a0] (.int r :: st) h' z' bc bs Kr Kx) Kx) (hW : (st.map fun v => v.category).sum ≤ 8 := by exact Nat.le_of_ble_eq_true rfl) : QW V iX9_readLeague 68 [a0] (.int x1 :: .int x0 :: .ref a :: st) h z bc bs Kr Kx := q_callV (y' := iX9_read) (As := [.int x0, .int x1]) (rest := st) dX9_readLeague_68 k6_147 k6_149 ks_47 k1_10 hhX9_read rfl hdX9_read rfl rfl (Nat.le_of_ble_eq_true rfl) (Nat.le_of_ble_eq_true rfl) hW rfl hb (QMi.run hm)
theorem dX9_readLeague_71 : decode (i_b iX9_readLeague) 71 = .ok (.iastore, 1) := by decide +kernel
theorem wX9_readLeague_71 {a n j : Nat} {f : Nat → Int32} {i : Int32} {x : Int32} (ha : h a = some (.inl (1, n, .inl f))) (hi : i = nI j) (hj : j < n) (hn : n < 2147483648) (kk : QW V iX9_readLeague 72 [a0] (st) (q_up h a (.inl (1, n, .inl (upd f j x)))) z bc bs Kr Kx) : QW V iX9_readLeague 71 [a0] (.int x :: .int i :: .ref a :: st) h z bc bs Kr Kx := q_iast dX9_readLeague_71 ha hi hj hn kk
theorem wX9_readLeague_71u {a n j : Nat} {f : Nat → Int32} {i : Int32} {x : Int32} (hi : i = nI j) (hj : j < n) (hn : n < 2147483648) (kk : QW V iX9_readLeague 72 [a0] (st) (q_up h a (.inl (1, n, .inl (upd f j x)))) z bc bs Kr Kx) : QW V iX9_readLeague 71 [a0] (.int x :: .int i :: .ref a :: st) (q_up h a (.inl (1, n, .inl f))) z bc bs Kr Kx := wX9_readLeague_71 q_up_s hi hj hn (by rw [q_up_u]; exact kk)
theorem dX9_readLeague_72 : decode (i_b iX9_readLeague) 72 = .ok (.aload_n 0, 1) := by decide +kernel
theorem wX9_readLeague_72 {x : Nat} (kk : QW V iX9_readLeague 73 [some (.ref x)] (.ref x :: st) h z bc bs Kr Kx) : QW V iX9_readLeague 72 [some (.ref x)] (st) h z bc bs Kr Kx := q_aload_n dX9_readLeague_72 rfl rfl kk
theorem dX9_readLeague_73 : decode (i_b iX9_readLeague) 73 = .ok (.invokevirtual 142, 3) := by decide +kernel
theorem wX9_readLeague_73 {a : Nat} {fs : List Value}  (hb : h a = some (.inr (10, fs))) (hm : QMv V iX9_expectSemicolon [.ref a] h z (fun h' z' => QW V iX9_readLeague 76 [a0] (st) h' z' bc bs Kr Kx) Kx) (hW : (st.map fun v => v.category).sum ≤ 8 := by exact Nat.le_of_ble_eq_true rfl) : QW V iX9_readLeague 73 [a0] (.ref a :: st) h z bc bs Kr Kx := q_callV (y' := iX9_expectSemicolon) (As := []) (rest := st) dX9_readLeague_73 k6_152 k6_154 ks_48 k1_10 hhX9_expectSemicolon rfl hdX9_expectSemicolon rfl rfl (Nat.le_of_ble_eq_true rfl) (Nat.le_of_ble_eq_true rfl) hW rfl hb (QMv.run hm)
theorem dX9_readLeague_76 : decode (i_b iX9_readLeague) 76 = .ok (.return_, 1) := by decide +kernel
theorem wX9_readLeague_76 {P : q_H → Option Nat → Prop} (hk : P h z) : QW V iX9_readLeague 76 [a0] [] h z bc bs (q_Kv P) Kx := q_vret dX9_readLeague_76 rfl ⟨rfl, hk⟩
theorem eX9_readBrackets {o : Nat} {P : q_H → Option Nat → Prop} (kk : QW V iX9_readBrackets 0 [some (.ref o)] [] h z 0 0 (q_Kv P) Kx) : QMv V iX9_readBrackets [.ref o] h z P Kx := q_enter rfl (by decide +kernel) rfl (Nat.le_of_ble_eq_true rfl) kk
theorem dX9_readBrackets_0 : decode (i_b iX9_readBrackets) 0 = .ok (.aload_n 0, 1) := by decide +kernel
theorem wX9_readBrackets_0 {x : Nat} (kk : QW V iX9_readBrackets 1 [some (.ref x)] (.ref x :: st) h z bc bs Kr Kx) : QW V iX9_readBrackets 0 [some (.ref x)] (st) h z bc bs Kr Kx := q_aload_n dX9_readBrackets_0 rfl rfl kk
theorem dX9_readBrackets_1 : decode (i_b iX9_readBrackets) 1 = .ok (.iconst 0, 1) := by decide +kernel
theorem wX9_readBrackets_1  (kk : QW V iX9_readBrackets 2 [a0] (.int (0) :: st) h z bc bs Kr Kx) : QW V iX9_readBrackets 1 [a0] (st) h z bc bs Kr Kx := q_iconst dX9_readBrackets_1 (by decide) kk
theorem dX9_readBrackets_2 : decode (i_b iX9_readBrackets) 2 = .ok (.putfield 145, 3) := by decide +kernel
theorem wX9_readBrackets_2 {o : Nat} {m : Nat → Int32} {x : Int32} (ha : h o = some (.inr (10, q_MF o m))) (kk : QW V iX9_readBrackets 5 [a0] (st) (q_up h o (.inr (10, q_MF o (upd m 26 x)))) z bc bs Kr Kx) : QW V iX9_readBrackets 2 [a0] (.int x :: .ref o :: st) h z bc bs Kr Kx := q_putf (k := 26) tyX9 dX9_readBrackets_2 klX9 tyX9_ok nmX9 rfl (Nat.le_of_ble_eq_true rfl : 26 < 35) k5_239 rfl rfl rfl rfl (Nat.le_of_ble_eq_true rfl) ha (by rw [q_MF_26]; exact kk)
theorem wX9_readBrackets_2u {o : Nat} {m : Nat → Int32} {x : Int32} (kk : QW V iX9_readBrackets 5 [a0] (st) (q_up h o (.inr (10, q_MF o (upd m 26 x)))) z bc bs Kr Kx) : QW V iX9_readBrackets 2 [a0] (.int x :: .ref o :: st) (q_up h o (.inr (10, q_MF o m))) z bc bs Kr Kx := wX9_readBrackets_2 q_up_s (by rw [q_up_u]; exact kk)
theorem dX9_readBrackets_5 : decode (i_b iX9_readBrackets) 5 = .ok (.aload_n 0, 1) := by decide +kernel
theorem wX9_readBrackets_5 {x : Nat} (kk : QW V iX9_readBrackets 6 [some (.ref x)] (.ref x :: st) h z bc bs Kr Kx) : QW V iX9_readBrackets 5 [some (.ref x)] (st) h z bc bs Kr Kx := q_aload_n dX9_readBrackets_5 rfl rfl kk
theorem dX9_readBrackets_6 : decode (i_b iX9_readBrackets) 6 = .ok (.ldc 148, 2) := by decide +kernel
theorem wX9_readBrackets_6  (kk : QW V iX9_readBrackets 8 [a0] (.ref (e_S V 1) :: st) h z bc bs Kr Kx) : QW V iX9_readBrackets 6 [a0] (st) h z bc bs Kr Kx := q_ldcS (tx := "bracket") dX9_readBrackets_6 (by decide +kernel) kk
theorem dX9_readBrackets_8 : decode (i_b iX9_readBrackets) 8 = .ok (.invokevirtual 120, 3) := by decide +kernel
theorem wX9_readBrackets_8 {a : Nat} {fs : List Value} {x0 : Nat} (hb : h a = some (.inr (10, fs))) (hm : QMi V iX9_isWord [.ref a, .ref x0] h z (fun r h' z' => QW V iX9_readBrackets 11 [a0] (.int r :: st) h' z' bc bs Kr Kx) Kx) (hW : (st.map fun v => v.category).sum ≤ 8 := by exact Nat.le_of_ble_eq_true rfl) : QW V iX9_readBrackets 8 [a0] (.ref x0 :: .ref a :: st) h z bc bs Kr Kx := q_callV (y' := iX9_isWord) (As := [.ref x0]) (rest := st) dX9_readBrackets_8 k6_136 k6_138 ks_45 k1_10 hhX9_isWord rfl hdX9_isWord rfl rfl (Nat.le_of_ble_eq_true rfl) (Nat.le_of_ble_eq_true rfl) hW rfl hb (QMi.run hm)
theorem dX9_readBrackets_11 : decode (i_b iX9_readBrackets) 11 = .ok (.ifCond .eq 77, 3) := by decide +kernel
theorem wX9_readBrackets_11 {x : Int32} (kt : x = 0 → QW V iX9_readBrackets 88 [a0] (st) h z bc bs Kr Kx) (kf : ¬ x = 0 → QW V iX9_readBrackets 14 [a0] (st) h z bc bs Kr Kx) : QW V iX9_readBrackets 11 [a0] (.int x :: st) h z bc bs Kr Kx := q_if_eq dX9_readBrackets_11 (by decide) kt kf
theorem dX9_readBrackets_14 : decode (i_b iX9_readBrackets) 14 = .ok (.aload_n 0, 1) := by decide +kernel
theorem wX9_readBrackets_14 {x : Nat} (kk : QW V iX9_readBrackets 15 [some (.ref x)] (.ref x :: st) h z bc bs Kr Kx) : QW V iX9_readBrackets 14 [some (.ref x)] (st) h z bc bs Kr Kx := q_aload_n dX9_readBrackets_14 rfl rfl kk
theorem dX9_readBrackets_15 : decode (i_b iX9_readBrackets) 15 = .ok (.getfield 145, 3) := by decide +kernel
theorem wX9_readBrackets_15 {o : Nat} {m : Nat → Int32} (ha : h o = some (.inr (10, q_MF o m))) (kk : QW V iX9_readBrackets 18 [a0] (.int (m 26) :: st) h z bc bs Kr Kx) : QW V iX9_readBrackets 15 [a0] (.ref o :: st) h z bc bs Kr Kx := q_getf (k := 26) dX9_readBrackets_15 klX9 rfl (Nat.le_of_ble_eq_true rfl : 26 < 35) k5_239 rfl ha rfl kk
theorem wX9_readBrackets_15u {o : Nat} {m : Nat → Int32} (kk : QW V iX9_readBrackets 18 [a0] (.int (m 26) :: st) (q_up h o (.inr (10, q_MF o m))) z bc bs Kr Kx) : QW V iX9_readBrackets 15 [a0] (.ref o :: st) (q_up h o (.inr (10, q_MF o m))) z bc bs Kr Kx := wX9_readBrackets_15 q_up_s kk
theorem dX9_readBrackets_18 : decode (i_b iX9_readBrackets) 18 = .ok (.iconst 4, 1) := by decide +kernel
theorem wX9_readBrackets_18  (kk : QW V iX9_readBrackets 19 [a0] (.int (4) :: st) h z bc bs Kr Kx) : QW V iX9_readBrackets 18 [a0] (st) h z bc bs Kr Kx := q_iconst dX9_readBrackets_18 (by decide) kk
theorem dX9_readBrackets_19 : decode (i_b iX9_readBrackets) 19 = .ok (.if_icmp .ne 9, 3) := by decide +kernel
theorem wX9_readBrackets_19 {x y : Int32} (kt : ¬ x = y → QW V iX9_readBrackets 28 [a0] (st) h z bc bs Kr Kx) (kf : x = y → QW V iX9_readBrackets 22 [a0] (st) h z bc bs Kr Kx) : QW V iX9_readBrackets 19 [a0] (.int y :: .int x :: st) h z bc bs Kr Kx := q_icmp_ne dX9_readBrackets_19 (by decide) kt kf
theorem dX9_readBrackets_22 : decode (i_b iX9_readBrackets) 22 = .ok (.aload_n 0, 1) := by decide +kernel
theorem wX9_readBrackets_22 {x : Nat} (kk : QW V iX9_readBrackets 23 [some (.ref x)] (.ref x :: st) h z bc bs Kr Kx) : QW V iX9_readBrackets 22 [some (.ref x)] (st) h z bc bs Kr Kx := q_aload_n dX9_readBrackets_22 rfl rfl kk
theorem dX9_readBrackets_23 : decode (i_b iX9_readBrackets) 23 = .ok (.iconst 3, 1) := by decide +kernel
theorem wX9_readBrackets_23  (kk : QW V iX9_readBrackets 24 [a0] (.int (3) :: st) h z bc bs Kr Kx) : QW V iX9_readBrackets 23 [a0] (st) h z bc bs Kr Kx := q_iconst dX9_readBrackets_23 (by decide) kk
theorem dX9_readBrackets_24 : decode (i_b iX9_readBrackets) 24 = .ok (.invokevirtual 124, 3) := by decide +kernel
theorem wX9_readBrackets_24 {a : Nat} {fs : List Value} {x0 : Int32} (hb : h a = some (.inr (10, fs))) (hm : QMv V iX9_fail [.ref a, .int x0] h z (fun h' z' => QW V iX9_readBrackets 27 [a0] (st) h' z' bc bs Kr Kx) Kx) (hW : (st.map fun v => v.category).sum ≤ 8 := by exact Nat.le_of_ble_eq_true rfl) : QW V iX9_readBrackets 24 [a0] (.int x0 :: .ref a :: st) h z bc bs Kr Kx := q_callV (y' := iX9_fail) (As := [.int x0]) (rest := st) dX9_readBrackets_24 k6_142 k6_144 ks_46 k1_10 hhX9_fail rfl hdX9_fail rfl rfl (Nat.le_of_ble_eq_true rfl) (Nat.le_of_ble_eq_true rfl) hW rfl hb (QMv.run hm)
theorem dX9_readBrackets_27 : decode (i_b iX9_readBrackets) 27 = .ok (.return_, 1) := by decide +kernel
theorem wX9_readBrackets_27 {P : q_H → Option Nat → Prop} (hk : P h z) : QW V iX9_readBrackets 27 [a0] [] h z bc bs (q_Kv P) Kx := q_vret dX9_readBrackets_27 rfl ⟨rfl, hk⟩
theorem dX9_readBrackets_28 : decode (i_b iX9_readBrackets) 28 = .ok (.aload_n 0, 1) := by decide +kernel
theorem wX9_readBrackets_28 {x : Nat} (kk : QW V iX9_readBrackets 29 [some (.ref x)] (.ref x :: st) h z bc bs Kr Kx) : QW V iX9_readBrackets 28 [some (.ref x)] (st) h z bc bs Kr Kx := q_aload_n dX9_readBrackets_28 rfl rfl kk
theorem dX9_readBrackets_29 : decode (i_b iX9_readBrackets) 29 = .ok (.invokevirtual 127, 3) := by decide +kernel
theorem wX9_readBrackets_29 {a : Nat} {fs : List Value}  (hb : h a = some (.inr (10, fs))) (hm : QMv V iX9_next [.ref a] h z (fun h' z' => QW V iX9_readBrackets 32 [a0] (st) h' z' bc bs Kr Kx) Kx) (hW : (st.map fun v => v.category).sum ≤ 8 := by exact Nat.le_of_ble_eq_true rfl) : QW V iX9_readBrackets 29 [a0] (.ref a :: st) h z bc bs Kr Kx := q_callV (y' := iX9_next) (As := []) (rest := st) dX9_readBrackets_29 k6_103 k6_105 ks_38 k1_10 hhX9_next rfl hdX9_next rfl rfl (Nat.le_of_ble_eq_true rfl) (Nat.le_of_ble_eq_true rfl) hW rfl hb (QMv.run hm)
theorem dX9_readBrackets_32 : decode (i_b iX9_readBrackets) 32 = .ok (.aload_n 0, 1) := by decide +kernel
theorem wX9_readBrackets_32 {x : Nat} (kk : QW V iX9_readBrackets 33 [some (.ref x)] (.ref x :: st) h z bc bs Kr Kx) : QW V iX9_readBrackets 32 [some (.ref x)] (st) h z bc bs Kr Kx := q_aload_n dX9_readBrackets_32 rfl rfl kk
theorem dX9_readBrackets_33 : decode (i_b iX9_readBrackets) 33 = .ok (.getfield 33, 3) := by decide +kernel
theorem wX9_readBrackets_33 {o : Nat} {m : Nat → Int32} (ha : h o = some (.inr (10, q_MF o m))) (kk : QW V iX9_readBrackets 36 [a0] (.ref (o + 7) :: st) h z bc bs Kr Kx) : QW V iX9_readBrackets 33 [a0] (.ref o :: st) h z bc bs Kr Kx := q_getf (k := 25) dX9_readBrackets_33 klX9 rfl (Nat.le_of_ble_eq_true rfl : 25 < 35) k5_238 rfl ha rfl kk
theorem wX9_readBrackets_33u {o : Nat} {m : Nat → Int32} (kk : QW V iX9_readBrackets 36 [a0] (.ref (o + 7) :: st) (q_up h o (.inr (10, q_MF o m))) z bc bs Kr Kx) : QW V iX9_readBrackets 33 [a0] (.ref o :: st) (q_up h o (.inr (10, q_MF o m))) z bc bs Kr Kx := wX9_readBrackets_33 q_up_s kk
theorem dX9_readBrackets_36 : decode (i_b iX9_readBrackets) 36 = .ok (.iconst 2, 1) := by decide +kernel
theorem wX9_readBrackets_36  (kk : QW V iX9_readBrackets 37 [a0] (.int (2) :: st) h z bc bs Kr Kx) : QW V iX9_readBrackets 36 [a0] (st) h z bc bs Kr Kx := q_iconst dX9_readBrackets_36 (by decide) kk
theorem dX9_readBrackets_37 : decode (i_b iX9_readBrackets) 37 = .ok (.aload_n 0, 1) := by decide +kernel
theorem wX9_readBrackets_37 {x : Nat} (kk : QW V iX9_readBrackets 38 [some (.ref x)] (.ref x :: st) h z bc bs Kr Kx) : QW V iX9_readBrackets 37 [some (.ref x)] (st) h z bc bs Kr Kx := q_aload_n dX9_readBrackets_37 rfl rfl kk
theorem dX9_readBrackets_38 : decode (i_b iX9_readBrackets) 38 = .ok (.getfield 145, 3) := by decide +kernel
theorem wX9_readBrackets_38 {o : Nat} {m : Nat → Int32} (ha : h o = some (.inr (10, q_MF o m))) (kk : QW V iX9_readBrackets 41 [a0] (.int (m 26) :: st) h z bc bs Kr Kx) : QW V iX9_readBrackets 38 [a0] (.ref o :: st) h z bc bs Kr Kx := q_getf (k := 26) dX9_readBrackets_38 klX9 rfl (Nat.le_of_ble_eq_true rfl : 26 < 35) k5_239 rfl ha rfl kk
theorem wX9_readBrackets_38u {o : Nat} {m : Nat → Int32} (kk : QW V iX9_readBrackets 41 [a0] (.int (m 26) :: st) (q_up h o (.inr (10, q_MF o m))) z bc bs Kr Kx) : QW V iX9_readBrackets 38 [a0] (.ref o :: st) (q_up h o (.inr (10, q_MF o m))) z bc bs Kr Kx := wX9_readBrackets_38 q_up_s kk
theorem dX9_readBrackets_41 : decode (i_b iX9_readBrackets) 41 = .ok (.imul, 1) := by decide +kernel
theorem wX9_readBrackets_41 {x y : Int32} (kk : QW V iX9_readBrackets 42 [a0] (.int (x * y) :: st) h z bc bs Kr Kx) : QW V iX9_readBrackets 41 [a0] (.int y :: .int x :: st) h z bc bs Kr Kx := q_imul dX9_readBrackets_41 kk
theorem dX9_readBrackets_42 : decode (i_b iX9_readBrackets) 42 = .ok (.aload_n 0, 1) := by decide +kernel
theorem wX9_readBrackets_42 {x : Nat} (kk : QW V iX9_readBrackets 43 [some (.ref x)] (.ref x :: st) h z bc bs Kr Kx) : QW V iX9_readBrackets 42 [some (.ref x)] (st) h z bc bs Kr Kx := q_aload_n dX9_readBrackets_42 rfl rfl kk
theorem dX9_readBrackets_43 : decode (i_b iX9_readBrackets) 43 = .ok (.iconst 1, 1) := by decide +kernel
theorem wX9_readBrackets_43  (kk : QW V iX9_readBrackets 44 [a0] (.int (1) :: st) h z bc bs Kr Kx) : QW V iX9_readBrackets 43 [a0] (st) h z bc bs Kr Kx := q_iconst dX9_readBrackets_43 (by decide) kk
theorem dX9_readBrackets_44 : decode (i_b iX9_readBrackets) 44 = .ok (.ldc 141, 2) := by decide +kernel
theorem wX9_readBrackets_44  (kk : QW V iX9_readBrackets 46 [a0] (.int (99999) :: st) h z bc bs Kr Kx) : QW V iX9_readBrackets 44 [a0] (st) h z bc bs Kr Kx := q_ldc dX9_readBrackets_44 k6_151 kk
theorem dX9_readBrackets_46 : decode (i_b iX9_readBrackets) 46 = .ok (.invokevirtual 137, 3) := by decide +kernel
theorem wX9_readBrackets_46 {a : Nat} {fs : List Value} {x0 : Int32} {x1 : Int32} (hb : h a = some (.inr (10, fs))) (hm : QMi V iX9_read [.ref a, .int x0, .int x1] h z (fun r h' z' => QW V iX9_readBrackets 49 [a0] (.int r :: st) h' z' bc bs Kr Kx) Kx) (hW : (st.map fun v => v.category).sum ≤ 8 := by exact Nat.le_of_ble_eq_true rfl) : QW V iX9_readBrackets 46 [a0] (.int x1 :: .int x0 :: .ref a :: st) h z bc bs Kr Kx := q_callV (y' := iX9_read) (As := [.int x0, .int x1]) (rest := st) dX9_readBrackets_46 k6_147 k6_149 ks_47 k1_10 hhX9_read rfl hdX9_read rfl rfl (Nat.le_of_ble_eq_true rfl) (Nat.le_of_ble_eq_true rfl) hW rfl hb (QMi.run hm)
theorem dX9_readBrackets_49 : decode (i_b iX9_readBrackets) 49 = .ok (.iastore, 1) := by decide +kernel
theorem wX9_readBrackets_49 {a n j : Nat} {f : Nat → Int32} {i : Int32} {x : Int32} (ha : h a = some (.inl (1, n, .inl f))) (hi : i = nI j) (hj : j < n) (hn : n < 2147483648) (kk : QW V iX9_readBrackets 50 [a0] (st) (q_up h a (.inl (1, n, .inl (upd f j x)))) z bc bs Kr Kx) : QW V iX9_readBrackets 49 [a0] (.int x :: .int i :: .ref a :: st) h z bc bs Kr Kx := q_iast dX9_readBrackets_49 ha hi hj hn kk
theorem wX9_readBrackets_49u {a n j : Nat} {f : Nat → Int32} {i : Int32} {x : Int32} (hi : i = nI j) (hj : j < n) (hn : n < 2147483648) (kk : QW V iX9_readBrackets 50 [a0] (st) (q_up h a (.inl (1, n, .inl (upd f j x)))) z bc bs Kr Kx) : QW V iX9_readBrackets 49 [a0] (.int x :: .int i :: .ref a :: st) (q_up h a (.inl (1, n, .inl f))) z bc bs Kr Kx := wX9_readBrackets_49 q_up_s hi hj hn (by rw [q_up_u]; exact kk)
theorem dX9_readBrackets_50 : decode (i_b iX9_readBrackets) 50 = .ok (.aload_n 0, 1) := by decide +kernel
theorem wX9_readBrackets_50 {x : Nat} (kk : QW V iX9_readBrackets 51 [some (.ref x)] (.ref x :: st) h z bc bs Kr Kx) : QW V iX9_readBrackets 50 [some (.ref x)] (st) h z bc bs Kr Kx := q_aload_n dX9_readBrackets_50 rfl rfl kk
theorem dX9_readBrackets_51 : decode (i_b iX9_readBrackets) 51 = .ok (.getfield 33, 3) := by decide +kernel
theorem wX9_readBrackets_51 {o : Nat} {m : Nat → Int32} (ha : h o = some (.inr (10, q_MF o m))) (kk : QW V iX9_readBrackets 54 [a0] (.ref (o + 7) :: st) h z bc bs Kr Kx) : QW V iX9_readBrackets 51 [a0] (.ref o :: st) h z bc bs Kr Kx := q_getf (k := 25) dX9_readBrackets_51 klX9 rfl (Nat.le_of_ble_eq_true rfl : 25 < 35) k5_238 rfl ha rfl kk
theorem wX9_readBrackets_51u {o : Nat} {m : Nat → Int32} (kk : QW V iX9_readBrackets 54 [a0] (.ref (o + 7) :: st) (q_up h o (.inr (10, q_MF o m))) z bc bs Kr Kx) : QW V iX9_readBrackets 51 [a0] (.ref o :: st) (q_up h o (.inr (10, q_MF o m))) z bc bs Kr Kx := wX9_readBrackets_51 q_up_s kk
theorem dX9_readBrackets_54 : decode (i_b iX9_readBrackets) 54 = .ok (.iconst 2, 1) := by decide +kernel
theorem wX9_readBrackets_54  (kk : QW V iX9_readBrackets 55 [a0] (.int (2) :: st) h z bc bs Kr Kx) : QW V iX9_readBrackets 54 [a0] (st) h z bc bs Kr Kx := q_iconst dX9_readBrackets_54 (by decide) kk
theorem dX9_readBrackets_55 : decode (i_b iX9_readBrackets) 55 = .ok (.aload_n 0, 1) := by decide +kernel
theorem wX9_readBrackets_55 {x : Nat} (kk : QW V iX9_readBrackets 56 [some (.ref x)] (.ref x :: st) h z bc bs Kr Kx) : QW V iX9_readBrackets 55 [some (.ref x)] (st) h z bc bs Kr Kx := q_aload_n dX9_readBrackets_55 rfl rfl kk
theorem dX9_readBrackets_56 : decode (i_b iX9_readBrackets) 56 = .ok (.getfield 145, 3) := by decide +kernel
theorem wX9_readBrackets_56 {o : Nat} {m : Nat → Int32} (ha : h o = some (.inr (10, q_MF o m))) (kk : QW V iX9_readBrackets 59 [a0] (.int (m 26) :: st) h z bc bs Kr Kx) : QW V iX9_readBrackets 56 [a0] (.ref o :: st) h z bc bs Kr Kx := q_getf (k := 26) dX9_readBrackets_56 klX9 rfl (Nat.le_of_ble_eq_true rfl : 26 < 35) k5_239 rfl ha rfl kk
theorem wX9_readBrackets_56u {o : Nat} {m : Nat → Int32} (kk : QW V iX9_readBrackets 59 [a0] (.int (m 26) :: st) (q_up h o (.inr (10, q_MF o m))) z bc bs Kr Kx) : QW V iX9_readBrackets 56 [a0] (.ref o :: st) (q_up h o (.inr (10, q_MF o m))) z bc bs Kr Kx := wX9_readBrackets_56 q_up_s kk
theorem dX9_readBrackets_59 : decode (i_b iX9_readBrackets) 59 = .ok (.imul, 1) := by decide +kernel
theorem wX9_readBrackets_59 {x y : Int32} (kk : QW V iX9_readBrackets 60 [a0] (.int (x * y) :: st) h z bc bs Kr Kx) : QW V iX9_readBrackets 59 [a0] (.int y :: .int x :: st) h z bc bs Kr Kx := q_imul dX9_readBrackets_59 kk
theorem dX9_readBrackets_60 : decode (i_b iX9_readBrackets) 60 = .ok (.iconst 1, 1) := by decide +kernel
theorem wX9_readBrackets_60  (kk : QW V iX9_readBrackets 61 [a0] (.int (1) :: st) h z bc bs Kr Kx) : QW V iX9_readBrackets 60 [a0] (st) h z bc bs Kr Kx := q_iconst dX9_readBrackets_60 (by decide) kk
theorem dX9_readBrackets_61 : decode (i_b iX9_readBrackets) 61 = .ok (.iadd, 1) := by decide +kernel
theorem wX9_readBrackets_61 {x y : Int32} (kk : QW V iX9_readBrackets 62 [a0] (.int (x + y) :: st) h z bc bs Kr Kx) : QW V iX9_readBrackets 61 [a0] (.int y :: .int x :: st) h z bc bs Kr Kx := q_iadd dX9_readBrackets_61 kk
theorem dX9_readBrackets_62 : decode (i_b iX9_readBrackets) 62 = .ok (.aload_n 0, 1) := by decide +kernel
theorem wX9_readBrackets_62 {x : Nat} (kk : QW V iX9_readBrackets 63 [some (.ref x)] (.ref x :: st) h z bc bs Kr Kx) : QW V iX9_readBrackets 62 [some (.ref x)] (st) h z bc bs Kr Kx := q_aload_n dX9_readBrackets_62 rfl rfl kk
theorem dX9_readBrackets_63 : decode (i_b iX9_readBrackets) 63 = .ok (.iconst 0, 1) := by decide +kernel
theorem wX9_readBrackets_63  (kk : QW V iX9_readBrackets 64 [a0] (.int (0) :: st) h z bc bs Kr Kx) : QW V iX9_readBrackets 63 [a0] (st) h z bc bs Kr Kx := q_iconst dX9_readBrackets_63 (by decide) kk
theorem dX9_readBrackets_64 : decode (i_b iX9_readBrackets) 64 = .ok (.sipush 900, 3) := by decide +kernel
theorem wX9_readBrackets_64  (kk : QW V iX9_readBrackets 67 [a0] (.int (900) :: st) h z bc bs Kr Kx) : QW V iX9_readBrackets 64 [a0] (st) h z bc bs Kr Kx := q_sipush dX9_readBrackets_64 (by decide) kk
theorem dX9_readBrackets_67 : decode (i_b iX9_readBrackets) 67 = .ok (.invokevirtual 137, 3) := by decide +kernel
theorem wX9_readBrackets_67 {a : Nat} {fs : List Value} {x0 : Int32} {x1 : Int32} (hb : h a = some (.inr (10, fs))) (hm : QMi V iX9_read [.ref a, .int x0, .int x1] h z (fun r h' z' => QW V iX9_readBrackets 70 [a0] (.int r :: st) h' z' bc bs Kr Kx) Kx) (hW : (st.map fun v => v.category).sum ≤ 8 := by exact Nat.le_of_ble_eq_true rfl) : QW V iX9_readBrackets 67 [a0] (.int x1 :: .int x0 :: .ref a :: st) h z bc bs Kr Kx := q_callV (y' := iX9_read) (As := [.int x0, .int x1]) (rest := st) dX9_readBrackets_67 k6_147 k6_149 ks_47 k1_10 hhX9_read rfl hdX9_read rfl rfl (Nat.le_of_ble_eq_true rfl) (Nat.le_of_ble_eq_true rfl) hW rfl hb (QMi.run hm)
theorem dX9_readBrackets_70 : decode (i_b iX9_readBrackets) 70 = .ok (.iastore, 1) := by decide +kernel
theorem wX9_readBrackets_70 {a n j : Nat} {f : Nat → Int32} {i : Int32} {x : Int32} (ha : h a = some (.inl (1, n, .inl f))) (hi : i = nI j) (hj : j < n) (hn : n < 2147483648) (kk : QW V iX9_readBrackets 71 [a0] (st) (q_up h a (.inl (1, n, .inl (upd f j x)))) z bc bs Kr Kx) : QW V iX9_readBrackets 70 [a0] (.int x :: .int i :: .ref a :: st) h z bc bs Kr Kx := q_iast dX9_readBrackets_70 ha hi hj hn kk
theorem wX9_readBrackets_70u {a n j : Nat} {f : Nat → Int32} {i : Int32} {x : Int32} (hi : i = nI j) (hj : j < n) (hn : n < 2147483648) (kk : QW V iX9_readBrackets 71 [a0] (st) (q_up h a (.inl (1, n, .inl (upd f j x)))) z bc bs Kr Kx) : QW V iX9_readBrackets 70 [a0] (.int x :: .int i :: .ref a :: st) (q_up h a (.inl (1, n, .inl f))) z bc bs Kr Kx := wX9_readBrackets_70 q_up_s hi hj hn (by rw [q_up_u]; exact kk)
theorem dX9_readBrackets_71 : decode (i_b iX9_readBrackets) 71 = .ok (.aload_n 0, 1) := by decide +kernel
theorem wX9_readBrackets_71 {x : Nat} (kk : QW V iX9_readBrackets 72 [some (.ref x)] (.ref x :: st) h z bc bs Kr Kx) : QW V iX9_readBrackets 71 [some (.ref x)] (st) h z bc bs Kr Kx := q_aload_n dX9_readBrackets_71 rfl rfl kk
theorem dX9_readBrackets_72 : decode (i_b iX9_readBrackets) 72 = .ok (.invokevirtual 142, 3) := by decide +kernel
theorem wX9_readBrackets_72 {a : Nat} {fs : List Value}  (hb : h a = some (.inr (10, fs))) (hm : QMv V iX9_expectSemicolon [.ref a] h z (fun h' z' => QW V iX9_readBrackets 75 [a0] (st) h' z' bc bs Kr Kx) Kx) (hW : (st.map fun v => v.category).sum ≤ 8 := by exact Nat.le_of_ble_eq_true rfl) : QW V iX9_readBrackets 72 [a0] (.ref a :: st) h z bc bs Kr Kx := q_callV (y' := iX9_expectSemicolon) (As := []) (rest := st) dX9_readBrackets_72 k6_152 k6_154 ks_48 k1_10 hhX9_expectSemicolon rfl hdX9_expectSemicolon rfl rfl (Nat.le_of_ble_eq_true rfl) (Nat.le_of_ble_eq_true rfl) hW rfl hb (QMv.run hm)
theorem dX9_readBrackets_75 : decode (i_b iX9_readBrackets) 75 = .ok (.aload_n 0, 1) := by decide +kernel
theorem wX9_readBrackets_75 {x : Nat} (kk : QW V iX9_readBrackets 76 [some (.ref x)] (.ref x :: st) h z bc bs Kr Kx) : QW V iX9_readBrackets 75 [some (.ref x)] (st) h z bc bs Kr Kx := q_aload_n dX9_readBrackets_75 rfl rfl kk
theorem dX9_readBrackets_76 : decode (i_b iX9_readBrackets) 76 = .ok (.dup, 1) := by decide +kernel
theorem wX9_readBrackets_76 {v : Value} (kk : QW V iX9_readBrackets 77 [a0] (v :: v :: st) h z bc bs Kr Kx) (hv : v.category = 1 := by rfl) : QW V iX9_readBrackets 76 [a0] (v :: st) h z bc bs Kr Kx := q_dup dX9_readBrackets_76 hv kk
theorem dX9_readBrackets_77 : decode (i_b iX9_readBrackets) 77 = .ok (.getfield 145, 3) := by decide +kernel
theorem wX9_readBrackets_77 {o : Nat} {m : Nat → Int32} (ha : h o = some (.inr (10, q_MF o m))) (kk : QW V iX9_readBrackets 80 [a0] (.int (m 26) :: st) h z bc bs Kr Kx) : QW V iX9_readBrackets 77 [a0] (.ref o :: st) h z bc bs Kr Kx := q_getf (k := 26) dX9_readBrackets_77 klX9 rfl (Nat.le_of_ble_eq_true rfl : 26 < 35) k5_239 rfl ha rfl kk
theorem wX9_readBrackets_77u {o : Nat} {m : Nat → Int32} (kk : QW V iX9_readBrackets 80 [a0] (.int (m 26) :: st) (q_up h o (.inr (10, q_MF o m))) z bc bs Kr Kx) : QW V iX9_readBrackets 77 [a0] (.ref o :: st) (q_up h o (.inr (10, q_MF o m))) z bc bs Kr Kx := wX9_readBrackets_77 q_up_s kk
theorem dX9_readBrackets_80 : decode (i_b iX9_readBrackets) 80 = .ok (.iconst 1, 1) := by decide +kernel
theorem wX9_readBrackets_80  (kk : QW V iX9_readBrackets 81 [a0] (.int (1) :: st) h z bc bs Kr Kx) : QW V iX9_readBrackets 80 [a0] (st) h z bc bs Kr Kx := q_iconst dX9_readBrackets_80 (by decide) kk
theorem dX9_readBrackets_81 : decode (i_b iX9_readBrackets) 81 = .ok (.iadd, 1) := by decide +kernel
theorem wX9_readBrackets_81 {x y : Int32} (kk : QW V iX9_readBrackets 82 [a0] (.int (x + y) :: st) h z bc bs Kr Kx) : QW V iX9_readBrackets 81 [a0] (.int y :: .int x :: st) h z bc bs Kr Kx := q_iadd dX9_readBrackets_81 kk
theorem dX9_readBrackets_82 : decode (i_b iX9_readBrackets) 82 = .ok (.putfield 145, 3) := by decide +kernel
theorem wX9_readBrackets_82 {o : Nat} {m : Nat → Int32} {x : Int32} (ha : h o = some (.inr (10, q_MF o m))) (kk : QW V iX9_readBrackets 85 [a0] (st) (q_up h o (.inr (10, q_MF o (upd m 26 x)))) z bc bs Kr Kx) : QW V iX9_readBrackets 82 [a0] (.int x :: .ref o :: st) h z bc bs Kr Kx := q_putf (k := 26) tyX9 dX9_readBrackets_82 klX9 tyX9_ok nmX9 rfl (Nat.le_of_ble_eq_true rfl : 26 < 35) k5_239 rfl rfl rfl rfl (Nat.le_of_ble_eq_true rfl) ha (by rw [q_MF_26]; exact kk)
theorem wX9_readBrackets_82u {o : Nat} {m : Nat → Int32} {x : Int32} (kk : QW V iX9_readBrackets 85 [a0] (st) (q_up h o (.inr (10, q_MF o (upd m 26 x)))) z bc bs Kr Kx) : QW V iX9_readBrackets 82 [a0] (.int x :: .ref o :: st) (q_up h o (.inr (10, q_MF o m))) z bc bs Kr Kx := wX9_readBrackets_82 q_up_s (by rw [q_up_u]; exact kk)
theorem dX9_readBrackets_85 : decode (i_b iX9_readBrackets) 85 = .ok (.goto (-80), 3) := by decide +kernel
theorem wX9_readBrackets_85  (kk : QW V iX9_readBrackets 5 [a0] (st) h z bc bs Kr Kx) : QW V iX9_readBrackets 85 [a0] (st) h z bc bs Kr Kx := q_goto dX9_readBrackets_85 (by decide) kk
theorem dX9_readBrackets_88 : decode (i_b iX9_readBrackets) 88 = .ok (.aload_n 0, 1) := by decide +kernel
theorem wX9_readBrackets_88 {x : Nat} (kk : QW V iX9_readBrackets 89 [some (.ref x)] (.ref x :: st) h z bc bs Kr Kx) : QW V iX9_readBrackets 88 [some (.ref x)] (st) h z bc bs Kr Kx := q_aload_n dX9_readBrackets_88 rfl rfl kk
theorem dX9_readBrackets_89 : decode (i_b iX9_readBrackets) 89 = .ok (.getfield 145, 3) := by decide +kernel
theorem wX9_readBrackets_89 {o : Nat} {m : Nat → Int32} (ha : h o = some (.inr (10, q_MF o m))) (kk : QW V iX9_readBrackets 92 [a0] (.int (m 26) :: st) h z bc bs Kr Kx) : QW V iX9_readBrackets 89 [a0] (.ref o :: st) h z bc bs Kr Kx := q_getf (k := 26) dX9_readBrackets_89 klX9 rfl (Nat.le_of_ble_eq_true rfl : 26 < 35) k5_239 rfl ha rfl kk
theorem wX9_readBrackets_89u {o : Nat} {m : Nat → Int32} (kk : QW V iX9_readBrackets 92 [a0] (.int (m 26) :: st) (q_up h o (.inr (10, q_MF o m))) z bc bs Kr Kx) : QW V iX9_readBrackets 89 [a0] (.ref o :: st) (q_up h o (.inr (10, q_MF o m))) z bc bs Kr Kx := wX9_readBrackets_89 q_up_s kk
theorem dX9_readBrackets_92 : decode (i_b iX9_readBrackets) 92 = .ok (.ifCond .ne 8, 3) := by decide +kernel
theorem wX9_readBrackets_92 {x : Int32} (kt : ¬ x = 0 → QW V iX9_readBrackets 100 [a0] (st) h z bc bs Kr Kx) (kf : x = 0 → QW V iX9_readBrackets 95 [a0] (st) h z bc bs Kr Kx) : QW V iX9_readBrackets 92 [a0] (.int x :: st) h z bc bs Kr Kx := q_if_ne dX9_readBrackets_92 (by decide) kt kf
theorem dX9_readBrackets_95 : decode (i_b iX9_readBrackets) 95 = .ok (.aload_n 0, 1) := by decide +kernel
theorem wX9_readBrackets_95 {x : Nat} (kk : QW V iX9_readBrackets 96 [some (.ref x)] (.ref x :: st) h z bc bs Kr Kx) : QW V iX9_readBrackets 95 [some (.ref x)] (st) h z bc bs Kr Kx := q_aload_n dX9_readBrackets_95 rfl rfl kk
theorem dX9_readBrackets_96 : decode (i_b iX9_readBrackets) 96 = .ok (.iconst 1, 1) := by decide +kernel
theorem wX9_readBrackets_96  (kk : QW V iX9_readBrackets 97 [a0] (.int (1) :: st) h z bc bs Kr Kx) : QW V iX9_readBrackets 96 [a0] (st) h z bc bs Kr Kx := q_iconst dX9_readBrackets_96 (by decide) kk
theorem dX9_readBrackets_97 : decode (i_b iX9_readBrackets) 97 = .ok (.invokevirtual 124, 3) := by decide +kernel
theorem wX9_readBrackets_97 {a : Nat} {fs : List Value} {x0 : Int32} (hb : h a = some (.inr (10, fs))) (hm : QMv V iX9_fail [.ref a, .int x0] h z (fun h' z' => QW V iX9_readBrackets 100 [a0] (st) h' z' bc bs Kr Kx) Kx) (hW : (st.map fun v => v.category).sum ≤ 8 := by exact Nat.le_of_ble_eq_true rfl) : QW V iX9_readBrackets 97 [a0] (.int x0 :: .ref a :: st) h z bc bs Kr Kx := q_callV (y' := iX9_fail) (As := [.int x0]) (rest := st) dX9_readBrackets_97 k6_142 k6_144 ks_46 k1_10 hhX9_fail rfl hdX9_fail rfl rfl (Nat.le_of_ble_eq_true rfl) (Nat.le_of_ble_eq_true rfl) hW rfl hb (QMv.run hm)
theorem dX9_readBrackets_100 : decode (i_b iX9_readBrackets) 100 = .ok (.return_, 1) := by decide +kernel
theorem wX9_readBrackets_100 {P : q_H → Option Nat → Prop} (hk : P h z) : QW V iX9_readBrackets 100 [a0] [] h z bc bs (q_Kv P) Kx := q_vret dX9_readBrackets_100 rfl ⟨rfl, hk⟩
theorem eX9_draftRoster {o : Nat} {x0 : Int32} {P : Int32 → q_H → Option Nat → Prop} (kk : QW V iX9_draftRoster 0 [some (.ref o), some (.int x0), none, none] [] h z 0 0 (q_Ki P) Kx) : QMi V iX9_draftRoster [.ref o, .int x0] h z P Kx := q_enter rfl (by decide +kernel) rfl (Nat.le_of_ble_eq_true rfl) kk
theorem dX9_draftRoster_0 : decode (i_b iX9_draftRoster) 0 = .ok (.iconst 0, 1) := by decide +kernel
theorem wX9_draftRoster_0  (kk : QW V iX9_draftRoster 1 [a0, a1, a2, a3] (.int (0) :: st) h z bc bs Kr Kx) : QW V iX9_draftRoster 0 [a0, a1, a2, a3] (st) h z bc bs Kr Kx := q_iconst dX9_draftRoster_0 (by decide) kk
theorem dX9_draftRoster_1 : decode (i_b iX9_draftRoster) 1 = .ok (.istore_n 2, 1) := by decide +kernel
theorem wX9_draftRoster_1 {x : Int32} (kk : QW V iX9_draftRoster 2 [a0, a1, some (.int x), a3] (st) h z bc bs Kr Kx) (hp : q_n2 a1 = true := by rfl) : QW V iX9_draftRoster 1 [a0, a1, a2, a3] (.int x :: st) h z bc bs Kr Kx := q_istore_n dX9_draftRoster_1 rfl (Nat.le_of_ble_eq_true rfl) hp kk
theorem dX9_draftRoster_2 : decode (i_b iX9_draftRoster) 2 = .ok (.iconst 0, 1) := by decide +kernel
theorem wX9_draftRoster_2  (kk : QW V iX9_draftRoster 3 [a0, a1, a2, a3] (.int (0) :: st) h z bc bs Kr Kx) : QW V iX9_draftRoster 2 [a0, a1, a2, a3] (st) h z bc bs Kr Kx := q_iconst dX9_draftRoster_2 (by decide) kk
theorem dX9_draftRoster_3 : decode (i_b iX9_draftRoster) 3 = .ok (.istore_n 3, 1) := by decide +kernel
theorem wX9_draftRoster_3 {x : Int32} (kk : QW V iX9_draftRoster 4 [a0, a1, a2, some (.int x)] (st) h z bc bs Kr Kx) (hp : q_n2 a2 = true := by rfl) : QW V iX9_draftRoster 3 [a0, a1, a2, a3] (.int x :: st) h z bc bs Kr Kx := q_istore_n dX9_draftRoster_3 rfl (Nat.le_of_ble_eq_true rfl) hp kk
theorem dX9_draftRoster_4 : decode (i_b iX9_draftRoster) 4 = .ok (.iload_n 3, 1) := by decide +kernel
theorem wX9_draftRoster_4 {x : Int32} (kk : QW V iX9_draftRoster 5 [a0, a1, a2, some (.int x)] (.int x :: st) h z bc bs Kr Kx) : QW V iX9_draftRoster 4 [a0, a1, a2, some (.int x)] (st) h z bc bs Kr Kx := q_iload_n dX9_draftRoster_4 rfl rfl kk
theorem dX9_draftRoster_5 : decode (i_b iX9_draftRoster) 5 = .ok (.bipush 24, 2) := by decide +kernel
theorem wX9_draftRoster_5  (kk : QW V iX9_draftRoster 7 [a0, a1, a2, a3] (.int (24) :: st) h z bc bs Kr Kx) : QW V iX9_draftRoster 5 [a0, a1, a2, a3] (st) h z bc bs Kr Kx := q_bipush dX9_draftRoster_5 (by decide) kk
theorem dX9_draftRoster_7 : decode (i_b iX9_draftRoster) 7 = .ok (.if_icmp .ge 30, 3) := by decide +kernel
theorem wX9_draftRoster_7 {x y : Int32} (kt : y ≤ x → QW V iX9_draftRoster 37 [a0, a1, a2, a3] (st) h z bc bs Kr Kx) (kf : ¬ y ≤ x → QW V iX9_draftRoster 10 [a0, a1, a2, a3] (st) h z bc bs Kr Kx) : QW V iX9_draftRoster 7 [a0, a1, a2, a3] (.int y :: .int x :: st) h z bc bs Kr Kx := q_icmp_ge dX9_draftRoster_7 (by decide) kt kf
theorem dX9_draftRoster_10 : decode (i_b iX9_draftRoster) 10 = .ok (.iload_n 2, 1) := by decide +kernel
theorem wX9_draftRoster_10 {x : Int32} (kk : QW V iX9_draftRoster 11 [a0, a1, some (.int x), a3] (.int x :: st) h z bc bs Kr Kx) : QW V iX9_draftRoster 10 [a0, a1, some (.int x), a3] (st) h z bc bs Kr Kx := q_iload_n dX9_draftRoster_10 rfl rfl kk
theorem dX9_draftRoster_11 : decode (i_b iX9_draftRoster) 11 = .ok (.aload_n 0, 1) := by decide +kernel
theorem wX9_draftRoster_11 {x : Nat} (kk : QW V iX9_draftRoster 12 [some (.ref x), a1, a2, a3] (.ref x :: st) h z bc bs Kr Kx) : QW V iX9_draftRoster 11 [some (.ref x), a1, a2, a3] (st) h z bc bs Kr Kx := q_aload_n dX9_draftRoster_11 rfl rfl kk
theorem dX9_draftRoster_12 : decode (i_b iX9_draftRoster) 12 = .ok (.getfield 36, 3) := by decide +kernel
theorem wX9_draftRoster_12 {o : Nat} {m : Nat → Int32} (ha : h o = some (.inr (10, q_MF o m))) (kk : QW V iX9_draftRoster 15 [a0, a1, a2, a3] (.ref (o + 8) :: st) h z bc bs Kr Kx) : QW V iX9_draftRoster 12 [a0, a1, a2, a3] (.ref o :: st) h z bc bs Kr Kx := q_getf (k := 27) dX9_draftRoster_12 klX9 rfl (Nat.le_of_ble_eq_true rfl : 27 < 35) k6_0 rfl ha rfl kk
theorem wX9_draftRoster_12u {o : Nat} {m : Nat → Int32} (kk : QW V iX9_draftRoster 15 [a0, a1, a2, a3] (.ref (o + 8) :: st) (q_up h o (.inr (10, q_MF o m))) z bc bs Kr Kx) : QW V iX9_draftRoster 12 [a0, a1, a2, a3] (.ref o :: st) (q_up h o (.inr (10, q_MF o m))) z bc bs Kr Kx := wX9_draftRoster_12 q_up_s kk
theorem dX9_draftRoster_15 : decode (i_b iX9_draftRoster) 15 = .ok (.bipush 9, 2) := by decide +kernel
theorem wX9_draftRoster_15  (kk : QW V iX9_draftRoster 17 [a0, a1, a2, a3] (.int (9) :: st) h z bc bs Kr Kx) : QW V iX9_draftRoster 15 [a0, a1, a2, a3] (st) h z bc bs Kr Kx := q_bipush dX9_draftRoster_15 (by decide) kk
theorem dX9_draftRoster_17 : decode (i_b iX9_draftRoster) 17 = .ok (.iload_n 3, 1) := by decide +kernel
theorem wX9_draftRoster_17 {x : Int32} (kk : QW V iX9_draftRoster 18 [a0, a1, a2, some (.int x)] (.int x :: st) h z bc bs Kr Kx) : QW V iX9_draftRoster 17 [a0, a1, a2, some (.int x)] (st) h z bc bs Kr Kx := q_iload_n dX9_draftRoster_17 rfl rfl kk
theorem dX9_draftRoster_18 : decode (i_b iX9_draftRoster) 18 = .ok (.imul, 1) := by decide +kernel
theorem wX9_draftRoster_18 {x y : Int32} (kk : QW V iX9_draftRoster 19 [a0, a1, a2, a3] (.int (x * y) :: st) h z bc bs Kr Kx) : QW V iX9_draftRoster 18 [a0, a1, a2, a3] (.int y :: .int x :: st) h z bc bs Kr Kx := q_imul dX9_draftRoster_18 kk
theorem dX9_draftRoster_19 : decode (i_b iX9_draftRoster) 19 = .ok (.iaload, 1) := by decide +kernel
theorem wX9_draftRoster_19 {a n j : Nat} {f : Nat → Int32} {i : Int32} (ha : h a = some (.inl (1, n, .inl f))) (hi : i = nI j) (hj : j < n) (hn : n < 2147483648) (kk : QW V iX9_draftRoster 20 [a0, a1, a2, a3] (.int (f j) :: st) h z bc bs Kr Kx) : QW V iX9_draftRoster 19 [a0, a1, a2, a3] (.int i :: .ref a :: st) h z bc bs Kr Kx := q_iald dX9_draftRoster_19 ha hi hj hn kk
theorem dX9_draftRoster_20 : decode (i_b iX9_draftRoster) 20 = .ok (.iload_n 1, 1) := by decide +kernel
theorem wX9_draftRoster_20 {x : Int32} (kk : QW V iX9_draftRoster 21 [a0, some (.int x), a2, a3] (.int x :: st) h z bc bs Kr Kx) : QW V iX9_draftRoster 20 [a0, some (.int x), a2, a3] (st) h z bc bs Kr Kx := q_iload_n dX9_draftRoster_20 rfl rfl kk
theorem dX9_draftRoster_21 : decode (i_b iX9_draftRoster) 21 = .ok (.if_icmp .ne 7, 3) := by decide +kernel
theorem wX9_draftRoster_21 {x y : Int32} (kt : ¬ x = y → QW V iX9_draftRoster 28 [a0, a1, a2, a3] (st) h z bc bs Kr Kx) (kf : x = y → QW V iX9_draftRoster 24 [a0, a1, a2, a3] (st) h z bc bs Kr Kx) : QW V iX9_draftRoster 21 [a0, a1, a2, a3] (.int y :: .int x :: st) h z bc bs Kr Kx := q_icmp_ne dX9_draftRoster_21 (by decide) kt kf
theorem dX9_draftRoster_24 : decode (i_b iX9_draftRoster) 24 = .ok (.iconst 1, 1) := by decide +kernel
theorem wX9_draftRoster_24  (kk : QW V iX9_draftRoster 25 [a0, a1, a2, a3] (.int (1) :: st) h z bc bs Kr Kx) : QW V iX9_draftRoster 24 [a0, a1, a2, a3] (st) h z bc bs Kr Kx := q_iconst dX9_draftRoster_24 (by decide) kk
theorem dX9_draftRoster_25 : decode (i_b iX9_draftRoster) 25 = .ok (.goto 4, 3) := by decide +kernel
theorem wX9_draftRoster_25  (kk : QW V iX9_draftRoster 29 [a0, a1, a2, a3] (st) h z bc bs Kr Kx) : QW V iX9_draftRoster 25 [a0, a1, a2, a3] (st) h z bc bs Kr Kx := q_goto dX9_draftRoster_25 (by decide) kk
theorem dX9_draftRoster_28 : decode (i_b iX9_draftRoster) 28 = .ok (.iconst 0, 1) := by decide +kernel
theorem wX9_draftRoster_28  (kk : QW V iX9_draftRoster 29 [a0, a1, a2, a3] (.int (0) :: st) h z bc bs Kr Kx) : QW V iX9_draftRoster 28 [a0, a1, a2, a3] (st) h z bc bs Kr Kx := q_iconst dX9_draftRoster_28 (by decide) kk
theorem dX9_draftRoster_29 : decode (i_b iX9_draftRoster) 29 = .ok (.iadd, 1) := by decide +kernel
theorem wX9_draftRoster_29 {x y : Int32} (kk : QW V iX9_draftRoster 30 [a0, a1, a2, a3] (.int (x + y) :: st) h z bc bs Kr Kx) : QW V iX9_draftRoster 29 [a0, a1, a2, a3] (.int y :: .int x :: st) h z bc bs Kr Kx := q_iadd dX9_draftRoster_29 kk
theorem dX9_draftRoster_30 : decode (i_b iX9_draftRoster) 30 = .ok (.istore_n 2, 1) := by decide +kernel
theorem wX9_draftRoster_30 {x : Int32} (kk : QW V iX9_draftRoster 31 [a0, a1, some (.int x), a3] (st) h z bc bs Kr Kx) (hp : q_n2 a1 = true := by rfl) : QW V iX9_draftRoster 30 [a0, a1, a2, a3] (.int x :: st) h z bc bs Kr Kx := q_istore_n dX9_draftRoster_30 rfl (Nat.le_of_ble_eq_true rfl) hp kk
theorem dX9_draftRoster_31 : decode (i_b iX9_draftRoster) 31 = .ok (.iinc 3 1, 3) := by decide +kernel
theorem wX9_draftRoster_31 {x : Int32} (kk : QW V iX9_draftRoster 34 [a0, a1, a2, some (.int (x + (1)))] (st) h z bc bs Kr Kx) (hp : q_n2 a2 = true := by rfl) : QW V iX9_draftRoster 31 [a0, a1, a2, some (.int x)] (st) h z bc bs Kr Kx := q_iinc (v := x + (1)) dX9_draftRoster_31 rfl rfl (Nat.le_of_ble_eq_true rfl) hp kk
theorem dX9_draftRoster_34 : decode (i_b iX9_draftRoster) 34 = .ok (.goto (-30), 3) := by decide +kernel
theorem wX9_draftRoster_34  (kk : QW V iX9_draftRoster 4 [a0, a1, a2, a3] (st) h z bc bs Kr Kx) : QW V iX9_draftRoster 34 [a0, a1, a2, a3] (st) h z bc bs Kr Kx := q_goto dX9_draftRoster_34 (by decide) kk
theorem dX9_draftRoster_37 : decode (i_b iX9_draftRoster) 37 = .ok (.iload_n 2, 1) := by decide +kernel
theorem wX9_draftRoster_37 {x : Int32} (kk : QW V iX9_draftRoster 38 [a0, a1, some (.int x), a3] (.int x :: st) h z bc bs Kr Kx) : QW V iX9_draftRoster 37 [a0, a1, some (.int x), a3] (st) h z bc bs Kr Kx := q_iload_n dX9_draftRoster_37 rfl rfl kk
theorem dX9_draftRoster_38 : decode (i_b iX9_draftRoster) 38 = .ok (.ireturn, 1) := by decide +kernel
theorem wX9_draftRoster_38 {x : Int32} {P : Int32 → q_H → Option Nat → Prop} (hk : P x h z) : QW V iX9_draftRoster 38 [a0, a1, a2, a3] [.int x] h z bc bs (q_Ki P) Kx := q_iret dX9_draftRoster_38 rfl rfl ⟨x, rfl, hk⟩
theorem eX9_readTaker {o : Nat} {x0 : Int32} {x1 : Int32} {P : Int32 → q_H → Option Nat → Prop} (kk : QW V iX9_readTaker 0 [some (.ref o), some (.int x0), some (.int x1)] [] h z 0 0 (q_Ki P) Kx) : QMi V iX9_readTaker [.ref o, .int x0, .int x1] h z P Kx := q_enter rfl (by decide +kernel) rfl (Nat.le_of_ble_eq_true rfl) kk
theorem dX9_readTaker_0 : decode (i_b iX9_readTaker) 0 = .ok (.aload_n 0, 1) := by decide +kernel
theorem wX9_readTaker_0 {x : Nat} (kk : QW V iX9_readTaker 1 [some (.ref x), a1, a2] (.ref x :: st) h z bc bs Kr Kx) : QW V iX9_readTaker 0 [some (.ref x), a1, a2] (st) h z bc bs Kr Kx := q_aload_n dX9_readTaker_0 rfl rfl kk
theorem dX9_readTaker_1 : decode (i_b iX9_readTaker) 1 = .ok (.getfield 97, 3) := by decide +kernel
theorem wX9_readTaker_1 {o : Nat} {m : Nat → Int32} (ha : h o = some (.inr (10, q_MF o m))) (kk : QW V iX9_readTaker 4 [a0, a1, a2] (.int (m 20) :: st) h z bc bs Kr Kx) : QW V iX9_readTaker 1 [a0, a1, a2] (.ref o :: st) h z bc bs Kr Kx := q_getf (k := 20) dX9_readTaker_1 klX9 rfl (Nat.le_of_ble_eq_true rfl : 20 < 35) k5_233 rfl ha rfl kk
theorem wX9_readTaker_1u {o : Nat} {m : Nat → Int32} (kk : QW V iX9_readTaker 4 [a0, a1, a2] (.int (m 20) :: st) (q_up h o (.inr (10, q_MF o m))) z bc bs Kr Kx) : QW V iX9_readTaker 1 [a0, a1, a2] (.ref o :: st) (q_up h o (.inr (10, q_MF o m))) z bc bs Kr Kx := wX9_readTaker_1 q_up_s kk
theorem dX9_readTaker_4 : decode (i_b iX9_readTaker) 4 = .ok (.iconst 3, 1) := by decide +kernel
theorem wX9_readTaker_4  (kk : QW V iX9_readTaker 5 [a0, a1, a2] (.int (3) :: st) h z bc bs Kr Kx) : QW V iX9_readTaker 4 [a0, a1, a2] (st) h z bc bs Kr Kx := q_iconst dX9_readTaker_4 (by decide) kk
theorem dX9_readTaker_5 : decode (i_b iX9_readTaker) 5 = .ok (.if_icmp .ne 60, 3) := by decide +kernel
theorem wX9_readTaker_5 {x y : Int32} (kt : ¬ x = y → QW V iX9_readTaker 65 [a0, a1, a2] (st) h z bc bs Kr Kx) (kf : x = y → QW V iX9_readTaker 8 [a0, a1, a2] (st) h z bc bs Kr Kx) : QW V iX9_readTaker 5 [a0, a1, a2] (.int y :: .int x :: st) h z bc bs Kr Kx := q_icmp_ne dX9_readTaker_5 (by decide) kt kf
theorem dX9_readTaker_8 : decode (i_b iX9_readTaker) 8 = .ok (.aload_n 0, 1) := by decide +kernel
theorem wX9_readTaker_8 {x : Nat} (kk : QW V iX9_readTaker 9 [some (.ref x), a1, a2] (.ref x :: st) h z bc bs Kr Kx) : QW V iX9_readTaker 8 [some (.ref x), a1, a2] (st) h z bc bs Kr Kx := q_aload_n dX9_readTaker_8 rfl rfl kk
theorem dX9_readTaker_9 : decode (i_b iX9_readTaker) 9 = .ok (.getfield 107, 3) := by decide +kernel
theorem wX9_readTaker_9 {o : Nat} {m : Nat → Int32} (ha : h o = some (.inr (10, q_MF o m))) (kk : QW V iX9_readTaker 12 [a0, a1, a2] (.int (m 21) :: st) h z bc bs Kr Kx) : QW V iX9_readTaker 9 [a0, a1, a2] (.ref o :: st) h z bc bs Kr Kx := q_getf (k := 21) dX9_readTaker_9 klX9 rfl (Nat.le_of_ble_eq_true rfl : 21 < 35) k5_234 rfl ha rfl kk
theorem wX9_readTaker_9u {o : Nat} {m : Nat → Int32} (kk : QW V iX9_readTaker 12 [a0, a1, a2] (.int (m 21) :: st) (q_up h o (.inr (10, q_MF o m))) z bc bs Kr Kx) : QW V iX9_readTaker 9 [a0, a1, a2] (.ref o :: st) (q_up h o (.inr (10, q_MF o m))) z bc bs Kr Kx := wX9_readTaker_9 q_up_s kk
theorem dX9_readTaker_12 : decode (i_b iX9_readTaker) 12 = .ok (.i2l, 1) := by decide +kernel
theorem wX9_readTaker_12 {x : Int32} (kk : QW V iX9_readTaker 13 [a0, a1, a2] (.long (x.toInt64) :: st) h z bc bs Kr Kx) : QW V iX9_readTaker 12 [a0, a1, a2] (.int x :: st) h z bc bs Kr Kx := q_i2l dX9_readTaker_12 kk
theorem dX9_readTaker_13 : decode (i_b iX9_readTaker) 13 = .ok (.lconst 0, 1) := by decide +kernel
theorem wX9_readTaker_13  (kk : QW V iX9_readTaker 14 [a0, a1, a2] (.long (0) :: st) h z bc bs Kr Kx) : QW V iX9_readTaker 13 [a0, a1, a2] (st) h z bc bs Kr Kx := q_lconst dX9_readTaker_13 (by decide) kk
theorem dX9_readTaker_14 : decode (i_b iX9_readTaker) 14 = .ok (.iload_n 1, 1) := by decide +kernel
theorem wX9_readTaker_14 {x : Int32} (kk : QW V iX9_readTaker 15 [a0, some (.int x), a2] (.int x :: st) h z bc bs Kr Kx) : QW V iX9_readTaker 14 [a0, some (.int x), a2] (st) h z bc bs Kr Kx := q_iload_n dX9_readTaker_14 rfl rfl kk
theorem dX9_readTaker_15 : decode (i_b iX9_readTaker) 15 = .ok (.iconst 1, 1) := by decide +kernel
theorem wX9_readTaker_15  (kk : QW V iX9_readTaker 16 [a0, a1, a2] (.int (1) :: st) h z bc bs Kr Kx) : QW V iX9_readTaker 15 [a0, a1, a2] (st) h z bc bs Kr Kx := q_iconst dX9_readTaker_15 (by decide) kk
theorem dX9_readTaker_16 : decode (i_b iX9_readTaker) 16 = .ok (.isub, 1) := by decide +kernel
theorem wX9_readTaker_16 {x y : Int32} (kk : QW V iX9_readTaker 17 [a0, a1, a2] (.int (x - y) :: st) h z bc bs Kr Kx) : QW V iX9_readTaker 16 [a0, a1, a2] (.int y :: .int x :: st) h z bc bs Kr Kx := q_isub dX9_readTaker_16 kk
theorem dX9_readTaker_17 : decode (i_b iX9_readTaker) 17 = .ok (.i2l, 1) := by decide +kernel
theorem wX9_readTaker_17 {x : Int32} (kk : QW V iX9_readTaker 18 [a0, a1, a2] (.long (x.toInt64) :: st) h z bc bs Kr Kx) : QW V iX9_readTaker 17 [a0, a1, a2] (.int x :: st) h z bc bs Kr Kx := q_i2l dX9_readTaker_17 kk
theorem dX9_readTaker_18 : decode (i_b iX9_readTaker) 18 = .ok (.invokestatic 65, 3) := by decide +kernel
theorem wX9_readTaker_18 {x0 : Int64} {x1 : Int64} {x2 : Int64} (hm : QMi V iX9_isIn [.long x0, .long x1, .long x2] h z (fun r h' z' => QW V iX9_readTaker 21 [a0, a1, a2] (.int r :: st) h' z' bc bs Kr Kx) Kx) (hW : (st.map fun v => v.category).sum ≤ 8 := by exact Nat.le_of_ble_eq_true rfl) : QW V iX9_readTaker 18 [a0, a1, a2] (.long x2 :: .long x1 :: .long x0 :: st) h z bc bs Kr Kx := q_callS (y' := iX9_isIn) (As := [.long x0, .long x1, .long x2]) (rest := st) dX9_readTaker_18 k6_96 k6_97 k1_10 hhX9_isIn rfl hdX9_isIn rfl (Nat.le_of_ble_eq_true rfl) (Nat.le_of_ble_eq_true rfl) hW rfl (QMi.run hm)
theorem dX9_readTaker_21 : decode (i_b iX9_readTaker) 21 = .ok (.ifCond .eq 44, 3) := by decide +kernel
theorem wX9_readTaker_21 {x : Int32} (kt : x = 0 → QW V iX9_readTaker 65 [a0, a1, a2] (st) h z bc bs Kr Kx) (kf : ¬ x = 0 → QW V iX9_readTaker 24 [a0, a1, a2] (st) h z bc bs Kr Kx) : QW V iX9_readTaker 21 [a0, a1, a2] (.int x :: st) h z bc bs Kr Kx := q_if_eq dX9_readTaker_21 (by decide) kt kf
theorem dX9_readTaker_24 : decode (i_b iX9_readTaker) 24 = .ok (.iload_n 2, 1) := by decide +kernel
theorem wX9_readTaker_24 {x : Int32} (kk : QW V iX9_readTaker 25 [a0, a1, some (.int x)] (.int x :: st) h z bc bs Kr Kx) : QW V iX9_readTaker 24 [a0, a1, some (.int x)] (st) h z bc bs Kr Kx := q_iload_n dX9_readTaker_24 rfl rfl kk
theorem dX9_readTaker_25 : decode (i_b iX9_readTaker) 25 = .ok (.ifCond .eq 22, 3) := by decide +kernel
theorem wX9_readTaker_25 {x : Int32} (kt : x = 0 → QW V iX9_readTaker 47 [a0, a1, a2] (st) h z bc bs Kr Kx) (kf : ¬ x = 0 → QW V iX9_readTaker 28 [a0, a1, a2] (st) h z bc bs Kr Kx) : QW V iX9_readTaker 25 [a0, a1, a2] (.int x :: st) h z bc bs Kr Kx := q_if_eq dX9_readTaker_25 (by decide) kt kf
theorem dX9_readTaker_28 : decode (i_b iX9_readTaker) 28 = .ok (.aload_n 0, 1) := by decide +kernel
theorem wX9_readTaker_28 {x : Nat} (kk : QW V iX9_readTaker 29 [some (.ref x), a1, a2] (.ref x :: st) h z bc bs Kr Kx) : QW V iX9_readTaker 28 [some (.ref x), a1, a2] (st) h z bc bs Kr Kx := q_aload_n dX9_readTaker_28 rfl rfl kk
theorem dX9_readTaker_29 : decode (i_b iX9_readTaker) 29 = .ok (.getfield 36, 3) := by decide +kernel
theorem wX9_readTaker_29 {o : Nat} {m : Nat → Int32} (ha : h o = some (.inr (10, q_MF o m))) (kk : QW V iX9_readTaker 32 [a0, a1, a2] (.ref (o + 8) :: st) h z bc bs Kr Kx) : QW V iX9_readTaker 29 [a0, a1, a2] (.ref o :: st) h z bc bs Kr Kx := q_getf (k := 27) dX9_readTaker_29 klX9 rfl (Nat.le_of_ble_eq_true rfl : 27 < 35) k6_0 rfl ha rfl kk
theorem wX9_readTaker_29u {o : Nat} {m : Nat → Int32} (kk : QW V iX9_readTaker 32 [a0, a1, a2] (.ref (o + 8) :: st) (q_up h o (.inr (10, q_MF o m))) z bc bs Kr Kx) : QW V iX9_readTaker 29 [a0, a1, a2] (.ref o :: st) (q_up h o (.inr (10, q_MF o m))) z bc bs Kr Kx := wX9_readTaker_29 q_up_s kk
theorem dX9_readTaker_32 : decode (i_b iX9_readTaker) 32 = .ok (.bipush 9, 2) := by decide +kernel
theorem wX9_readTaker_32  (kk : QW V iX9_readTaker 34 [a0, a1, a2] (.int (9) :: st) h z bc bs Kr Kx) : QW V iX9_readTaker 32 [a0, a1, a2] (st) h z bc bs Kr Kx := q_bipush dX9_readTaker_32 (by decide) kk
theorem dX9_readTaker_34 : decode (i_b iX9_readTaker) 34 = .ok (.aload_n 0, 1) := by decide +kernel
theorem wX9_readTaker_34 {x : Nat} (kk : QW V iX9_readTaker 35 [some (.ref x), a1, a2] (.ref x :: st) h z bc bs Kr Kx) : QW V iX9_readTaker 34 [some (.ref x), a1, a2] (st) h z bc bs Kr Kx := q_aload_n dX9_readTaker_34 rfl rfl kk
theorem dX9_readTaker_35 : decode (i_b iX9_readTaker) 35 = .ok (.getfield 107, 3) := by decide +kernel
theorem wX9_readTaker_35 {o : Nat} {m : Nat → Int32} (ha : h o = some (.inr (10, q_MF o m))) (kk : QW V iX9_readTaker 38 [a0, a1, a2] (.int (m 21) :: st) h z bc bs Kr Kx) : QW V iX9_readTaker 35 [a0, a1, a2] (.ref o :: st) h z bc bs Kr Kx := q_getf (k := 21) dX9_readTaker_35 klX9 rfl (Nat.le_of_ble_eq_true rfl : 21 < 35) k5_234 rfl ha rfl kk
theorem wX9_readTaker_35u {o : Nat} {m : Nat → Int32} (kk : QW V iX9_readTaker 38 [a0, a1, a2] (.int (m 21) :: st) (q_up h o (.inr (10, q_MF o m))) z bc bs Kr Kx) : QW V iX9_readTaker 35 [a0, a1, a2] (.ref o :: st) (q_up h o (.inr (10, q_MF o m))) z bc bs Kr Kx := wX9_readTaker_35 q_up_s kk
theorem dX9_readTaker_38 : decode (i_b iX9_readTaker) 38 = .ok (.imul, 1) := by decide +kernel
theorem wX9_readTaker_38 {x y : Int32} (kk : QW V iX9_readTaker 39 [a0, a1, a2] (.int (x * y) :: st) h z bc bs Kr Kx) : QW V iX9_readTaker 38 [a0, a1, a2] (.int y :: .int x :: st) h z bc bs Kr Kx := q_imul dX9_readTaker_38 kk
theorem dX9_readTaker_39 : decode (i_b iX9_readTaker) 39 = .ok (.iaload, 1) := by decide +kernel
theorem wX9_readTaker_39 {a n j : Nat} {f : Nat → Int32} {i : Int32} (ha : h a = some (.inl (1, n, .inl f))) (hi : i = nI j) (hj : j < n) (hn : n < 2147483648) (kk : QW V iX9_readTaker 40 [a0, a1, a2] (.int (f j) :: st) h z bc bs Kr Kx) : QW V iX9_readTaker 39 [a0, a1, a2] (.int i :: .ref a :: st) h z bc bs Kr Kx := q_iald dX9_readTaker_39 ha hi hj hn kk
theorem dX9_readTaker_40 : decode (i_b iX9_readTaker) 40 = .ok (.iconst (-1), 1) := by decide +kernel
theorem wX9_readTaker_40  (kk : QW V iX9_readTaker 41 [a0, a1, a2] (.int (-1) :: st) h z bc bs Kr Kx) : QW V iX9_readTaker 40 [a0, a1, a2] (st) h z bc bs Kr Kx := q_iconst dX9_readTaker_40 (by decide) kk
theorem dX9_readTaker_41 : decode (i_b iX9_readTaker) 41 = .ok (.if_icmp .eq 24, 3) := by decide +kernel
theorem wX9_readTaker_41 {x y : Int32} (kt : x = y → QW V iX9_readTaker 65 [a0, a1, a2] (st) h z bc bs Kr Kx) (kf : ¬ x = y → QW V iX9_readTaker 44 [a0, a1, a2] (st) h z bc bs Kr Kx) : QW V iX9_readTaker 41 [a0, a1, a2] (.int y :: .int x :: st) h z bc bs Kr Kx := q_icmp_eq dX9_readTaker_41 (by decide) kt kf
theorem dX9_readTaker_44 : decode (i_b iX9_readTaker) 44 = .ok (.goto 16, 3) := by decide +kernel
theorem wX9_readTaker_44  (kk : QW V iX9_readTaker 60 [a0, a1, a2] (st) h z bc bs Kr Kx) : QW V iX9_readTaker 44 [a0, a1, a2] (st) h z bc bs Kr Kx := q_goto dX9_readTaker_44 (by decide) kk
theorem dX9_readTaker_47 : decode (i_b iX9_readTaker) 47 = .ok (.aload_n 0, 1) := by decide +kernel
theorem wX9_readTaker_47 {x : Nat} (kk : QW V iX9_readTaker 48 [some (.ref x), a1, a2] (.ref x :: st) h z bc bs Kr Kx) : QW V iX9_readTaker 47 [some (.ref x), a1, a2] (st) h z bc bs Kr Kx := q_aload_n dX9_readTaker_47 rfl rfl kk
theorem dX9_readTaker_48 : decode (i_b iX9_readTaker) 48 = .ok (.aload_n 0, 1) := by decide +kernel
theorem wX9_readTaker_48 {x : Nat} (kk : QW V iX9_readTaker 49 [some (.ref x), a1, a2] (.ref x :: st) h z bc bs Kr Kx) : QW V iX9_readTaker 48 [some (.ref x), a1, a2] (st) h z bc bs Kr Kx := q_aload_n dX9_readTaker_48 rfl rfl kk
theorem dX9_readTaker_49 : decode (i_b iX9_readTaker) 49 = .ok (.getfield 107, 3) := by decide +kernel
theorem wX9_readTaker_49 {o : Nat} {m : Nat → Int32} (ha : h o = some (.inr (10, q_MF o m))) (kk : QW V iX9_readTaker 52 [a0, a1, a2] (.int (m 21) :: st) h z bc bs Kr Kx) : QW V iX9_readTaker 49 [a0, a1, a2] (.ref o :: st) h z bc bs Kr Kx := q_getf (k := 21) dX9_readTaker_49 klX9 rfl (Nat.le_of_ble_eq_true rfl : 21 < 35) k5_234 rfl ha rfl kk
theorem wX9_readTaker_49u {o : Nat} {m : Nat → Int32} (kk : QW V iX9_readTaker 52 [a0, a1, a2] (.int (m 21) :: st) (q_up h o (.inr (10, q_MF o m))) z bc bs Kr Kx) : QW V iX9_readTaker 49 [a0, a1, a2] (.ref o :: st) (q_up h o (.inr (10, q_MF o m))) z bc bs Kr Kx := wX9_readTaker_49 q_up_s kk
theorem dX9_readTaker_52 : decode (i_b iX9_readTaker) 52 = .ok (.invokevirtual 150, 3) := by decide +kernel
theorem wX9_readTaker_52 {a : Nat} {fs : List Value} {x0 : Int32} (hb : h a = some (.inr (10, fs))) (hm : QMi V iX9_draftRoster [.ref a, .int x0] h z (fun r h' z' => QW V iX9_readTaker 55 [a0, a1, a2] (.int r :: st) h' z' bc bs Kr Kx) Kx) (hW : (st.map fun v => v.category).sum ≤ 8 := by exact Nat.le_of_ble_eq_true rfl) : QW V iX9_readTaker 52 [a0, a1, a2] (.int x0 :: .ref a :: st) h z bc bs Kr Kx := q_callV (y' := iX9_draftRoster) (As := [.int x0]) (rest := st) dX9_readTaker_52 k6_172 k6_174 ks_52 k1_10 hhX9_draftRoster rfl hdX9_draftRoster rfl rfl (Nat.le_of_ble_eq_true rfl) (Nat.le_of_ble_eq_true rfl) hW rfl hb (QMi.run hm)
theorem dX9_readTaker_55 : decode (i_b iX9_readTaker) 55 = .ok (.bipush 12, 2) := by decide +kernel
theorem wX9_readTaker_55  (kk : QW V iX9_readTaker 57 [a0, a1, a2] (.int (12) :: st) h z bc bs Kr Kx) : QW V iX9_readTaker 55 [a0, a1, a2] (st) h z bc bs Kr Kx := q_bipush dX9_readTaker_55 (by decide) kk
theorem dX9_readTaker_57 : decode (i_b iX9_readTaker) 57 = .ok (.if_icmp .ne 8, 3) := by decide +kernel
theorem wX9_readTaker_57 {x y : Int32} (kt : ¬ x = y → QW V iX9_readTaker 65 [a0, a1, a2] (st) h z bc bs Kr Kx) (kf : x = y → QW V iX9_readTaker 60 [a0, a1, a2] (st) h z bc bs Kr Kx) : QW V iX9_readTaker 57 [a0, a1, a2] (.int y :: .int x :: st) h z bc bs Kr Kx := q_icmp_ne dX9_readTaker_57 (by decide) kt kf
theorem dX9_readTaker_60 : decode (i_b iX9_readTaker) 60 = .ok (.aload_n 0, 1) := by decide +kernel
theorem wX9_readTaker_60 {x : Nat} (kk : QW V iX9_readTaker 61 [some (.ref x), a1, a2] (.ref x :: st) h z bc bs Kr Kx) : QW V iX9_readTaker 60 [some (.ref x), a1, a2] (st) h z bc bs Kr Kx := q_aload_n dX9_readTaker_60 rfl rfl kk
theorem dX9_readTaker_61 : decode (i_b iX9_readTaker) 61 = .ok (.iconst 4, 1) := by decide +kernel
theorem wX9_readTaker_61  (kk : QW V iX9_readTaker 62 [a0, a1, a2] (.int (4) :: st) h z bc bs Kr Kx) : QW V iX9_readTaker 61 [a0, a1, a2] (st) h z bc bs Kr Kx := q_iconst dX9_readTaker_61 (by decide) kk
theorem dX9_readTaker_62 : decode (i_b iX9_readTaker) 62 = .ok (.invokevirtual 124, 3) := by decide +kernel
theorem wX9_readTaker_62 {a : Nat} {fs : List Value} {x0 : Int32} (hb : h a = some (.inr (10, fs))) (hm : QMv V iX9_fail [.ref a, .int x0] h z (fun h' z' => QW V iX9_readTaker 65 [a0, a1, a2] (st) h' z' bc bs Kr Kx) Kx) (hW : (st.map fun v => v.category).sum ≤ 8 := by exact Nat.le_of_ble_eq_true rfl) : QW V iX9_readTaker 62 [a0, a1, a2] (.int x0 :: .ref a :: st) h z bc bs Kr Kx := q_callV (y' := iX9_fail) (As := [.int x0]) (rest := st) dX9_readTaker_62 k6_142 k6_144 ks_46 k1_10 hhX9_fail rfl hdX9_fail rfl rfl (Nat.le_of_ble_eq_true rfl) (Nat.le_of_ble_eq_true rfl) hW rfl hb (QMv.run hm)
theorem dX9_readTaker_65 : decode (i_b iX9_readTaker) 65 = .ok (.aload_n 0, 1) := by decide +kernel
theorem wX9_readTaker_65 {x : Nat} (kk : QW V iX9_readTaker 66 [some (.ref x), a1, a2] (.ref x :: st) h z bc bs Kr Kx) : QW V iX9_readTaker 65 [some (.ref x), a1, a2] (st) h z bc bs Kr Kx := q_aload_n dX9_readTaker_65 rfl rfl kk
theorem dX9_readTaker_66 : decode (i_b iX9_readTaker) 66 = .ok (.iconst 0, 1) := by decide +kernel
theorem wX9_readTaker_66  (kk : QW V iX9_readTaker 67 [a0, a1, a2] (.int (0) :: st) h z bc bs Kr Kx) : QW V iX9_readTaker 66 [a0, a1, a2] (st) h z bc bs Kr Kx := q_iconst dX9_readTaker_66 (by decide) kk
theorem dX9_readTaker_67 : decode (i_b iX9_readTaker) 67 = .ok (.iload_n 1, 1) := by decide +kernel
theorem wX9_readTaker_67 {x : Int32} (kk : QW V iX9_readTaker 68 [a0, some (.int x), a2] (.int x :: st) h z bc bs Kr Kx) : QW V iX9_readTaker 67 [a0, some (.int x), a2] (st) h z bc bs Kr Kx := q_iload_n dX9_readTaker_67 rfl rfl kk
theorem dX9_readTaker_68 : decode (i_b iX9_readTaker) 68 = .ok (.iconst 1, 1) := by decide +kernel
theorem wX9_readTaker_68  (kk : QW V iX9_readTaker 69 [a0, a1, a2] (.int (1) :: st) h z bc bs Kr Kx) : QW V iX9_readTaker 68 [a0, a1, a2] (st) h z bc bs Kr Kx := q_iconst dX9_readTaker_68 (by decide) kk
theorem dX9_readTaker_69 : decode (i_b iX9_readTaker) 69 = .ok (.isub, 1) := by decide +kernel
theorem wX9_readTaker_69 {x y : Int32} (kk : QW V iX9_readTaker 70 [a0, a1, a2] (.int (x - y) :: st) h z bc bs Kr Kx) : QW V iX9_readTaker 69 [a0, a1, a2] (.int y :: .int x :: st) h z bc bs Kr Kx := q_isub dX9_readTaker_69 kk
theorem dX9_readTaker_70 : decode (i_b iX9_readTaker) 70 = .ok (.invokevirtual 137, 3) := by decide +kernel
theorem wX9_readTaker_70 {a : Nat} {fs : List Value} {x0 : Int32} {x1 : Int32} (hb : h a = some (.inr (10, fs))) (hm : QMi V iX9_read [.ref a, .int x0, .int x1] h z (fun r h' z' => QW V iX9_readTaker 73 [a0, a1, a2] (.int r :: st) h' z' bc bs Kr Kx) Kx) (hW : (st.map fun v => v.category).sum ≤ 8 := by exact Nat.le_of_ble_eq_true rfl) : QW V iX9_readTaker 70 [a0, a1, a2] (.int x1 :: .int x0 :: .ref a :: st) h z bc bs Kr Kx := q_callV (y' := iX9_read) (As := [.int x0, .int x1]) (rest := st) dX9_readTaker_70 k6_147 k6_149 ks_47 k1_10 hhX9_read rfl hdX9_read rfl rfl (Nat.le_of_ble_eq_true rfl) (Nat.le_of_ble_eq_true rfl) hW rfl hb (QMi.run hm)
theorem dX9_readTaker_73 : decode (i_b iX9_readTaker) 73 = .ok (.ireturn, 1) := by decide +kernel
theorem wX9_readTaker_73 {x : Int32} {P : Int32 → q_H → Option Nat → Prop} (hk : P x h z) : QW V iX9_readTaker 73 [a0, a1, a2] [.int x] h z bc bs (q_Ki P) Kx := q_iret dX9_readTaker_73 rfl rfl ⟨x, rfl, hk⟩
theorem eX9_readContract {o : Nat} {P : q_H → Option Nat → Prop} (kk : QW V iX9_readContract 0 [some (.ref o), none, none, none, none, none, none, none, none] [] h z 0 0 (q_Kv P) Kx) : QMv V iX9_readContract [.ref o] h z P Kx := q_enter rfl (by decide +kernel) rfl (Nat.le_of_ble_eq_true rfl) kk
theorem dX9_readContract_0 : decode (i_b iX9_readContract) 0 = .ok (.aload_n 0, 1) := by decide +kernel
theorem wX9_readContract_0 {x : Nat} (kk : QW V iX9_readContract 1 [some (.ref x), a1, a2, a3, a4, a5, a6, a7, a8] (.ref x :: st) h z bc bs Kr Kx) : QW V iX9_readContract 0 [some (.ref x), a1, a2, a3, a4, a5, a6, a7, a8] (st) h z bc bs Kr Kx := q_aload_n dX9_readContract_0 rfl rfl kk
theorem dX9_readContract_1 : decode (i_b iX9_readContract) 1 = .ok (.invokevirtual 127, 3) := by decide +kernel
theorem wX9_readContract_1 {a : Nat} {fs : List Value}  (hb : h a = some (.inr (10, fs))) (hm : QMv V iX9_next [.ref a] h z (fun h' z' => QW V iX9_readContract 4 [a0, a1, a2, a3, a4, a5, a6, a7, a8] (st) h' z' bc bs Kr Kx) Kx) (hW : (st.map fun v => v.category).sum ≤ 8 := by exact Nat.le_of_ble_eq_true rfl) : QW V iX9_readContract 1 [a0, a1, a2, a3, a4, a5, a6, a7, a8] (.ref a :: st) h z bc bs Kr Kx := q_callV (y' := iX9_next) (As := []) (rest := st) dX9_readContract_1 k6_103 k6_105 ks_38 k1_10 hhX9_next rfl hdX9_next rfl rfl (Nat.le_of_ble_eq_true rfl) (Nat.le_of_ble_eq_true rfl) hW rfl hb (QMv.run hm)
theorem dX9_readContract_4 : decode (i_b iX9_readContract) 4 = .ok (.aload_n 0, 1) := by decide +kernel
theorem wX9_readContract_4 {x : Nat} (kk : QW V iX9_readContract 5 [some (.ref x), a1, a2, a3, a4, a5, a6, a7, a8] (.ref x :: st) h z bc bs Kr Kx) : QW V iX9_readContract 4 [some (.ref x), a1, a2, a3, a4, a5, a6, a7, a8] (st) h z bc bs Kr Kx := q_aload_n dX9_readContract_4 rfl rfl kk
theorem dX9_readContract_5 : decode (i_b iX9_readContract) 5 = .ok (.aload_n 0, 1) := by decide +kernel
theorem wX9_readContract_5 {x : Nat} (kk : QW V iX9_readContract 6 [some (.ref x), a1, a2, a3, a4, a5, a6, a7, a8] (.ref x :: st) h z bc bs Kr Kx) : QW V iX9_readContract 5 [some (.ref x), a1, a2, a3, a4, a5, a6, a7, a8] (st) h z bc bs Kr Kx := q_aload_n dX9_readContract_5 rfl rfl kk
theorem dX9_readContract_6 : decode (i_b iX9_readContract) 6 = .ok (.getfield 30, 3) := by decide +kernel
theorem wX9_readContract_6 {o : Nat} {m : Nat → Int32} (ha : h o = some (.inr (10, q_MF o m))) (kk : QW V iX9_readContract 9 [a0, a1, a2, a3, a4, a5, a6, a7, a8] (.ref (o + 6) :: st) h z bc bs Kr Kx) : QW V iX9_readContract 6 [a0, a1, a2, a3, a4, a5, a6, a7, a8] (.ref o :: st) h z bc bs Kr Kx := q_getf (k := 24) dX9_readContract_6 klX9 rfl (Nat.le_of_ble_eq_true rfl : 24 < 35) k5_237 rfl ha rfl kk
theorem wX9_readContract_6u {o : Nat} {m : Nat → Int32} (kk : QW V iX9_readContract 9 [a0, a1, a2, a3, a4, a5, a6, a7, a8] (.ref (o + 6) :: st) (q_up h o (.inr (10, q_MF o m))) z bc bs Kr Kx) : QW V iX9_readContract 6 [a0, a1, a2, a3, a4, a5, a6, a7, a8] (.ref o :: st) (q_up h o (.inr (10, q_MF o m))) z bc bs Kr Kx := wX9_readContract_6 q_up_s kk
theorem dX9_readContract_9 : decode (i_b iX9_readContract) 9 = .ok (.bipush 6, 2) := by decide +kernel
theorem wX9_readContract_9  (kk : QW V iX9_readContract 11 [a0, a1, a2, a3, a4, a5, a6, a7, a8] (.int (6) :: st) h z bc bs Kr Kx) : QW V iX9_readContract 9 [a0, a1, a2, a3, a4, a5, a6, a7, a8] (st) h z bc bs Kr Kx := q_bipush dX9_readContract_9 (by decide) kk
theorem dX9_readContract_11 : decode (i_b iX9_readContract) 11 = .ok (.iaload, 1) := by decide +kernel
theorem wX9_readContract_11 {a n j : Nat} {f : Nat → Int32} {i : Int32} (ha : h a = some (.inl (1, n, .inl f))) (hi : i = nI j) (hj : j < n) (hn : n < 2147483648) (kk : QW V iX9_readContract 12 [a0, a1, a2, a3, a4, a5, a6, a7, a8] (.int (f j) :: st) h z bc bs Kr Kx) : QW V iX9_readContract 11 [a0, a1, a2, a3, a4, a5, a6, a7, a8] (.int i :: .ref a :: st) h z bc bs Kr Kx := q_iald dX9_readContract_11 ha hi hj hn kk
theorem dX9_readContract_12 : decode (i_b iX9_readContract) 12 = .ok (.iconst 1, 1) := by decide +kernel
theorem wX9_readContract_12  (kk : QW V iX9_readContract 13 [a0, a1, a2, a3, a4, a5, a6, a7, a8] (.int (1) :: st) h z bc bs Kr Kx) : QW V iX9_readContract 12 [a0, a1, a2, a3, a4, a5, a6, a7, a8] (st) h z bc bs Kr Kx := q_iconst dX9_readContract_12 (by decide) kk
theorem dX9_readContract_13 : decode (i_b iX9_readContract) 13 = .ok (.invokevirtual 153, 3) := by decide +kernel
theorem wX9_readContract_13 {a : Nat} {fs : List Value} {x0 : Int32} {x1 : Int32} (hb : h a = some (.inr (10, fs))) (hm : QMi V iX9_readTaker [.ref a, .int x0, .int x1] h z (fun r h' z' => QW V iX9_readContract 16 [a0, a1, a2, a3, a4, a5, a6, a7, a8] (.int r :: st) h' z' bc bs Kr Kx) Kx) (hW : (st.map fun v => v.category).sum ≤ 8 := by exact Nat.le_of_ble_eq_true rfl) : QW V iX9_readContract 13 [a0, a1, a2, a3, a4, a5, a6, a7, a8] (.int x1 :: .int x0 :: .ref a :: st) h z bc bs Kr Kx := q_callV (y' := iX9_readTaker) (As := [.int x0, .int x1]) (rest := st) dX9_readContract_13 k6_168 k6_170 ks_51 k1_10 hhX9_readTaker rfl hdX9_readTaker rfl rfl (Nat.le_of_ble_eq_true rfl) (Nat.le_of_ble_eq_true rfl) hW rfl hb (QMi.run hm)
theorem dX9_readContract_16 : decode (i_b iX9_readContract) 16 = .ok (.istore_n 1, 1) := by decide +kernel
theorem wX9_readContract_16 {x : Int32} (kk : QW V iX9_readContract 17 [a0, some (.int x), a2, a3, a4, a5, a6, a7, a8] (st) h z bc bs Kr Kx) (hp : q_n2 a0 = true := by rfl) : QW V iX9_readContract 16 [a0, a1, a2, a3, a4, a5, a6, a7, a8] (.int x :: st) h z bc bs Kr Kx := q_istore_n dX9_readContract_16 rfl (Nat.le_of_ble_eq_true rfl) hp kk
theorem dX9_readContract_17 : decode (i_b iX9_readContract) 17 = .ok (.aload_n 0, 1) := by decide +kernel
theorem wX9_readContract_17 {x : Nat} (kk : QW V iX9_readContract 18 [some (.ref x), a1, a2, a3, a4, a5, a6, a7, a8] (.ref x :: st) h z bc bs Kr Kx) : QW V iX9_readContract 17 [some (.ref x), a1, a2, a3, a4, a5, a6, a7, a8] (st) h z bc bs Kr Kx := q_aload_n dX9_readContract_17 rfl rfl kk
theorem dX9_readContract_18 : decode (i_b iX9_readContract) 18 = .ok (.aload_n 0, 1) := by decide +kernel
theorem wX9_readContract_18 {x : Nat} (kk : QW V iX9_readContract 19 [some (.ref x), a1, a2, a3, a4, a5, a6, a7, a8] (.ref x :: st) h z bc bs Kr Kx) : QW V iX9_readContract 18 [some (.ref x), a1, a2, a3, a4, a5, a6, a7, a8] (st) h z bc bs Kr Kx := q_aload_n dX9_readContract_18 rfl rfl kk
theorem dX9_readContract_19 : decode (i_b iX9_readContract) 19 = .ok (.getfield 30, 3) := by decide +kernel
theorem wX9_readContract_19 {o : Nat} {m : Nat → Int32} (ha : h o = some (.inr (10, q_MF o m))) (kk : QW V iX9_readContract 22 [a0, a1, a2, a3, a4, a5, a6, a7, a8] (.ref (o + 6) :: st) h z bc bs Kr Kx) : QW V iX9_readContract 19 [a0, a1, a2, a3, a4, a5, a6, a7, a8] (.ref o :: st) h z bc bs Kr Kx := q_getf (k := 24) dX9_readContract_19 klX9 rfl (Nat.le_of_ble_eq_true rfl : 24 < 35) k5_237 rfl ha rfl kk
theorem wX9_readContract_19u {o : Nat} {m : Nat → Int32} (kk : QW V iX9_readContract 22 [a0, a1, a2, a3, a4, a5, a6, a7, a8] (.ref (o + 6) :: st) (q_up h o (.inr (10, q_MF o m))) z bc bs Kr Kx) : QW V iX9_readContract 19 [a0, a1, a2, a3, a4, a5, a6, a7, a8] (.ref o :: st) (q_up h o (.inr (10, q_MF o m))) z bc bs Kr Kx := wX9_readContract_19 q_up_s kk
theorem dX9_readContract_22 : decode (i_b iX9_readContract) 22 = .ok (.iconst 5, 1) := by decide +kernel
theorem wX9_readContract_22  (kk : QW V iX9_readContract 23 [a0, a1, a2, a3, a4, a5, a6, a7, a8] (.int (5) :: st) h z bc bs Kr Kx) : QW V iX9_readContract 22 [a0, a1, a2, a3, a4, a5, a6, a7, a8] (st) h z bc bs Kr Kx := q_iconst dX9_readContract_22 (by decide) kk
theorem dX9_readContract_23 : decode (i_b iX9_readContract) 23 = .ok (.iaload, 1) := by decide +kernel
theorem wX9_readContract_23 {a n j : Nat} {f : Nat → Int32} {i : Int32} (ha : h a = some (.inl (1, n, .inl f))) (hi : i = nI j) (hj : j < n) (hn : n < 2147483648) (kk : QW V iX9_readContract 24 [a0, a1, a2, a3, a4, a5, a6, a7, a8] (.int (f j) :: st) h z bc bs Kr Kx) : QW V iX9_readContract 23 [a0, a1, a2, a3, a4, a5, a6, a7, a8] (.int i :: .ref a :: st) h z bc bs Kr Kx := q_iald dX9_readContract_23 ha hi hj hn kk
theorem dX9_readContract_24 : decode (i_b iX9_readContract) 24 = .ok (.iconst 0, 1) := by decide +kernel
theorem wX9_readContract_24  (kk : QW V iX9_readContract 25 [a0, a1, a2, a3, a4, a5, a6, a7, a8] (.int (0) :: st) h z bc bs Kr Kx) : QW V iX9_readContract 24 [a0, a1, a2, a3, a4, a5, a6, a7, a8] (st) h z bc bs Kr Kx := q_iconst dX9_readContract_24 (by decide) kk
theorem dX9_readContract_25 : decode (i_b iX9_readContract) 25 = .ok (.invokevirtual 153, 3) := by decide +kernel
theorem wX9_readContract_25 {a : Nat} {fs : List Value} {x0 : Int32} {x1 : Int32} (hb : h a = some (.inr (10, fs))) (hm : QMi V iX9_readTaker [.ref a, .int x0, .int x1] h z (fun r h' z' => QW V iX9_readContract 28 [a0, a1, a2, a3, a4, a5, a6, a7, a8] (.int r :: st) h' z' bc bs Kr Kx) Kx) (hW : (st.map fun v => v.category).sum ≤ 8 := by exact Nat.le_of_ble_eq_true rfl) : QW V iX9_readContract 25 [a0, a1, a2, a3, a4, a5, a6, a7, a8] (.int x1 :: .int x0 :: .ref a :: st) h z bc bs Kr Kx := q_callV (y' := iX9_readTaker) (As := [.int x0, .int x1]) (rest := st) dX9_readContract_25 k6_168 k6_170 ks_51 k1_10 hhX9_readTaker rfl hdX9_readTaker rfl rfl (Nat.le_of_ble_eq_true rfl) (Nat.le_of_ble_eq_true rfl) hW rfl hb (QMi.run hm)
theorem dX9_readContract_28 : decode (i_b iX9_readContract) 28 = .ok (.istore_n 2, 1) := by decide +kernel
theorem wX9_readContract_28 {x : Int32} (kk : QW V iX9_readContract 29 [a0, a1, some (.int x), a3, a4, a5, a6, a7, a8] (st) h z bc bs Kr Kx) (hp : q_n2 a1 = true := by rfl) : QW V iX9_readContract 28 [a0, a1, a2, a3, a4, a5, a6, a7, a8] (.int x :: st) h z bc bs Kr Kx := q_istore_n dX9_readContract_28 rfl (Nat.le_of_ble_eq_true rfl) hp kk
theorem dX9_readContract_29 : decode (i_b iX9_readContract) 29 = .ok (.aload_n 0, 1) := by decide +kernel
theorem wX9_readContract_29 {x : Nat} (kk : QW V iX9_readContract 30 [some (.ref x), a1, a2, a3, a4, a5, a6, a7, a8] (.ref x :: st) h z bc bs Kr Kx) : QW V iX9_readContract 29 [some (.ref x), a1, a2, a3, a4, a5, a6, a7, a8] (st) h z bc bs Kr Kx := q_aload_n dX9_readContract_29 rfl rfl kk
theorem dX9_readContract_30 : decode (i_b iX9_readContract) 30 = .ok (.iconst 1, 1) := by decide +kernel
theorem wX9_readContract_30  (kk : QW V iX9_readContract 31 [a0, a1, a2, a3, a4, a5, a6, a7, a8] (.int (1) :: st) h z bc bs Kr Kx) : QW V iX9_readContract 30 [a0, a1, a2, a3, a4, a5, a6, a7, a8] (st) h z bc bs Kr Kx := q_iconst dX9_readContract_30 (by decide) kk
theorem dX9_readContract_31 : decode (i_b iX9_readContract) 31 = .ok (.ldc 141, 2) := by decide +kernel
theorem wX9_readContract_31  (kk : QW V iX9_readContract 33 [a0, a1, a2, a3, a4, a5, a6, a7, a8] (.int (99999) :: st) h z bc bs Kr Kx) : QW V iX9_readContract 31 [a0, a1, a2, a3, a4, a5, a6, a7, a8] (st) h z bc bs Kr Kx := q_ldc dX9_readContract_31 k6_151 kk
theorem dX9_readContract_33 : decode (i_b iX9_readContract) 33 = .ok (.invokevirtual 137, 3) := by decide +kernel
theorem wX9_readContract_33 {a : Nat} {fs : List Value} {x0 : Int32} {x1 : Int32} (hb : h a = some (.inr (10, fs))) (hm : QMi V iX9_read [.ref a, .int x0, .int x1] h z (fun r h' z' => QW V iX9_readContract 36 [a0, a1, a2, a3, a4, a5, a6, a7, a8] (.int r :: st) h' z' bc bs Kr Kx) Kx) (hW : (st.map fun v => v.category).sum ≤ 8 := by exact Nat.le_of_ble_eq_true rfl) : QW V iX9_readContract 33 [a0, a1, a2, a3, a4, a5, a6, a7, a8] (.int x1 :: .int x0 :: .ref a :: st) h z bc bs Kr Kx := q_callV (y' := iX9_read) (As := [.int x0, .int x1]) (rest := st) dX9_readContract_33 k6_147 k6_149 ks_47 k1_10 hhX9_read rfl hdX9_read rfl rfl (Nat.le_of_ble_eq_true rfl) (Nat.le_of_ble_eq_true rfl) hW rfl hb (QMi.run hm)
theorem dX9_readContract_36 : decode (i_b iX9_readContract) 36 = .ok (.istore_n 3, 1) := by decide +kernel
theorem wX9_readContract_36 {x : Int32} (kk : QW V iX9_readContract 37 [a0, a1, a2, some (.int x), a4, a5, a6, a7, a8] (st) h z bc bs Kr Kx) (hp : q_n2 a2 = true := by rfl) : QW V iX9_readContract 36 [a0, a1, a2, a3, a4, a5, a6, a7, a8] (.int x :: st) h z bc bs Kr Kx := q_istore_n dX9_readContract_36 rfl (Nat.le_of_ble_eq_true rfl) hp kk
theorem dX9_readContract_37 : decode (i_b iX9_readContract) 37 = .ok (.aload_n 0, 1) := by decide +kernel
theorem wX9_readContract_37 {x : Nat} (kk : QW V iX9_readContract 38 [some (.ref x), a1, a2, a3, a4, a5, a6, a7, a8] (.ref x :: st) h z bc bs Kr Kx) : QW V iX9_readContract 37 [some (.ref x), a1, a2, a3, a4, a5, a6, a7, a8] (st) h z bc bs Kr Kx := q_aload_n dX9_readContract_37 rfl rfl kk
theorem dX9_readContract_38 : decode (i_b iX9_readContract) 38 = .ok (.iconst 0, 1) := by decide +kernel
theorem wX9_readContract_38  (kk : QW V iX9_readContract 39 [a0, a1, a2, a3, a4, a5, a6, a7, a8] (.int (0) :: st) h z bc bs Kr Kx) : QW V iX9_readContract 38 [a0, a1, a2, a3, a4, a5, a6, a7, a8] (st) h z bc bs Kr Kx := q_iconst dX9_readContract_38 (by decide) kk
theorem dX9_readContract_39 : decode (i_b iX9_readContract) 39 = .ok (.bipush 20, 2) := by decide +kernel
theorem wX9_readContract_39  (kk : QW V iX9_readContract 41 [a0, a1, a2, a3, a4, a5, a6, a7, a8] (.int (20) :: st) h z bc bs Kr Kx) : QW V iX9_readContract 39 [a0, a1, a2, a3, a4, a5, a6, a7, a8] (st) h z bc bs Kr Kx := q_bipush dX9_readContract_39 (by decide) kk
theorem dX9_readContract_41 : decode (i_b iX9_readContract) 41 = .ok (.invokevirtual 137, 3) := by decide +kernel
theorem wX9_readContract_41 {a : Nat} {fs : List Value} {x0 : Int32} {x1 : Int32} (hb : h a = some (.inr (10, fs))) (hm : QMi V iX9_read [.ref a, .int x0, .int x1] h z (fun r h' z' => QW V iX9_readContract 44 [a0, a1, a2, a3, a4, a5, a6, a7, a8] (.int r :: st) h' z' bc bs Kr Kx) Kx) (hW : (st.map fun v => v.category).sum ≤ 8 := by exact Nat.le_of_ble_eq_true rfl) : QW V iX9_readContract 41 [a0, a1, a2, a3, a4, a5, a6, a7, a8] (.int x1 :: .int x0 :: .ref a :: st) h z bc bs Kr Kx := q_callV (y' := iX9_read) (As := [.int x0, .int x1]) (rest := st) dX9_readContract_41 k6_147 k6_149 ks_47 k1_10 hhX9_read rfl hdX9_read rfl rfl (Nat.le_of_ble_eq_true rfl) (Nat.le_of_ble_eq_true rfl) hW rfl hb (QMi.run hm)
theorem dX9_readContract_44 : decode (i_b iX9_readContract) 44 = .ok (.istore 4, 2) := by decide +kernel
theorem wX9_readContract_44 {x : Int32} (kk : QW V iX9_readContract 46 [a0, a1, a2, a3, some (.int x), a5, a6, a7, a8] (st) h z bc bs Kr Kx) (hp : q_n2 a3 = true := by rfl) : QW V iX9_readContract 44 [a0, a1, a2, a3, a4, a5, a6, a7, a8] (.int x :: st) h z bc bs Kr Kx := q_istore dX9_readContract_44 (Nat.le_of_ble_eq_true rfl) hp kk
theorem dX9_readContract_46 : decode (i_b iX9_readContract) 46 = .ok (.aload_n 0, 1) := by decide +kernel
theorem wX9_readContract_46 {x : Nat} (kk : QW V iX9_readContract 47 [some (.ref x), a1, a2, a3, a4, a5, a6, a7, a8] (.ref x :: st) h z bc bs Kr Kx) : QW V iX9_readContract 46 [some (.ref x), a1, a2, a3, a4, a5, a6, a7, a8] (st) h z bc bs Kr Kx := q_aload_n dX9_readContract_46 rfl rfl kk
theorem dX9_readContract_47 : decode (i_b iX9_readContract) 47 = .ok (.iconst 1, 1) := by decide +kernel
theorem wX9_readContract_47  (kk : QW V iX9_readContract 48 [a0, a1, a2, a3, a4, a5, a6, a7, a8] (.int (1) :: st) h z bc bs Kr Kx) : QW V iX9_readContract 47 [a0, a1, a2, a3, a4, a5, a6, a7, a8] (st) h z bc bs Kr Kx := q_iconst dX9_readContract_47 (by decide) kk
theorem dX9_readContract_48 : decode (i_b iX9_readContract) 48 = .ok (.iconst 5, 1) := by decide +kernel
theorem wX9_readContract_48  (kk : QW V iX9_readContract 49 [a0, a1, a2, a3, a4, a5, a6, a7, a8] (.int (5) :: st) h z bc bs Kr Kx) : QW V iX9_readContract 48 [a0, a1, a2, a3, a4, a5, a6, a7, a8] (st) h z bc bs Kr Kx := q_iconst dX9_readContract_48 (by decide) kk
theorem dX9_readContract_49 : decode (i_b iX9_readContract) 49 = .ok (.invokevirtual 137, 3) := by decide +kernel
theorem wX9_readContract_49 {a : Nat} {fs : List Value} {x0 : Int32} {x1 : Int32} (hb : h a = some (.inr (10, fs))) (hm : QMi V iX9_read [.ref a, .int x0, .int x1] h z (fun r h' z' => QW V iX9_readContract 52 [a0, a1, a2, a3, a4, a5, a6, a7, a8] (.int r :: st) h' z' bc bs Kr Kx) Kx) (hW : (st.map fun v => v.category).sum ≤ 8 := by exact Nat.le_of_ble_eq_true rfl) : QW V iX9_readContract 49 [a0, a1, a2, a3, a4, a5, a6, a7, a8] (.int x1 :: .int x0 :: .ref a :: st) h z bc bs Kr Kx := q_callV (y' := iX9_read) (As := [.int x0, .int x1]) (rest := st) dX9_readContract_49 k6_147 k6_149 ks_47 k1_10 hhX9_read rfl hdX9_read rfl rfl (Nat.le_of_ble_eq_true rfl) (Nat.le_of_ble_eq_true rfl) hW rfl hb (QMi.run hm)
theorem dX9_readContract_52 : decode (i_b iX9_readContract) 52 = .ok (.istore 5, 2) := by decide +kernel
theorem wX9_readContract_52 {x : Int32} (kk : QW V iX9_readContract 54 [a0, a1, a2, a3, a4, some (.int x), a6, a7, a8] (st) h z bc bs Kr Kx) (hp : q_n2 a4 = true := by rfl) : QW V iX9_readContract 52 [a0, a1, a2, a3, a4, a5, a6, a7, a8] (.int x :: st) h z bc bs Kr Kx := q_istore dX9_readContract_52 (Nat.le_of_ble_eq_true rfl) hp kk
theorem dX9_readContract_54 : decode (i_b iX9_readContract) 54 = .ok (.aload_n 0, 1) := by decide +kernel
theorem wX9_readContract_54 {x : Nat} (kk : QW V iX9_readContract 55 [some (.ref x), a1, a2, a3, a4, a5, a6, a7, a8] (.ref x :: st) h z bc bs Kr Kx) : QW V iX9_readContract 54 [some (.ref x), a1, a2, a3, a4, a5, a6, a7, a8] (st) h z bc bs Kr Kx := q_aload_n dX9_readContract_54 rfl rfl kk
theorem dX9_readContract_55 : decode (i_b iX9_readContract) 55 = .ok (.iconst 0, 1) := by decide +kernel
theorem wX9_readContract_55  (kk : QW V iX9_readContract 56 [a0, a1, a2, a3, a4, a5, a6, a7, a8] (.int (0) :: st) h z bc bs Kr Kx) : QW V iX9_readContract 55 [a0, a1, a2, a3, a4, a5, a6, a7, a8] (st) h z bc bs Kr Kx := q_iconst dX9_readContract_55 (by decide) kk
theorem dX9_readContract_56 : decode (i_b iX9_readContract) 56 = .ok (.ldc 141, 2) := by decide +kernel
theorem wX9_readContract_56  (kk : QW V iX9_readContract 58 [a0, a1, a2, a3, a4, a5, a6, a7, a8] (.int (99999) :: st) h z bc bs Kr Kx) : QW V iX9_readContract 56 [a0, a1, a2, a3, a4, a5, a6, a7, a8] (st) h z bc bs Kr Kx := q_ldc dX9_readContract_56 k6_151 kk
theorem dX9_readContract_58 : decode (i_b iX9_readContract) 58 = .ok (.invokevirtual 137, 3) := by decide +kernel
theorem wX9_readContract_58 {a : Nat} {fs : List Value} {x0 : Int32} {x1 : Int32} (hb : h a = some (.inr (10, fs))) (hm : QMi V iX9_read [.ref a, .int x0, .int x1] h z (fun r h' z' => QW V iX9_readContract 61 [a0, a1, a2, a3, a4, a5, a6, a7, a8] (.int r :: st) h' z' bc bs Kr Kx) Kx) (hW : (st.map fun v => v.category).sum ≤ 8 := by exact Nat.le_of_ble_eq_true rfl) : QW V iX9_readContract 58 [a0, a1, a2, a3, a4, a5, a6, a7, a8] (.int x1 :: .int x0 :: .ref a :: st) h z bc bs Kr Kx := q_callV (y' := iX9_read) (As := [.int x0, .int x1]) (rest := st) dX9_readContract_58 k6_147 k6_149 ks_47 k1_10 hhX9_read rfl hdX9_read rfl rfl (Nat.le_of_ble_eq_true rfl) (Nat.le_of_ble_eq_true rfl) hW rfl hb (QMi.run hm)
theorem dX9_readContract_61 : decode (i_b iX9_readContract) 61 = .ok (.istore 6, 2) := by decide +kernel
theorem wX9_readContract_61 {x : Int32} (kk : QW V iX9_readContract 63 [a0, a1, a2, a3, a4, a5, some (.int x), a7, a8] (st) h z bc bs Kr Kx) (hp : q_n2 a5 = true := by rfl) : QW V iX9_readContract 61 [a0, a1, a2, a3, a4, a5, a6, a7, a8] (.int x :: st) h z bc bs Kr Kx := q_istore dX9_readContract_61 (Nat.le_of_ble_eq_true rfl) hp kk
theorem dX9_readContract_63 : decode (i_b iX9_readContract) 63 = .ok (.aload_n 0, 1) := by decide +kernel
theorem wX9_readContract_63 {x : Nat} (kk : QW V iX9_readContract 64 [some (.ref x), a1, a2, a3, a4, a5, a6, a7, a8] (.ref x :: st) h z bc bs Kr Kx) : QW V iX9_readContract 63 [some (.ref x), a1, a2, a3, a4, a5, a6, a7, a8] (st) h z bc bs Kr Kx := q_aload_n dX9_readContract_63 rfl rfl kk
theorem dX9_readContract_64 : decode (i_b iX9_readContract) 64 = .ok (.iconst 0, 1) := by decide +kernel
theorem wX9_readContract_64  (kk : QW V iX9_readContract 65 [a0, a1, a2, a3, a4, a5, a6, a7, a8] (.int (0) :: st) h z bc bs Kr Kx) : QW V iX9_readContract 64 [a0, a1, a2, a3, a4, a5, a6, a7, a8] (st) h z bc bs Kr Kx := q_iconst dX9_readContract_64 (by decide) kk
theorem dX9_readContract_65 : decode (i_b iX9_readContract) 65 = .ok (.iload 5, 2) := by decide +kernel
theorem wX9_readContract_65 {x : Int32} (kk : QW V iX9_readContract 67 [a0, a1, a2, a3, a4, some (.int x), a6, a7, a8] (.int x :: st) h z bc bs Kr Kx) : QW V iX9_readContract 65 [a0, a1, a2, a3, a4, some (.int x), a6, a7, a8] (st) h z bc bs Kr Kx := q_iload dX9_readContract_65 rfl kk
theorem dX9_readContract_67 : decode (i_b iX9_readContract) 67 = .ok (.invokevirtual 137, 3) := by decide +kernel
theorem wX9_readContract_67 {a : Nat} {fs : List Value} {x0 : Int32} {x1 : Int32} (hb : h a = some (.inr (10, fs))) (hm : QMi V iX9_read [.ref a, .int x0, .int x1] h z (fun r h' z' => QW V iX9_readContract 70 [a0, a1, a2, a3, a4, a5, a6, a7, a8] (.int r :: st) h' z' bc bs Kr Kx) Kx) (hW : (st.map fun v => v.category).sum ≤ 8 := by exact Nat.le_of_ble_eq_true rfl) : QW V iX9_readContract 67 [a0, a1, a2, a3, a4, a5, a6, a7, a8] (.int x1 :: .int x0 :: .ref a :: st) h z bc bs Kr Kx := q_callV (y' := iX9_read) (As := [.int x0, .int x1]) (rest := st) dX9_readContract_67 k6_147 k6_149 ks_47 k1_10 hhX9_read rfl hdX9_read rfl rfl (Nat.le_of_ble_eq_true rfl) (Nat.le_of_ble_eq_true rfl) hW rfl hb (QMi.run hm)
theorem dX9_readContract_70 : decode (i_b iX9_readContract) 70 = .ok (.istore 7, 2) := by decide +kernel
theorem wX9_readContract_70 {x : Int32} (kk : QW V iX9_readContract 72 [a0, a1, a2, a3, a4, a5, a6, some (.int x), a8] (st) h z bc bs Kr Kx) (hp : q_n2 a6 = true := by rfl) : QW V iX9_readContract 70 [a0, a1, a2, a3, a4, a5, a6, a7, a8] (.int x :: st) h z bc bs Kr Kx := q_istore dX9_readContract_70 (Nat.le_of_ble_eq_true rfl) hp kk
theorem dX9_readContract_72 : decode (i_b iX9_readContract) 72 = .ok (.aload_n 0, 1) := by decide +kernel
theorem wX9_readContract_72 {x : Nat} (kk : QW V iX9_readContract 73 [some (.ref x), a1, a2, a3, a4, a5, a6, a7, a8] (.ref x :: st) h z bc bs Kr Kx) : QW V iX9_readContract 72 [some (.ref x), a1, a2, a3, a4, a5, a6, a7, a8] (st) h z bc bs Kr Kx := q_aload_n dX9_readContract_72 rfl rfl kk
theorem dX9_readContract_73 : decode (i_b iX9_readContract) 73 = .ok (.invokevirtual 87, 3) := by decide +kernel
theorem wX9_readContract_73 {a : Nat} {fs : List Value}  (hb : h a = some (.inr (10, fs))) (hm : QMi V iX9_isFine [.ref a] h z (fun r h' z' => QW V iX9_readContract 76 [a0, a1, a2, a3, a4, a5, a6, a7, a8] (.int r :: st) h' z' bc bs Kr Kx) Kx) (hW : (st.map fun v => v.category).sum ≤ 8 := by exact Nat.le_of_ble_eq_true rfl) : QW V iX9_readContract 73 [a0, a1, a2, a3, a4, a5, a6, a7, a8] (.ref a :: st) h z bc bs Kr Kx := q_callV (y' := iX9_isFine) (As := []) (rest := st) dX9_readContract_73 k6_107 k6_109 ks_39 k1_10 hhX9_isFine rfl hdX9_isFine rfl rfl (Nat.le_of_ble_eq_true rfl) (Nat.le_of_ble_eq_true rfl) hW rfl hb (QMi.run hm)
theorem dX9_readContract_76 : decode (i_b iX9_readContract) 76 = .ok (.ifCond .ne 4, 3) := by decide +kernel
theorem wX9_readContract_76 {x : Int32} (kt : ¬ x = 0 → QW V iX9_readContract 80 [a0, a1, a2, a3, a4, a5, a6, a7, a8] (st) h z bc bs Kr Kx) (kf : x = 0 → QW V iX9_readContract 79 [a0, a1, a2, a3, a4, a5, a6, a7, a8] (st) h z bc bs Kr Kx) : QW V iX9_readContract 76 [a0, a1, a2, a3, a4, a5, a6, a7, a8] (.int x :: st) h z bc bs Kr Kx := q_if_ne dX9_readContract_76 (by decide) kt kf
theorem dX9_readContract_79 : decode (i_b iX9_readContract) 79 = .ok (.return_, 1) := by decide +kernel
theorem wX9_readContract_79 {P : q_H → Option Nat → Prop} (hk : P h z) : QW V iX9_readContract 79 [a0, a1, a2, a3, a4, a5, a6, a7, a8] [] h z bc bs (q_Kv P) Kx := q_vret dX9_readContract_79 rfl ⟨rfl, hk⟩
theorem dX9_readContract_80 : decode (i_b iX9_readContract) 80 = .ok (.bipush 9, 2) := by decide +kernel
theorem wX9_readContract_80  (kk : QW V iX9_readContract 82 [a0, a1, a2, a3, a4, a5, a6, a7, a8] (.int (9) :: st) h z bc bs Kr Kx) : QW V iX9_readContract 80 [a0, a1, a2, a3, a4, a5, a6, a7, a8] (st) h z bc bs Kr Kx := q_bipush dX9_readContract_80 (by decide) kk
theorem dX9_readContract_82 : decode (i_b iX9_readContract) 82 = .ok (.iload_n 1, 1) := by decide +kernel
theorem wX9_readContract_82 {x : Int32} (kk : QW V iX9_readContract 83 [a0, some (.int x), a2, a3, a4, a5, a6, a7, a8] (.int x :: st) h z bc bs Kr Kx) : QW V iX9_readContract 82 [a0, some (.int x), a2, a3, a4, a5, a6, a7, a8] (st) h z bc bs Kr Kx := q_iload_n dX9_readContract_82 rfl rfl kk
theorem dX9_readContract_83 : decode (i_b iX9_readContract) 83 = .ok (.imul, 1) := by decide +kernel
theorem wX9_readContract_83 {x y : Int32} (kk : QW V iX9_readContract 84 [a0, a1, a2, a3, a4, a5, a6, a7, a8] (.int (x * y) :: st) h z bc bs Kr Kx) : QW V iX9_readContract 83 [a0, a1, a2, a3, a4, a5, a6, a7, a8] (.int y :: .int x :: st) h z bc bs Kr Kx := q_imul dX9_readContract_83 kk
theorem dX9_readContract_84 : decode (i_b iX9_readContract) 84 = .ok (.istore 8, 2) := by decide +kernel
theorem wX9_readContract_84 {x : Int32} (kk : QW V iX9_readContract 86 [a0, a1, a2, a3, a4, a5, a6, a7, some (.int x)] (st) h z bc bs Kr Kx) (hp : q_n2 a7 = true := by rfl) : QW V iX9_readContract 84 [a0, a1, a2, a3, a4, a5, a6, a7, a8] (.int x :: st) h z bc bs Kr Kx := q_istore dX9_readContract_84 (Nat.le_of_ble_eq_true rfl) hp kk
theorem dX9_readContract_86 : decode (i_b iX9_readContract) 86 = .ok (.aload_n 0, 1) := by decide +kernel
theorem wX9_readContract_86 {x : Nat} (kk : QW V iX9_readContract 87 [some (.ref x), a1, a2, a3, a4, a5, a6, a7, a8] (.ref x :: st) h z bc bs Kr Kx) : QW V iX9_readContract 86 [some (.ref x), a1, a2, a3, a4, a5, a6, a7, a8] (st) h z bc bs Kr Kx := q_aload_n dX9_readContract_86 rfl rfl kk
theorem dX9_readContract_87 : decode (i_b iX9_readContract) 87 = .ok (.getfield 36, 3) := by decide +kernel
theorem wX9_readContract_87 {o : Nat} {m : Nat → Int32} (ha : h o = some (.inr (10, q_MF o m))) (kk : QW V iX9_readContract 90 [a0, a1, a2, a3, a4, a5, a6, a7, a8] (.ref (o + 8) :: st) h z bc bs Kr Kx) : QW V iX9_readContract 87 [a0, a1, a2, a3, a4, a5, a6, a7, a8] (.ref o :: st) h z bc bs Kr Kx := q_getf (k := 27) dX9_readContract_87 klX9 rfl (Nat.le_of_ble_eq_true rfl : 27 < 35) k6_0 rfl ha rfl kk
theorem wX9_readContract_87u {o : Nat} {m : Nat → Int32} (kk : QW V iX9_readContract 90 [a0, a1, a2, a3, a4, a5, a6, a7, a8] (.ref (o + 8) :: st) (q_up h o (.inr (10, q_MF o m))) z bc bs Kr Kx) : QW V iX9_readContract 87 [a0, a1, a2, a3, a4, a5, a6, a7, a8] (.ref o :: st) (q_up h o (.inr (10, q_MF o m))) z bc bs Kr Kx := wX9_readContract_87 q_up_s kk
theorem dX9_readContract_90 : decode (i_b iX9_readContract) 90 = .ok (.iload 8, 2) := by decide +kernel
theorem wX9_readContract_90 {x : Int32} (kk : QW V iX9_readContract 92 [a0, a1, a2, a3, a4, a5, a6, a7, some (.int x)] (.int x :: st) h z bc bs Kr Kx) : QW V iX9_readContract 90 [a0, a1, a2, a3, a4, a5, a6, a7, some (.int x)] (st) h z bc bs Kr Kx := q_iload dX9_readContract_90 rfl kk
theorem dX9_readContract_92 : decode (i_b iX9_readContract) 92 = .ok (.iload_n 2, 1) := by decide +kernel
theorem wX9_readContract_92 {x : Int32} (kk : QW V iX9_readContract 93 [a0, a1, some (.int x), a3, a4, a5, a6, a7, a8] (.int x :: st) h z bc bs Kr Kx) : QW V iX9_readContract 92 [a0, a1, some (.int x), a3, a4, a5, a6, a7, a8] (st) h z bc bs Kr Kx := q_iload_n dX9_readContract_92 rfl rfl kk
theorem dX9_readContract_93 : decode (i_b iX9_readContract) 93 = .ok (.iastore, 1) := by decide +kernel
theorem wX9_readContract_93 {a n j : Nat} {f : Nat → Int32} {i : Int32} {x : Int32} (ha : h a = some (.inl (1, n, .inl f))) (hi : i = nI j) (hj : j < n) (hn : n < 2147483648) (kk : QW V iX9_readContract 94 [a0, a1, a2, a3, a4, a5, a6, a7, a8] (st) (q_up h a (.inl (1, n, .inl (upd f j x)))) z bc bs Kr Kx) : QW V iX9_readContract 93 [a0, a1, a2, a3, a4, a5, a6, a7, a8] (.int x :: .int i :: .ref a :: st) h z bc bs Kr Kx := q_iast dX9_readContract_93 ha hi hj hn kk
theorem wX9_readContract_93u {a n j : Nat} {f : Nat → Int32} {i : Int32} {x : Int32} (hi : i = nI j) (hj : j < n) (hn : n < 2147483648) (kk : QW V iX9_readContract 94 [a0, a1, a2, a3, a4, a5, a6, a7, a8] (st) (q_up h a (.inl (1, n, .inl (upd f j x)))) z bc bs Kr Kx) : QW V iX9_readContract 93 [a0, a1, a2, a3, a4, a5, a6, a7, a8] (.int x :: .int i :: .ref a :: st) (q_up h a (.inl (1, n, .inl f))) z bc bs Kr Kx := wX9_readContract_93 q_up_s hi hj hn (by rw [q_up_u]; exact kk)
theorem dX9_readContract_94 : decode (i_b iX9_readContract) 94 = .ok (.aload_n 0, 1) := by decide +kernel
theorem wX9_readContract_94 {x : Nat} (kk : QW V iX9_readContract 95 [some (.ref x), a1, a2, a3, a4, a5, a6, a7, a8] (.ref x :: st) h z bc bs Kr Kx) : QW V iX9_readContract 94 [some (.ref x), a1, a2, a3, a4, a5, a6, a7, a8] (st) h z bc bs Kr Kx := q_aload_n dX9_readContract_94 rfl rfl kk
theorem dX9_readContract_95 : decode (i_b iX9_readContract) 95 = .ok (.getfield 36, 3) := by decide +kernel
theorem wX9_readContract_95 {o : Nat} {m : Nat → Int32} (ha : h o = some (.inr (10, q_MF o m))) (kk : QW V iX9_readContract 98 [a0, a1, a2, a3, a4, a5, a6, a7, a8] (.ref (o + 8) :: st) h z bc bs Kr Kx) : QW V iX9_readContract 95 [a0, a1, a2, a3, a4, a5, a6, a7, a8] (.ref o :: st) h z bc bs Kr Kx := q_getf (k := 27) dX9_readContract_95 klX9 rfl (Nat.le_of_ble_eq_true rfl : 27 < 35) k6_0 rfl ha rfl kk
theorem wX9_readContract_95u {o : Nat} {m : Nat → Int32} (kk : QW V iX9_readContract 98 [a0, a1, a2, a3, a4, a5, a6, a7, a8] (.ref (o + 8) :: st) (q_up h o (.inr (10, q_MF o m))) z bc bs Kr Kx) : QW V iX9_readContract 95 [a0, a1, a2, a3, a4, a5, a6, a7, a8] (.ref o :: st) (q_up h o (.inr (10, q_MF o m))) z bc bs Kr Kx := wX9_readContract_95 q_up_s kk
theorem dX9_readContract_98 : decode (i_b iX9_readContract) 98 = .ok (.iload 8, 2) := by decide +kernel
theorem wX9_readContract_98 {x : Int32} (kk : QW V iX9_readContract 100 [a0, a1, a2, a3, a4, a5, a6, a7, some (.int x)] (.int x :: st) h z bc bs Kr Kx) : QW V iX9_readContract 98 [a0, a1, a2, a3, a4, a5, a6, a7, some (.int x)] (st) h z bc bs Kr Kx := q_iload dX9_readContract_98 rfl kk
theorem dX9_readContract_100 : decode (i_b iX9_readContract) 100 = .ok (.iconst 1, 1) := by decide +kernel
theorem wX9_readContract_100  (kk : QW V iX9_readContract 101 [a0, a1, a2, a3, a4, a5, a6, a7, a8] (.int (1) :: st) h z bc bs Kr Kx) : QW V iX9_readContract 100 [a0, a1, a2, a3, a4, a5, a6, a7, a8] (st) h z bc bs Kr Kx := q_iconst dX9_readContract_100 (by decide) kk
theorem dX9_readContract_101 : decode (i_b iX9_readContract) 101 = .ok (.iadd, 1) := by decide +kernel
theorem wX9_readContract_101 {x y : Int32} (kk : QW V iX9_readContract 102 [a0, a1, a2, a3, a4, a5, a6, a7, a8] (.int (x + y) :: st) h z bc bs Kr Kx) : QW V iX9_readContract 101 [a0, a1, a2, a3, a4, a5, a6, a7, a8] (.int y :: .int x :: st) h z bc bs Kr Kx := q_iadd dX9_readContract_101 kk
theorem dX9_readContract_102 : decode (i_b iX9_readContract) 102 = .ok (.iload_n 3, 1) := by decide +kernel
theorem wX9_readContract_102 {x : Int32} (kk : QW V iX9_readContract 103 [a0, a1, a2, some (.int x), a4, a5, a6, a7, a8] (.int x :: st) h z bc bs Kr Kx) : QW V iX9_readContract 102 [a0, a1, a2, some (.int x), a4, a5, a6, a7, a8] (st) h z bc bs Kr Kx := q_iload_n dX9_readContract_102 rfl rfl kk
theorem dX9_readContract_103 : decode (i_b iX9_readContract) 103 = .ok (.iastore, 1) := by decide +kernel
theorem wX9_readContract_103 {a n j : Nat} {f : Nat → Int32} {i : Int32} {x : Int32} (ha : h a = some (.inl (1, n, .inl f))) (hi : i = nI j) (hj : j < n) (hn : n < 2147483648) (kk : QW V iX9_readContract 104 [a0, a1, a2, a3, a4, a5, a6, a7, a8] (st) (q_up h a (.inl (1, n, .inl (upd f j x)))) z bc bs Kr Kx) : QW V iX9_readContract 103 [a0, a1, a2, a3, a4, a5, a6, a7, a8] (.int x :: .int i :: .ref a :: st) h z bc bs Kr Kx := q_iast dX9_readContract_103 ha hi hj hn kk
theorem wX9_readContract_103u {a n j : Nat} {f : Nat → Int32} {i : Int32} {x : Int32} (hi : i = nI j) (hj : j < n) (hn : n < 2147483648) (kk : QW V iX9_readContract 104 [a0, a1, a2, a3, a4, a5, a6, a7, a8] (st) (q_up h a (.inl (1, n, .inl (upd f j x)))) z bc bs Kr Kx) : QW V iX9_readContract 103 [a0, a1, a2, a3, a4, a5, a6, a7, a8] (.int x :: .int i :: .ref a :: st) (q_up h a (.inl (1, n, .inl f))) z bc bs Kr Kx := wX9_readContract_103 q_up_s hi hj hn (by rw [q_up_u]; exact kk)
theorem dX9_readContract_104 : decode (i_b iX9_readContract) 104 = .ok (.aload_n 0, 1) := by decide +kernel
theorem wX9_readContract_104 {x : Nat} (kk : QW V iX9_readContract 105 [some (.ref x), a1, a2, a3, a4, a5, a6, a7, a8] (.ref x :: st) h z bc bs Kr Kx) : QW V iX9_readContract 104 [some (.ref x), a1, a2, a3, a4, a5, a6, a7, a8] (st) h z bc bs Kr Kx := q_aload_n dX9_readContract_104 rfl rfl kk
theorem dX9_readContract_105 : decode (i_b iX9_readContract) 105 = .ok (.getfield 36, 3) := by decide +kernel
theorem wX9_readContract_105 {o : Nat} {m : Nat → Int32} (ha : h o = some (.inr (10, q_MF o m))) (kk : QW V iX9_readContract 108 [a0, a1, a2, a3, a4, a5, a6, a7, a8] (.ref (o + 8) :: st) h z bc bs Kr Kx) : QW V iX9_readContract 105 [a0, a1, a2, a3, a4, a5, a6, a7, a8] (.ref o :: st) h z bc bs Kr Kx := q_getf (k := 27) dX9_readContract_105 klX9 rfl (Nat.le_of_ble_eq_true rfl : 27 < 35) k6_0 rfl ha rfl kk
theorem wX9_readContract_105u {o : Nat} {m : Nat → Int32} (kk : QW V iX9_readContract 108 [a0, a1, a2, a3, a4, a5, a6, a7, a8] (.ref (o + 8) :: st) (q_up h o (.inr (10, q_MF o m))) z bc bs Kr Kx) : QW V iX9_readContract 105 [a0, a1, a2, a3, a4, a5, a6, a7, a8] (.ref o :: st) (q_up h o (.inr (10, q_MF o m))) z bc bs Kr Kx := wX9_readContract_105 q_up_s kk
theorem dX9_readContract_108 : decode (i_b iX9_readContract) 108 = .ok (.iload 8, 2) := by decide +kernel
theorem wX9_readContract_108 {x : Int32} (kk : QW V iX9_readContract 110 [a0, a1, a2, a3, a4, a5, a6, a7, some (.int x)] (.int x :: st) h z bc bs Kr Kx) : QW V iX9_readContract 108 [a0, a1, a2, a3, a4, a5, a6, a7, some (.int x)] (st) h z bc bs Kr Kx := q_iload dX9_readContract_108 rfl kk
theorem dX9_readContract_110 : decode (i_b iX9_readContract) 110 = .ok (.iconst 2, 1) := by decide +kernel
theorem wX9_readContract_110  (kk : QW V iX9_readContract 111 [a0, a1, a2, a3, a4, a5, a6, a7, a8] (.int (2) :: st) h z bc bs Kr Kx) : QW V iX9_readContract 110 [a0, a1, a2, a3, a4, a5, a6, a7, a8] (st) h z bc bs Kr Kx := q_iconst dX9_readContract_110 (by decide) kk
theorem dX9_readContract_111 : decode (i_b iX9_readContract) 111 = .ok (.iadd, 1) := by decide +kernel
theorem wX9_readContract_111 {x y : Int32} (kk : QW V iX9_readContract 112 [a0, a1, a2, a3, a4, a5, a6, a7, a8] (.int (x + y) :: st) h z bc bs Kr Kx) : QW V iX9_readContract 111 [a0, a1, a2, a3, a4, a5, a6, a7, a8] (.int y :: .int x :: st) h z bc bs Kr Kx := q_iadd dX9_readContract_111 kk
theorem dX9_readContract_112 : decode (i_b iX9_readContract) 112 = .ok (.iload 4, 2) := by decide +kernel
theorem wX9_readContract_112 {x : Int32} (kk : QW V iX9_readContract 114 [a0, a1, a2, a3, some (.int x), a5, a6, a7, a8] (.int x :: st) h z bc bs Kr Kx) : QW V iX9_readContract 112 [a0, a1, a2, a3, some (.int x), a5, a6, a7, a8] (st) h z bc bs Kr Kx := q_iload dX9_readContract_112 rfl kk
theorem dX9_readContract_114 : decode (i_b iX9_readContract) 114 = .ok (.iastore, 1) := by decide +kernel
theorem wX9_readContract_114 {a n j : Nat} {f : Nat → Int32} {i : Int32} {x : Int32} (ha : h a = some (.inl (1, n, .inl f))) (hi : i = nI j) (hj : j < n) (hn : n < 2147483648) (kk : QW V iX9_readContract 115 [a0, a1, a2, a3, a4, a5, a6, a7, a8] (st) (q_up h a (.inl (1, n, .inl (upd f j x)))) z bc bs Kr Kx) : QW V iX9_readContract 114 [a0, a1, a2, a3, a4, a5, a6, a7, a8] (.int x :: .int i :: .ref a :: st) h z bc bs Kr Kx := q_iast dX9_readContract_114 ha hi hj hn kk
theorem wX9_readContract_114u {a n j : Nat} {f : Nat → Int32} {i : Int32} {x : Int32} (hi : i = nI j) (hj : j < n) (hn : n < 2147483648) (kk : QW V iX9_readContract 115 [a0, a1, a2, a3, a4, a5, a6, a7, a8] (st) (q_up h a (.inl (1, n, .inl (upd f j x)))) z bc bs Kr Kx) : QW V iX9_readContract 114 [a0, a1, a2, a3, a4, a5, a6, a7, a8] (.int x :: .int i :: .ref a :: st) (q_up h a (.inl (1, n, .inl f))) z bc bs Kr Kx := wX9_readContract_114 q_up_s hi hj hn (by rw [q_up_u]; exact kk)
theorem dX9_readContract_115 : decode (i_b iX9_readContract) 115 = .ok (.aload_n 0, 1) := by decide +kernel
theorem wX9_readContract_115 {x : Nat} (kk : QW V iX9_readContract 116 [some (.ref x), a1, a2, a3, a4, a5, a6, a7, a8] (.ref x :: st) h z bc bs Kr Kx) : QW V iX9_readContract 115 [some (.ref x), a1, a2, a3, a4, a5, a6, a7, a8] (st) h z bc bs Kr Kx := q_aload_n dX9_readContract_115 rfl rfl kk
theorem dX9_readContract_116 : decode (i_b iX9_readContract) 116 = .ok (.getfield 36, 3) := by decide +kernel
theorem wX9_readContract_116 {o : Nat} {m : Nat → Int32} (ha : h o = some (.inr (10, q_MF o m))) (kk : QW V iX9_readContract 119 [a0, a1, a2, a3, a4, a5, a6, a7, a8] (.ref (o + 8) :: st) h z bc bs Kr Kx) : QW V iX9_readContract 116 [a0, a1, a2, a3, a4, a5, a6, a7, a8] (.ref o :: st) h z bc bs Kr Kx := q_getf (k := 27) dX9_readContract_116 klX9 rfl (Nat.le_of_ble_eq_true rfl : 27 < 35) k6_0 rfl ha rfl kk
theorem wX9_readContract_116u {o : Nat} {m : Nat → Int32} (kk : QW V iX9_readContract 119 [a0, a1, a2, a3, a4, a5, a6, a7, a8] (.ref (o + 8) :: st) (q_up h o (.inr (10, q_MF o m))) z bc bs Kr Kx) : QW V iX9_readContract 116 [a0, a1, a2, a3, a4, a5, a6, a7, a8] (.ref o :: st) (q_up h o (.inr (10, q_MF o m))) z bc bs Kr Kx := wX9_readContract_116 q_up_s kk
theorem dX9_readContract_119 : decode (i_b iX9_readContract) 119 = .ok (.iload 8, 2) := by decide +kernel
theorem wX9_readContract_119 {x : Int32} (kk : QW V iX9_readContract 121 [a0, a1, a2, a3, a4, a5, a6, a7, some (.int x)] (.int x :: st) h z bc bs Kr Kx) : QW V iX9_readContract 119 [a0, a1, a2, a3, a4, a5, a6, a7, some (.int x)] (st) h z bc bs Kr Kx := q_iload dX9_readContract_119 rfl kk
theorem dX9_readContract_121 : decode (i_b iX9_readContract) 121 = .ok (.iconst 3, 1) := by decide +kernel
theorem wX9_readContract_121  (kk : QW V iX9_readContract 122 [a0, a1, a2, a3, a4, a5, a6, a7, a8] (.int (3) :: st) h z bc bs Kr Kx) : QW V iX9_readContract 121 [a0, a1, a2, a3, a4, a5, a6, a7, a8] (st) h z bc bs Kr Kx := q_iconst dX9_readContract_121 (by decide) kk
theorem dX9_readContract_122 : decode (i_b iX9_readContract) 122 = .ok (.iadd, 1) := by decide +kernel
theorem wX9_readContract_122 {x y : Int32} (kk : QW V iX9_readContract 123 [a0, a1, a2, a3, a4, a5, a6, a7, a8] (.int (x + y) :: st) h z bc bs Kr Kx) : QW V iX9_readContract 122 [a0, a1, a2, a3, a4, a5, a6, a7, a8] (.int y :: .int x :: st) h z bc bs Kr Kx := q_iadd dX9_readContract_122 kk
theorem dX9_readContract_123 : decode (i_b iX9_readContract) 123 = .ok (.iload 5, 2) := by decide +kernel
theorem wX9_readContract_123 {x : Int32} (kk : QW V iX9_readContract 125 [a0, a1, a2, a3, a4, some (.int x), a6, a7, a8] (.int x :: st) h z bc bs Kr Kx) : QW V iX9_readContract 123 [a0, a1, a2, a3, a4, some (.int x), a6, a7, a8] (st) h z bc bs Kr Kx := q_iload dX9_readContract_123 rfl kk
theorem dX9_readContract_125 : decode (i_b iX9_readContract) 125 = .ok (.iastore, 1) := by decide +kernel
theorem wX9_readContract_125 {a n j : Nat} {f : Nat → Int32} {i : Int32} {x : Int32} (ha : h a = some (.inl (1, n, .inl f))) (hi : i = nI j) (hj : j < n) (hn : n < 2147483648) (kk : QW V iX9_readContract 126 [a0, a1, a2, a3, a4, a5, a6, a7, a8] (st) (q_up h a (.inl (1, n, .inl (upd f j x)))) z bc bs Kr Kx) : QW V iX9_readContract 125 [a0, a1, a2, a3, a4, a5, a6, a7, a8] (.int x :: .int i :: .ref a :: st) h z bc bs Kr Kx := q_iast dX9_readContract_125 ha hi hj hn kk
theorem wX9_readContract_125u {a n j : Nat} {f : Nat → Int32} {i : Int32} {x : Int32} (hi : i = nI j) (hj : j < n) (hn : n < 2147483648) (kk : QW V iX9_readContract 126 [a0, a1, a2, a3, a4, a5, a6, a7, a8] (st) (q_up h a (.inl (1, n, .inl (upd f j x)))) z bc bs Kr Kx) : QW V iX9_readContract 125 [a0, a1, a2, a3, a4, a5, a6, a7, a8] (.int x :: .int i :: .ref a :: st) (q_up h a (.inl (1, n, .inl f))) z bc bs Kr Kx := wX9_readContract_125 q_up_s hi hj hn (by rw [q_up_u]; exact kk)
theorem dX9_readContract_126 : decode (i_b iX9_readContract) 126 = .ok (.aload_n 0, 1) := by decide +kernel
theorem wX9_readContract_126 {x : Nat} (kk : QW V iX9_readContract 127 [some (.ref x), a1, a2, a3, a4, a5, a6, a7, a8] (.ref x :: st) h z bc bs Kr Kx) : QW V iX9_readContract 126 [some (.ref x), a1, a2, a3, a4, a5, a6, a7, a8] (st) h z bc bs Kr Kx := q_aload_n dX9_readContract_126 rfl rfl kk
theorem dX9_readContract_127 : decode (i_b iX9_readContract) 127 = .ok (.getfield 36, 3) := by decide +kernel
theorem wX9_readContract_127 {o : Nat} {m : Nat → Int32} (ha : h o = some (.inr (10, q_MF o m))) (kk : QW V iX9_readContract 130 [a0, a1, a2, a3, a4, a5, a6, a7, a8] (.ref (o + 8) :: st) h z bc bs Kr Kx) : QW V iX9_readContract 127 [a0, a1, a2, a3, a4, a5, a6, a7, a8] (.ref o :: st) h z bc bs Kr Kx := q_getf (k := 27) dX9_readContract_127 klX9 rfl (Nat.le_of_ble_eq_true rfl : 27 < 35) k6_0 rfl ha rfl kk
theorem wX9_readContract_127u {o : Nat} {m : Nat → Int32} (kk : QW V iX9_readContract 130 [a0, a1, a2, a3, a4, a5, a6, a7, a8] (.ref (o + 8) :: st) (q_up h o (.inr (10, q_MF o m))) z bc bs Kr Kx) : QW V iX9_readContract 127 [a0, a1, a2, a3, a4, a5, a6, a7, a8] (.ref o :: st) (q_up h o (.inr (10, q_MF o m))) z bc bs Kr Kx := wX9_readContract_127 q_up_s kk
theorem dX9_readContract_130 : decode (i_b iX9_readContract) 130 = .ok (.iload 8, 2) := by decide +kernel
theorem wX9_readContract_130 {x : Int32} (kk : QW V iX9_readContract 132 [a0, a1, a2, a3, a4, a5, a6, a7, some (.int x)] (.int x :: st) h z bc bs Kr Kx) : QW V iX9_readContract 130 [a0, a1, a2, a3, a4, a5, a6, a7, some (.int x)] (st) h z bc bs Kr Kx := q_iload dX9_readContract_130 rfl kk
theorem dX9_readContract_132 : decode (i_b iX9_readContract) 132 = .ok (.iconst 4, 1) := by decide +kernel
theorem wX9_readContract_132  (kk : QW V iX9_readContract 133 [a0, a1, a2, a3, a4, a5, a6, a7, a8] (.int (4) :: st) h z bc bs Kr Kx) : QW V iX9_readContract 132 [a0, a1, a2, a3, a4, a5, a6, a7, a8] (st) h z bc bs Kr Kx := q_iconst dX9_readContract_132 (by decide) kk
theorem dX9_readContract_133 : decode (i_b iX9_readContract) 133 = .ok (.iadd, 1) := by decide +kernel
theorem wX9_readContract_133 {x y : Int32} (kk : QW V iX9_readContract 134 [a0, a1, a2, a3, a4, a5, a6, a7, a8] (.int (x + y) :: st) h z bc bs Kr Kx) : QW V iX9_readContract 133 [a0, a1, a2, a3, a4, a5, a6, a7, a8] (.int y :: .int x :: st) h z bc bs Kr Kx := q_iadd dX9_readContract_133 kk
theorem dX9_readContract_134 : decode (i_b iX9_readContract) 134 = .ok (.iload 6, 2) := by decide +kernel
theorem wX9_readContract_134 {x : Int32} (kk : QW V iX9_readContract 136 [a0, a1, a2, a3, a4, a5, some (.int x), a7, a8] (.int x :: st) h z bc bs Kr Kx) : QW V iX9_readContract 134 [a0, a1, a2, a3, a4, a5, some (.int x), a7, a8] (st) h z bc bs Kr Kx := q_iload dX9_readContract_134 rfl kk
theorem dX9_readContract_136 : decode (i_b iX9_readContract) 136 = .ok (.iastore, 1) := by decide +kernel
theorem wX9_readContract_136 {a n j : Nat} {f : Nat → Int32} {i : Int32} {x : Int32} (ha : h a = some (.inl (1, n, .inl f))) (hi : i = nI j) (hj : j < n) (hn : n < 2147483648) (kk : QW V iX9_readContract 137 [a0, a1, a2, a3, a4, a5, a6, a7, a8] (st) (q_up h a (.inl (1, n, .inl (upd f j x)))) z bc bs Kr Kx) : QW V iX9_readContract 136 [a0, a1, a2, a3, a4, a5, a6, a7, a8] (.int x :: .int i :: .ref a :: st) h z bc bs Kr Kx := q_iast dX9_readContract_136 ha hi hj hn kk
theorem wX9_readContract_136u {a n j : Nat} {f : Nat → Int32} {i : Int32} {x : Int32} (hi : i = nI j) (hj : j < n) (hn : n < 2147483648) (kk : QW V iX9_readContract 137 [a0, a1, a2, a3, a4, a5, a6, a7, a8] (st) (q_up h a (.inl (1, n, .inl (upd f j x)))) z bc bs Kr Kx) : QW V iX9_readContract 136 [a0, a1, a2, a3, a4, a5, a6, a7, a8] (.int x :: .int i :: .ref a :: st) (q_up h a (.inl (1, n, .inl f))) z bc bs Kr Kx := wX9_readContract_136 q_up_s hi hj hn (by rw [q_up_u]; exact kk)
theorem dX9_readContract_137 : decode (i_b iX9_readContract) 137 = .ok (.aload_n 0, 1) := by decide +kernel
theorem wX9_readContract_137 {x : Nat} (kk : QW V iX9_readContract 138 [some (.ref x), a1, a2, a3, a4, a5, a6, a7, a8] (.ref x :: st) h z bc bs Kr Kx) : QW V iX9_readContract 137 [some (.ref x), a1, a2, a3, a4, a5, a6, a7, a8] (st) h z bc bs Kr Kx := q_aload_n dX9_readContract_137 rfl rfl kk
theorem dX9_readContract_138 : decode (i_b iX9_readContract) 138 = .ok (.getfield 36, 3) := by decide +kernel
theorem wX9_readContract_138 {o : Nat} {m : Nat → Int32} (ha : h o = some (.inr (10, q_MF o m))) (kk : QW V iX9_readContract 141 [a0, a1, a2, a3, a4, a5, a6, a7, a8] (.ref (o + 8) :: st) h z bc bs Kr Kx) : QW V iX9_readContract 138 [a0, a1, a2, a3, a4, a5, a6, a7, a8] (.ref o :: st) h z bc bs Kr Kx := q_getf (k := 27) dX9_readContract_138 klX9 rfl (Nat.le_of_ble_eq_true rfl : 27 < 35) k6_0 rfl ha rfl kk
theorem wX9_readContract_138u {o : Nat} {m : Nat → Int32} (kk : QW V iX9_readContract 141 [a0, a1, a2, a3, a4, a5, a6, a7, a8] (.ref (o + 8) :: st) (q_up h o (.inr (10, q_MF o m))) z bc bs Kr Kx) : QW V iX9_readContract 138 [a0, a1, a2, a3, a4, a5, a6, a7, a8] (.ref o :: st) (q_up h o (.inr (10, q_MF o m))) z bc bs Kr Kx := wX9_readContract_138 q_up_s kk
theorem dX9_readContract_141 : decode (i_b iX9_readContract) 141 = .ok (.iload 8, 2) := by decide +kernel
theorem wX9_readContract_141 {x : Int32} (kk : QW V iX9_readContract 143 [a0, a1, a2, a3, a4, a5, a6, a7, some (.int x)] (.int x :: st) h z bc bs Kr Kx) : QW V iX9_readContract 141 [a0, a1, a2, a3, a4, a5, a6, a7, some (.int x)] (st) h z bc bs Kr Kx := q_iload dX9_readContract_141 rfl kk
theorem dX9_readContract_143 : decode (i_b iX9_readContract) 143 = .ok (.iconst 5, 1) := by decide +kernel
theorem wX9_readContract_143  (kk : QW V iX9_readContract 144 [a0, a1, a2, a3, a4, a5, a6, a7, a8] (.int (5) :: st) h z bc bs Kr Kx) : QW V iX9_readContract 143 [a0, a1, a2, a3, a4, a5, a6, a7, a8] (st) h z bc bs Kr Kx := q_iconst dX9_readContract_143 (by decide) kk
theorem dX9_readContract_144 : decode (i_b iX9_readContract) 144 = .ok (.iadd, 1) := by decide +kernel
theorem wX9_readContract_144 {x y : Int32} (kk : QW V iX9_readContract 145 [a0, a1, a2, a3, a4, a5, a6, a7, a8] (.int (x + y) :: st) h z bc bs Kr Kx) : QW V iX9_readContract 144 [a0, a1, a2, a3, a4, a5, a6, a7, a8] (.int y :: .int x :: st) h z bc bs Kr Kx := q_iadd dX9_readContract_144 kk
theorem dX9_readContract_145 : decode (i_b iX9_readContract) 145 = .ok (.iload 7, 2) := by decide +kernel
theorem wX9_readContract_145 {x : Int32} (kk : QW V iX9_readContract 147 [a0, a1, a2, a3, a4, a5, a6, some (.int x), a8] (.int x :: st) h z bc bs Kr Kx) : QW V iX9_readContract 145 [a0, a1, a2, a3, a4, a5, a6, some (.int x), a8] (st) h z bc bs Kr Kx := q_iload dX9_readContract_145 rfl kk
theorem dX9_readContract_147 : decode (i_b iX9_readContract) 147 = .ok (.iastore, 1) := by decide +kernel
theorem wX9_readContract_147 {a n j : Nat} {f : Nat → Int32} {i : Int32} {x : Int32} (ha : h a = some (.inl (1, n, .inl f))) (hi : i = nI j) (hj : j < n) (hn : n < 2147483648) (kk : QW V iX9_readContract 148 [a0, a1, a2, a3, a4, a5, a6, a7, a8] (st) (q_up h a (.inl (1, n, .inl (upd f j x)))) z bc bs Kr Kx) : QW V iX9_readContract 147 [a0, a1, a2, a3, a4, a5, a6, a7, a8] (.int x :: .int i :: .ref a :: st) h z bc bs Kr Kx := q_iast dX9_readContract_147 ha hi hj hn kk
theorem wX9_readContract_147u {a n j : Nat} {f : Nat → Int32} {i : Int32} {x : Int32} (hi : i = nI j) (hj : j < n) (hn : n < 2147483648) (kk : QW V iX9_readContract 148 [a0, a1, a2, a3, a4, a5, a6, a7, a8] (st) (q_up h a (.inl (1, n, .inl (upd f j x)))) z bc bs Kr Kx) : QW V iX9_readContract 147 [a0, a1, a2, a3, a4, a5, a6, a7, a8] (.int x :: .int i :: .ref a :: st) (q_up h a (.inl (1, n, .inl f))) z bc bs Kr Kx := wX9_readContract_147 q_up_s hi hj hn (by rw [q_up_u]; exact kk)
theorem dX9_readContract_148 : decode (i_b iX9_readContract) 148 = .ok (.aload_n 0, 1) := by decide +kernel
theorem wX9_readContract_148 {x : Nat} (kk : QW V iX9_readContract 149 [some (.ref x), a1, a2, a3, a4, a5, a6, a7, a8] (.ref x :: st) h z bc bs Kr Kx) : QW V iX9_readContract 148 [some (.ref x), a1, a2, a3, a4, a5, a6, a7, a8] (st) h z bc bs Kr Kx := q_aload_n dX9_readContract_148 rfl rfl kk
theorem dX9_readContract_149 : decode (i_b iX9_readContract) 149 = .ok (.invokevirtual 142, 3) := by decide +kernel
theorem wX9_readContract_149 {a : Nat} {fs : List Value}  (hb : h a = some (.inr (10, fs))) (hm : QMv V iX9_expectSemicolon [.ref a] h z (fun h' z' => QW V iX9_readContract 152 [a0, a1, a2, a3, a4, a5, a6, a7, a8] (st) h' z' bc bs Kr Kx) Kx) (hW : (st.map fun v => v.category).sum ≤ 8 := by exact Nat.le_of_ble_eq_true rfl) : QW V iX9_readContract 149 [a0, a1, a2, a3, a4, a5, a6, a7, a8] (.ref a :: st) h z bc bs Kr Kx := q_callV (y' := iX9_expectSemicolon) (As := []) (rest := st) dX9_readContract_149 k6_152 k6_154 ks_48 k1_10 hhX9_expectSemicolon rfl hdX9_expectSemicolon rfl rfl (Nat.le_of_ble_eq_true rfl) (Nat.le_of_ble_eq_true rfl) hW rfl hb (QMv.run hm)
theorem dX9_readContract_152 : decode (i_b iX9_readContract) 152 = .ok (.aload_n 0, 1) := by decide +kernel
theorem wX9_readContract_152 {x : Nat} (kk : QW V iX9_readContract 153 [some (.ref x), a1, a2, a3, a4, a5, a6, a7, a8] (.ref x :: st) h z bc bs Kr Kx) : QW V iX9_readContract 152 [some (.ref x), a1, a2, a3, a4, a5, a6, a7, a8] (st) h z bc bs Kr Kx := q_aload_n dX9_readContract_152 rfl rfl kk
theorem dX9_readContract_153 : decode (i_b iX9_readContract) 153 = .ok (.dup, 1) := by decide +kernel
theorem wX9_readContract_153 {v : Value} (kk : QW V iX9_readContract 154 [a0, a1, a2, a3, a4, a5, a6, a7, a8] (v :: v :: st) h z bc bs Kr Kx) (hv : v.category = 1 := by rfl) : QW V iX9_readContract 153 [a0, a1, a2, a3, a4, a5, a6, a7, a8] (v :: st) h z bc bs Kr Kx := q_dup dX9_readContract_153 hv kk
theorem dX9_readContract_154 : decode (i_b iX9_readContract) 154 = .ok (.getfield 157, 3) := by decide +kernel
theorem wX9_readContract_154 {o : Nat} {m : Nat → Int32} (ha : h o = some (.inr (10, q_MF o m))) (kk : QW V iX9_readContract 157 [a0, a1, a2, a3, a4, a5, a6, a7, a8] (.int (m 28) :: st) h z bc bs Kr Kx) : QW V iX9_readContract 154 [a0, a1, a2, a3, a4, a5, a6, a7, a8] (.ref o :: st) h z bc bs Kr Kx := q_getf (k := 28) dX9_readContract_154 klX9 rfl (Nat.le_of_ble_eq_true rfl : 28 < 35) k6_1 rfl ha rfl kk
theorem wX9_readContract_154u {o : Nat} {m : Nat → Int32} (kk : QW V iX9_readContract 157 [a0, a1, a2, a3, a4, a5, a6, a7, a8] (.int (m 28) :: st) (q_up h o (.inr (10, q_MF o m))) z bc bs Kr Kx) : QW V iX9_readContract 154 [a0, a1, a2, a3, a4, a5, a6, a7, a8] (.ref o :: st) (q_up h o (.inr (10, q_MF o m))) z bc bs Kr Kx := wX9_readContract_154 q_up_s kk
theorem dX9_readContract_157 : decode (i_b iX9_readContract) 157 = .ok (.iconst 1, 1) := by decide +kernel
theorem wX9_readContract_157  (kk : QW V iX9_readContract 158 [a0, a1, a2, a3, a4, a5, a6, a7, a8] (.int (1) :: st) h z bc bs Kr Kx) : QW V iX9_readContract 157 [a0, a1, a2, a3, a4, a5, a6, a7, a8] (st) h z bc bs Kr Kx := q_iconst dX9_readContract_157 (by decide) kk
theorem dX9_readContract_158 : decode (i_b iX9_readContract) 158 = .ok (.iadd, 1) := by decide +kernel
theorem wX9_readContract_158 {x y : Int32} (kk : QW V iX9_readContract 159 [a0, a1, a2, a3, a4, a5, a6, a7, a8] (.int (x + y) :: st) h z bc bs Kr Kx) : QW V iX9_readContract 158 [a0, a1, a2, a3, a4, a5, a6, a7, a8] (.int y :: .int x :: st) h z bc bs Kr Kx := q_iadd dX9_readContract_158 kk
theorem dX9_readContract_159 : decode (i_b iX9_readContract) 159 = .ok (.putfield 157, 3) := by decide +kernel
theorem wX9_readContract_159 {o : Nat} {m : Nat → Int32} {x : Int32} (ha : h o = some (.inr (10, q_MF o m))) (kk : QW V iX9_readContract 162 [a0, a1, a2, a3, a4, a5, a6, a7, a8] (st) (q_up h o (.inr (10, q_MF o (upd m 28 x)))) z bc bs Kr Kx) : QW V iX9_readContract 159 [a0, a1, a2, a3, a4, a5, a6, a7, a8] (.int x :: .ref o :: st) h z bc bs Kr Kx := q_putf (k := 28) tyX9 dX9_readContract_159 klX9 tyX9_ok nmX9 rfl (Nat.le_of_ble_eq_true rfl : 28 < 35) k6_1 rfl rfl rfl rfl (Nat.le_of_ble_eq_true rfl) ha (by rw [q_MF_28]; exact kk)
theorem wX9_readContract_159u {o : Nat} {m : Nat → Int32} {x : Int32} (kk : QW V iX9_readContract 162 [a0, a1, a2, a3, a4, a5, a6, a7, a8] (st) (q_up h o (.inr (10, q_MF o (upd m 28 x)))) z bc bs Kr Kx) : QW V iX9_readContract 159 [a0, a1, a2, a3, a4, a5, a6, a7, a8] (.int x :: .ref o :: st) (q_up h o (.inr (10, q_MF o m))) z bc bs Kr Kx := wX9_readContract_159 q_up_s (by rw [q_up_u]; exact kk)
theorem dX9_readContract_162 : decode (i_b iX9_readContract) 162 = .ok (.return_, 1) := by decide +kernel
theorem wX9_readContract_162 {P : q_H → Option Nat → Prop} (hk : P h z) : QW V iX9_readContract 162 [a0, a1, a2, a3, a4, a5, a6, a7, a8] [] h z bc bs (q_Kv P) Kx := q_vret dX9_readContract_162 rfl ⟨rfl, hk⟩
theorem eX9_load {o : Nat} {P : Int32 → q_H → Option Nat → Prop} (kk : QW V iX9_load 0 [some (.ref o), none] [] h z 0 0 (q_Ki P) Kx) : QMi V iX9_load [.ref o] h z P Kx := q_enter rfl (by decide +kernel) rfl (Nat.le_of_ble_eq_true rfl) kk
theorem dX9_load_0 : decode (i_b iX9_load) 0 = .ok (.aload_n 0, 1) := by decide +kernel
theorem wX9_load_0 {x : Nat} (kk : QW V iX9_load 1 [some (.ref x), a1] (.ref x :: st) h z bc bs Kr Kx) : QW V iX9_load 0 [some (.ref x), a1] (st) h z bc bs Kr Kx := q_aload_n dX9_load_0 rfl rfl kk
theorem dX9_load_1 : decode (i_b iX9_load) 1 = .ok (.iconst 0, 1) := by decide +kernel
theorem wX9_load_1  (kk : QW V iX9_load 2 [a0, a1] (.int (0) :: st) h z bc bs Kr Kx) : QW V iX9_load 1 [a0, a1] (st) h z bc bs Kr Kx := q_iconst dX9_load_1 (by decide) kk
theorem dX9_load_2 : decode (i_b iX9_load) 2 = .ok (.putfield 51, 3) := by decide +kernel
theorem wX9_load_2 {o : Nat} {m : Nat → Int32} {x : Int32} (ha : h o = some (.inr (10, q_MF o m))) (kk : QW V iX9_load 5 [a0, a1] (st) (q_up h o (.inr (10, q_MF o (upd m 4 x)))) z bc bs Kr Kx) : QW V iX9_load 2 [a0, a1] (.int x :: .ref o :: st) h z bc bs Kr Kx := q_putf (k := 4) tyX9 dX9_load_2 klX9 tyX9_ok nmX9 rfl (Nat.le_of_ble_eq_true rfl : 4 < 35) k5_217 rfl rfl rfl rfl (Nat.le_of_ble_eq_true rfl) ha (by rw [q_MF_4]; exact kk)
theorem wX9_load_2u {o : Nat} {m : Nat → Int32} {x : Int32} (kk : QW V iX9_load 5 [a0, a1] (st) (q_up h o (.inr (10, q_MF o (upd m 4 x)))) z bc bs Kr Kx) : QW V iX9_load 2 [a0, a1] (.int x :: .ref o :: st) (q_up h o (.inr (10, q_MF o m))) z bc bs Kr Kx := wX9_load_2 q_up_s (by rw [q_up_u]; exact kk)
theorem dX9_load_5 : decode (i_b iX9_load) 5 = .ok (.aload_n 0, 1) := by decide +kernel
theorem wX9_load_5 {x : Nat} (kk : QW V iX9_load 6 [some (.ref x), a1] (.ref x :: st) h z bc bs Kr Kx) : QW V iX9_load 5 [some (.ref x), a1] (st) h z bc bs Kr Kx := q_aload_n dX9_load_5 rfl rfl kk
theorem dX9_load_6 : decode (i_b iX9_load) 6 = .ok (.aload_n 0, 1) := by decide +kernel
theorem wX9_load_6 {x : Nat} (kk : QW V iX9_load 7 [some (.ref x), a1] (.ref x :: st) h z bc bs Kr Kx) : QW V iX9_load 6 [some (.ref x), a1] (st) h z bc bs Kr Kx := q_aload_n dX9_load_6 rfl rfl kk
theorem dX9_load_7 : decode (i_b iX9_load) 7 = .ok (.getfield 58, 3) := by decide +kernel
theorem wX9_load_7 {o : Nat} {m : Nat → Int32} (ha : h o = some (.inr (10, q_MF o m))) (kk : QW V iX9_load 10 [a0, a1] (.int (m 16) :: st) h z bc bs Kr Kx) : QW V iX9_load 7 [a0, a1] (.ref o :: st) h z bc bs Kr Kx := q_getf (k := 16) dX9_load_7 klX9 rfl (Nat.le_of_ble_eq_true rfl : 16 < 35) k5_229 rfl ha rfl kk
theorem wX9_load_7u {o : Nat} {m : Nat → Int32} (kk : QW V iX9_load 10 [a0, a1] (.int (m 16) :: st) (q_up h o (.inr (10, q_MF o m))) z bc bs Kr Kx) : QW V iX9_load 7 [a0, a1] (.ref o :: st) (q_up h o (.inr (10, q_MF o m))) z bc bs Kr Kx := wX9_load_7 q_up_s kk
theorem dX9_load_10 : decode (i_b iX9_load) 10 = .ok (.putfield 69, 3) := by decide +kernel
theorem wX9_load_10 {o : Nat} {m : Nat → Int32} {x : Int32} (ha : h o = some (.inr (10, q_MF o m))) (kk : QW V iX9_load 13 [a0, a1] (st) (q_up h o (.inr (10, q_MF o (upd m 17 x)))) z bc bs Kr Kx) : QW V iX9_load 10 [a0, a1] (.int x :: .ref o :: st) h z bc bs Kr Kx := q_putf (k := 17) tyX9 dX9_load_10 klX9 tyX9_ok nmX9 rfl (Nat.le_of_ble_eq_true rfl : 17 < 35) k5_230 rfl rfl rfl rfl (Nat.le_of_ble_eq_true rfl) ha (by rw [q_MF_17]; exact kk)
theorem wX9_load_10u {o : Nat} {m : Nat → Int32} {x : Int32} (kk : QW V iX9_load 13 [a0, a1] (st) (q_up h o (.inr (10, q_MF o (upd m 17 x)))) z bc bs Kr Kx) : QW V iX9_load 10 [a0, a1] (.int x :: .ref o :: st) (q_up h o (.inr (10, q_MF o m))) z bc bs Kr Kx := wX9_load_10 q_up_s (by rw [q_up_u]; exact kk)
theorem dX9_load_13 : decode (i_b iX9_load) 13 = .ok (.aload_n 0, 1) := by decide +kernel
theorem wX9_load_13 {x : Nat} (kk : QW V iX9_load 14 [some (.ref x), a1] (.ref x :: st) h z bc bs Kr Kx) : QW V iX9_load 13 [some (.ref x), a1] (st) h z bc bs Kr Kx := q_aload_n dX9_load_13 rfl rfl kk
theorem dX9_load_14 : decode (i_b iX9_load) 14 = .ok (.iconst 0, 1) := by decide +kernel
theorem wX9_load_14  (kk : QW V iX9_load 15 [a0, a1] (.int (0) :: st) h z bc bs Kr Kx) : QW V iX9_load 14 [a0, a1] (st) h z bc bs Kr Kx := q_iconst dX9_load_14 (by decide) kk
theorem dX9_load_15 : decode (i_b iX9_load) 15 = .ok (.putfield 58, 3) := by decide +kernel
theorem wX9_load_15 {o : Nat} {m : Nat → Int32} {x : Int32} (ha : h o = some (.inr (10, q_MF o m))) (kk : QW V iX9_load 18 [a0, a1] (st) (q_up h o (.inr (10, q_MF o (upd m 16 x)))) z bc bs Kr Kx) : QW V iX9_load 15 [a0, a1] (.int x :: .ref o :: st) h z bc bs Kr Kx := q_putf (k := 16) tyX9 dX9_load_15 klX9 tyX9_ok nmX9 rfl (Nat.le_of_ble_eq_true rfl : 16 < 35) k5_229 rfl rfl rfl rfl (Nat.le_of_ble_eq_true rfl) ha (by rw [q_MF_16]; exact kk)
theorem wX9_load_15u {o : Nat} {m : Nat → Int32} {x : Int32} (kk : QW V iX9_load 18 [a0, a1] (st) (q_up h o (.inr (10, q_MF o (upd m 16 x)))) z bc bs Kr Kx) : QW V iX9_load 15 [a0, a1] (.int x :: .ref o :: st) (q_up h o (.inr (10, q_MF o m))) z bc bs Kr Kx := wX9_load_15 q_up_s (by rw [q_up_u]; exact kk)
theorem dX9_load_18 : decode (i_b iX9_load) 18 = .ok (.aload_n 0, 1) := by decide +kernel
theorem wX9_load_18 {x : Nat} (kk : QW V iX9_load 19 [some (.ref x), a1] (.ref x :: st) h z bc bs Kr Kx) : QW V iX9_load 18 [some (.ref x), a1] (st) h z bc bs Kr Kx := q_aload_n dX9_load_18 rfl rfl kk
theorem dX9_load_19 : decode (i_b iX9_load) 19 = .ok (.iconst 0, 1) := by decide +kernel
theorem wX9_load_19  (kk : QW V iX9_load 20 [a0, a1] (.int (0) :: st) h z bc bs Kr Kx) : QW V iX9_load 19 [a0, a1] (st) h z bc bs Kr Kx := q_iconst dX9_load_19 (by decide) kk
theorem dX9_load_20 : decode (i_b iX9_load) 20 = .ok (.putfield 91, 3) := by decide +kernel
theorem wX9_load_20 {o : Nat} {m : Nat → Int32} {x : Int32} (ha : h o = some (.inr (10, q_MF o m))) (kk : QW V iX9_load 23 [a0, a1] (st) (q_up h o (.inr (10, q_MF o (upd m 18 x)))) z bc bs Kr Kx) : QW V iX9_load 20 [a0, a1] (.int x :: .ref o :: st) h z bc bs Kr Kx := q_putf (k := 18) tyX9 dX9_load_20 klX9 tyX9_ok nmX9 rfl (Nat.le_of_ble_eq_true rfl : 18 < 35) k5_231 rfl rfl rfl rfl (Nat.le_of_ble_eq_true rfl) ha (by rw [q_MF_18]; exact kk)
theorem wX9_load_20u {o : Nat} {m : Nat → Int32} {x : Int32} (kk : QW V iX9_load 23 [a0, a1] (st) (q_up h o (.inr (10, q_MF o (upd m 18 x)))) z bc bs Kr Kx) : QW V iX9_load 20 [a0, a1] (.int x :: .ref o :: st) (q_up h o (.inr (10, q_MF o m))) z bc bs Kr Kx := wX9_load_20 q_up_s (by rw [q_up_u]; exact kk)
theorem dX9_load_23 : decode (i_b iX9_load) 23 = .ok (.aload_n 0, 1) := by decide +kernel
theorem wX9_load_23 {x : Nat} (kk : QW V iX9_load 24 [some (.ref x), a1] (.ref x :: st) h z bc bs Kr Kx) : QW V iX9_load 23 [some (.ref x), a1] (st) h z bc bs Kr Kx := q_aload_n dX9_load_23 rfl rfl kk
theorem dX9_load_24 : decode (i_b iX9_load) 24 = .ok (.iconst 0, 1) := by decide +kernel
theorem wX9_load_24  (kk : QW V iX9_load 25 [a0, a1] (.int (0) :: st) h z bc bs Kr Kx) : QW V iX9_load 24 [a0, a1] (st) h z bc bs Kr Kx := q_iconst dX9_load_24 (by decide) kk
theorem dX9_load_25 : decode (i_b iX9_load) 25 = .ok (.putfield 84, 3) := by decide +kernel
theorem wX9_load_25 {o : Nat} {m : Nat → Int32} {x : Int32} (ha : h o = some (.inr (10, q_MF o m))) (kk : QW V iX9_load 28 [a0, a1] (st) (q_up h o (.inr (10, q_MF o (upd m 22 x)))) z bc bs Kr Kx) : QW V iX9_load 25 [a0, a1] (.int x :: .ref o :: st) h z bc bs Kr Kx := q_putf (k := 22) tyX9 dX9_load_25 klX9 tyX9_ok nmX9 rfl (Nat.le_of_ble_eq_true rfl : 22 < 35) k5_235 rfl rfl rfl rfl (Nat.le_of_ble_eq_true rfl) ha (by rw [q_MF_22]; exact kk)
theorem wX9_load_25u {o : Nat} {m : Nat → Int32} {x : Int32} (kk : QW V iX9_load 28 [a0, a1] (st) (q_up h o (.inr (10, q_MF o (upd m 22 x)))) z bc bs Kr Kx) : QW V iX9_load 25 [a0, a1] (.int x :: .ref o :: st) (q_up h o (.inr (10, q_MF o m))) z bc bs Kr Kx := wX9_load_25 q_up_s (by rw [q_up_u]; exact kk)
theorem dX9_load_28 : decode (i_b iX9_load) 28 = .ok (.aload_n 0, 1) := by decide +kernel
theorem wX9_load_28 {x : Nat} (kk : QW V iX9_load 29 [some (.ref x), a1] (.ref x :: st) h z bc bs Kr Kx) : QW V iX9_load 28 [some (.ref x), a1] (st) h z bc bs Kr Kx := q_aload_n dX9_load_28 rfl rfl kk
theorem dX9_load_29 : decode (i_b iX9_load) 29 = .ok (.iconst (-1), 1) := by decide +kernel
theorem wX9_load_29  (kk : QW V iX9_load 30 [a0, a1] (.int (-1) :: st) h z bc bs Kr Kx) : QW V iX9_load 29 [a0, a1] (st) h z bc bs Kr Kx := q_iconst dX9_load_29 (by decide) kk
theorem dX9_load_30 : decode (i_b iX9_load) 30 = .ok (.putfield 26, 3) := by decide +kernel
theorem wX9_load_30 {o : Nat} {m : Nat → Int32} {x : Int32} (ha : h o = some (.inr (10, q_MF o m))) (kk : QW V iX9_load 33 [a0, a1] (st) (q_up h o (.inr (10, q_MF o (upd m 23 x)))) z bc bs Kr Kx) : QW V iX9_load 30 [a0, a1] (.int x :: .ref o :: st) h z bc bs Kr Kx := q_putf (k := 23) tyX9 dX9_load_30 klX9 tyX9_ok nmX9 rfl (Nat.le_of_ble_eq_true rfl : 23 < 35) k5_236 rfl rfl rfl rfl (Nat.le_of_ble_eq_true rfl) ha (by rw [q_MF_23]; exact kk)
theorem wX9_load_30u {o : Nat} {m : Nat → Int32} {x : Int32} (kk : QW V iX9_load 33 [a0, a1] (st) (q_up h o (.inr (10, q_MF o (upd m 23 x)))) z bc bs Kr Kx) : QW V iX9_load 30 [a0, a1] (.int x :: .ref o :: st) (q_up h o (.inr (10, q_MF o m))) z bc bs Kr Kx := wX9_load_30 q_up_s (by rw [q_up_u]; exact kk)
theorem dX9_load_33 : decode (i_b iX9_load) 33 = .ok (.aload_n 0, 1) := by decide +kernel
theorem wX9_load_33 {x : Nat} (kk : QW V iX9_load 34 [some (.ref x), a1] (.ref x :: st) h z bc bs Kr Kx) : QW V iX9_load 33 [some (.ref x), a1] (st) h z bc bs Kr Kx := q_aload_n dX9_load_33 rfl rfl kk
theorem dX9_load_34 : decode (i_b iX9_load) 34 = .ok (.iconst 0, 1) := by decide +kernel
theorem wX9_load_34  (kk : QW V iX9_load 35 [a0, a1] (.int (0) :: st) h z bc bs Kr Kx) : QW V iX9_load 34 [a0, a1] (st) h z bc bs Kr Kx := q_iconst dX9_load_34 (by decide) kk
theorem dX9_load_35 : decode (i_b iX9_load) 35 = .ok (.putfield 157, 3) := by decide +kernel
theorem wX9_load_35 {o : Nat} {m : Nat → Int32} {x : Int32} (ha : h o = some (.inr (10, q_MF o m))) (kk : QW V iX9_load 38 [a0, a1] (st) (q_up h o (.inr (10, q_MF o (upd m 28 x)))) z bc bs Kr Kx) : QW V iX9_load 35 [a0, a1] (.int x :: .ref o :: st) h z bc bs Kr Kx := q_putf (k := 28) tyX9 dX9_load_35 klX9 tyX9_ok nmX9 rfl (Nat.le_of_ble_eq_true rfl : 28 < 35) k6_1 rfl rfl rfl rfl (Nat.le_of_ble_eq_true rfl) ha (by rw [q_MF_28]; exact kk)
theorem wX9_load_35u {o : Nat} {m : Nat → Int32} {x : Int32} (kk : QW V iX9_load 38 [a0, a1] (st) (q_up h o (.inr (10, q_MF o (upd m 28 x)))) z bc bs Kr Kx) : QW V iX9_load 35 [a0, a1] (.int x :: .ref o :: st) (q_up h o (.inr (10, q_MF o m))) z bc bs Kr Kx := wX9_load_35 q_up_s (by rw [q_up_u]; exact kk)
theorem dX9_load_38 : decode (i_b iX9_load) 38 = .ok (.iconst 0, 1) := by decide +kernel
theorem wX9_load_38  (kk : QW V iX9_load 39 [a0, a1] (.int (0) :: st) h z bc bs Kr Kx) : QW V iX9_load 38 [a0, a1] (st) h z bc bs Kr Kx := q_iconst dX9_load_38 (by decide) kk
theorem dX9_load_39 : decode (i_b iX9_load) 39 = .ok (.istore_n 1, 1) := by decide +kernel
theorem wX9_load_39 {x : Int32} (kk : QW V iX9_load 40 [a0, some (.int x)] (st) h z bc bs Kr Kx) (hp : q_n2 a0 = true := by rfl) : QW V iX9_load 39 [a0, a1] (.int x :: st) h z bc bs Kr Kx := q_istore_n dX9_load_39 rfl (Nat.le_of_ble_eq_true rfl) hp kk
theorem dX9_load_40 : decode (i_b iX9_load) 40 = .ok (.iload_n 1, 1) := by decide +kernel
theorem wX9_load_40 {x : Int32} (kk : QW V iX9_load 41 [a0, some (.int x)] (.int x :: st) h z bc bs Kr Kx) : QW V iX9_load 40 [a0, some (.int x)] (st) h z bc bs Kr Kx := q_iload_n dX9_load_40 rfl rfl kk
theorem dX9_load_41 : decode (i_b iX9_load) 41 = .ok (.bipush 24, 2) := by decide +kernel
theorem wX9_load_41  (kk : QW V iX9_load 43 [a0, a1] (.int (24) :: st) h z bc bs Kr Kx) : QW V iX9_load 41 [a0, a1] (st) h z bc bs Kr Kx := q_bipush dX9_load_41 (by decide) kk
theorem dX9_load_43 : decode (i_b iX9_load) 43 = .ok (.if_icmp .ge 19, 3) := by decide +kernel
theorem wX9_load_43 {x y : Int32} (kt : y ≤ x → QW V iX9_load 62 [a0, a1] (st) h z bc bs Kr Kx) (kf : ¬ y ≤ x → QW V iX9_load 46 [a0, a1] (st) h z bc bs Kr Kx) : QW V iX9_load 43 [a0, a1] (.int y :: .int x :: st) h z bc bs Kr Kx := q_icmp_ge dX9_load_43 (by decide) kt kf
theorem dX9_load_46 : decode (i_b iX9_load) 46 = .ok (.aload_n 0, 1) := by decide +kernel
theorem wX9_load_46 {x : Nat} (kk : QW V iX9_load 47 [some (.ref x), a1] (.ref x :: st) h z bc bs Kr Kx) : QW V iX9_load 46 [some (.ref x), a1] (st) h z bc bs Kr Kx := q_aload_n dX9_load_46 rfl rfl kk
theorem dX9_load_47 : decode (i_b iX9_load) 47 = .ok (.getfield 36, 3) := by decide +kernel
theorem wX9_load_47 {o : Nat} {m : Nat → Int32} (ha : h o = some (.inr (10, q_MF o m))) (kk : QW V iX9_load 50 [a0, a1] (.ref (o + 8) :: st) h z bc bs Kr Kx) : QW V iX9_load 47 [a0, a1] (.ref o :: st) h z bc bs Kr Kx := q_getf (k := 27) dX9_load_47 klX9 rfl (Nat.le_of_ble_eq_true rfl : 27 < 35) k6_0 rfl ha rfl kk
theorem wX9_load_47u {o : Nat} {m : Nat → Int32} (kk : QW V iX9_load 50 [a0, a1] (.ref (o + 8) :: st) (q_up h o (.inr (10, q_MF o m))) z bc bs Kr Kx) : QW V iX9_load 47 [a0, a1] (.ref o :: st) (q_up h o (.inr (10, q_MF o m))) z bc bs Kr Kx := wX9_load_47 q_up_s kk
theorem dX9_load_50 : decode (i_b iX9_load) 50 = .ok (.bipush 9, 2) := by decide +kernel
theorem wX9_load_50  (kk : QW V iX9_load 52 [a0, a1] (.int (9) :: st) h z bc bs Kr Kx) : QW V iX9_load 50 [a0, a1] (st) h z bc bs Kr Kx := q_bipush dX9_load_50 (by decide) kk
theorem dX9_load_52 : decode (i_b iX9_load) 52 = .ok (.iload_n 1, 1) := by decide +kernel
theorem wX9_load_52 {x : Int32} (kk : QW V iX9_load 53 [a0, some (.int x)] (.int x :: st) h z bc bs Kr Kx) : QW V iX9_load 52 [a0, some (.int x)] (st) h z bc bs Kr Kx := q_iload_n dX9_load_52 rfl rfl kk
theorem dX9_load_53 : decode (i_b iX9_load) 53 = .ok (.imul, 1) := by decide +kernel
theorem wX9_load_53 {x y : Int32} (kk : QW V iX9_load 54 [a0, a1] (.int (x * y) :: st) h z bc bs Kr Kx) : QW V iX9_load 53 [a0, a1] (.int y :: .int x :: st) h z bc bs Kr Kx := q_imul dX9_load_53 kk
theorem dX9_load_54 : decode (i_b iX9_load) 54 = .ok (.iconst (-1), 1) := by decide +kernel
theorem wX9_load_54  (kk : QW V iX9_load 55 [a0, a1] (.int (-1) :: st) h z bc bs Kr Kx) : QW V iX9_load 54 [a0, a1] (st) h z bc bs Kr Kx := q_iconst dX9_load_54 (by decide) kk
theorem dX9_load_55 : decode (i_b iX9_load) 55 = .ok (.iastore, 1) := by decide +kernel
theorem wX9_load_55 {a n j : Nat} {f : Nat → Int32} {i : Int32} {x : Int32} (ha : h a = some (.inl (1, n, .inl f))) (hi : i = nI j) (hj : j < n) (hn : n < 2147483648) (kk : QW V iX9_load 56 [a0, a1] (st) (q_up h a (.inl (1, n, .inl (upd f j x)))) z bc bs Kr Kx) : QW V iX9_load 55 [a0, a1] (.int x :: .int i :: .ref a :: st) h z bc bs Kr Kx := q_iast dX9_load_55 ha hi hj hn kk
theorem wX9_load_55u {a n j : Nat} {f : Nat → Int32} {i : Int32} {x : Int32} (hi : i = nI j) (hj : j < n) (hn : n < 2147483648) (kk : QW V iX9_load 56 [a0, a1] (st) (q_up h a (.inl (1, n, .inl (upd f j x)))) z bc bs Kr Kx) : QW V iX9_load 55 [a0, a1] (.int x :: .int i :: .ref a :: st) (q_up h a (.inl (1, n, .inl f))) z bc bs Kr Kx := wX9_load_55 q_up_s hi hj hn (by rw [q_up_u]; exact kk)
theorem dX9_load_56 : decode (i_b iX9_load) 56 = .ok (.iinc 1 1, 3) := by decide +kernel
theorem wX9_load_56 {x : Int32} (kk : QW V iX9_load 59 [a0, some (.int (x + (1)))] (st) h z bc bs Kr Kx) (hp : q_n2 a0 = true := by rfl) : QW V iX9_load 56 [a0, some (.int x)] (st) h z bc bs Kr Kx := q_iinc (v := x + (1)) dX9_load_56 rfl rfl (Nat.le_of_ble_eq_true rfl) hp kk
theorem dX9_load_59 : decode (i_b iX9_load) 59 = .ok (.goto (-19), 3) := by decide +kernel
theorem wX9_load_59  (kk : QW V iX9_load 40 [a0, a1] (st) h z bc bs Kr Kx) : QW V iX9_load 59 [a0, a1] (st) h z bc bs Kr Kx := q_goto dX9_load_59 (by decide) kk
theorem dX9_load_62 : decode (i_b iX9_load) 62 = .ok (.aload_n 0, 1) := by decide +kernel
theorem wX9_load_62 {x : Nat} (kk : QW V iX9_load 63 [some (.ref x), a1] (.ref x :: st) h z bc bs Kr Kx) : QW V iX9_load 62 [some (.ref x), a1] (st) h z bc bs Kr Kx := q_aload_n dX9_load_62 rfl rfl kk
theorem dX9_load_63 : decode (i_b iX9_load) 63 = .ok (.invokevirtual 127, 3) := by decide +kernel
theorem wX9_load_63 {a : Nat} {fs : List Value}  (hb : h a = some (.inr (10, fs))) (hm : QMv V iX9_next [.ref a] h z (fun h' z' => QW V iX9_load 66 [a0, a1] (st) h' z' bc bs Kr Kx) Kx) (hW : (st.map fun v => v.category).sum ≤ 8 := by exact Nat.le_of_ble_eq_true rfl) : QW V iX9_load 63 [a0, a1] (.ref a :: st) h z bc bs Kr Kx := q_callV (y' := iX9_next) (As := []) (rest := st) dX9_load_63 k6_103 k6_105 ks_38 k1_10 hhX9_next rfl hdX9_next rfl rfl (Nat.le_of_ble_eq_true rfl) (Nat.le_of_ble_eq_true rfl) hW rfl hb (QMv.run hm)
theorem dX9_load_66 : decode (i_b iX9_load) 66 = .ok (.aload_n 0, 1) := by decide +kernel
theorem wX9_load_66 {x : Nat} (kk : QW V iX9_load 67 [some (.ref x), a1] (.ref x :: st) h z bc bs Kr Kx) : QW V iX9_load 66 [some (.ref x), a1] (st) h z bc bs Kr Kx := q_aload_n dX9_load_66 rfl rfl kk
theorem dX9_load_67 : decode (i_b iX9_load) 67 = .ok (.invokevirtual 160, 3) := by decide +kernel
theorem wX9_load_67 {a : Nat} {fs : List Value}  (hb : h a = some (.inr (10, fs))) (hm : QMv V iX9_readLeague [.ref a] h z (fun h' z' => QW V iX9_load 70 [a0, a1] (st) h' z' bc bs Kr Kx) Kx) (hW : (st.map fun v => v.category).sum ≤ 8 := by exact Nat.le_of_ble_eq_true rfl) : QW V iX9_load 67 [a0, a1] (.ref a :: st) h z bc bs Kr Kx := q_callV (y' := iX9_readLeague) (As := []) (rest := st) dX9_load_67 k6_127 k6_129 ks_43 k1_10 hhX9_readLeague rfl hdX9_readLeague rfl rfl (Nat.le_of_ble_eq_true rfl) (Nat.le_of_ble_eq_true rfl) hW rfl hb (QMv.run hm)
theorem dX9_load_70 : decode (i_b iX9_load) 70 = .ok (.aload_n 0, 1) := by decide +kernel
theorem wX9_load_70 {x : Nat} (kk : QW V iX9_load 71 [some (.ref x), a1] (.ref x :: st) h z bc bs Kr Kx) : QW V iX9_load 70 [some (.ref x), a1] (st) h z bc bs Kr Kx := q_aload_n dX9_load_70 rfl rfl kk
theorem dX9_load_71 : decode (i_b iX9_load) 71 = .ok (.invokevirtual 163, 3) := by decide +kernel
theorem wX9_load_71 {a : Nat} {fs : List Value}  (hb : h a = some (.inr (10, fs))) (hm : QMv V iX9_readBrackets [.ref a] h z (fun h' z' => QW V iX9_load 74 [a0, a1] (st) h' z' bc bs Kr Kx) Kx) (hW : (st.map fun v => v.category).sum ≤ 8 := by exact Nat.le_of_ble_eq_true rfl) : QW V iX9_load 71 [a0, a1] (.ref a :: st) h z bc bs Kr Kx := q_callV (y' := iX9_readBrackets) (As := []) (rest := st) dX9_load_71 k6_156 k6_158 ks_49 k1_10 hhX9_readBrackets rfl hdX9_readBrackets rfl rfl (Nat.le_of_ble_eq_true rfl) (Nat.le_of_ble_eq_true rfl) hW rfl hb (QMv.run hm)
theorem dX9_load_74 : decode (i_b iX9_load) 74 = .ok (.aload_n 0, 1) := by decide +kernel
theorem wX9_load_74 {x : Nat} (kk : QW V iX9_load 75 [some (.ref x), a1] (.ref x :: st) h z bc bs Kr Kx) : QW V iX9_load 74 [some (.ref x), a1] (st) h z bc bs Kr Kx := q_aload_n dX9_load_74 rfl rfl kk
theorem dX9_load_75 : decode (i_b iX9_load) 75 = .ok (.ldc 166, 2) := by decide +kernel
theorem wX9_load_75  (kk : QW V iX9_load 77 [a0, a1] (.ref (e_S V 2) :: st) h z bc bs Kr Kx) : QW V iX9_load 75 [a0, a1] (st) h z bc bs Kr Kx := q_ldcS (tx := "teams") dX9_load_75 (by decide +kernel) kk
theorem dX9_load_77 : decode (i_b iX9_load) 77 = .ok (.invokevirtual 132, 3) := by decide +kernel
theorem wX9_load_77 {a : Nat} {fs : List Value} {x0 : Nat} (hb : h a = some (.inr (10, fs))) (hm : QMv V iX9_expect [.ref a, .ref x0] h z (fun h' z' => QW V iX9_load 80 [a0, a1] (st) h' z' bc bs Kr Kx) Kx) (hW : (st.map fun v => v.category).sum ≤ 8 := by exact Nat.le_of_ble_eq_true rfl) : QW V iX9_load 77 [a0, a1] (.ref x0 :: .ref a :: st) h z bc bs Kr Kx := q_callV (y' := iX9_expect) (As := [.ref x0]) (rest := st) dX9_load_77 k6_132 k6_134 ks_44 k1_10 hhX9_expect rfl hdX9_expect rfl rfl (Nat.le_of_ble_eq_true rfl) (Nat.le_of_ble_eq_true rfl) hW rfl hb (QMv.run hm)
theorem dX9_load_80 : decode (i_b iX9_load) 80 = .ok (.aload_n 0, 1) := by decide +kernel
theorem wX9_load_80 {x : Nat} (kk : QW V iX9_load 81 [some (.ref x), a1] (.ref x :: st) h z bc bs Kr Kx) : QW V iX9_load 80 [some (.ref x), a1] (st) h z bc bs Kr Kx := q_aload_n dX9_load_80 rfl rfl kk
theorem dX9_load_81 : decode (i_b iX9_load) 81 = .ok (.getfield 30, 3) := by decide +kernel
theorem wX9_load_81 {o : Nat} {m : Nat → Int32} (ha : h o = some (.inr (10, q_MF o m))) (kk : QW V iX9_load 84 [a0, a1] (.ref (o + 6) :: st) h z bc bs Kr Kx) : QW V iX9_load 81 [a0, a1] (.ref o :: st) h z bc bs Kr Kx := q_getf (k := 24) dX9_load_81 klX9 rfl (Nat.le_of_ble_eq_true rfl : 24 < 35) k5_237 rfl ha rfl kk
theorem wX9_load_81u {o : Nat} {m : Nat → Int32} (kk : QW V iX9_load 84 [a0, a1] (.ref (o + 6) :: st) (q_up h o (.inr (10, q_MF o m))) z bc bs Kr Kx) : QW V iX9_load 81 [a0, a1] (.ref o :: st) (q_up h o (.inr (10, q_MF o m))) z bc bs Kr Kx := wX9_load_81 q_up_s kk
theorem dX9_load_84 : decode (i_b iX9_load) 84 = .ok (.iconst 5, 1) := by decide +kernel
theorem wX9_load_84  (kk : QW V iX9_load 85 [a0, a1] (.int (5) :: st) h z bc bs Kr Kx) : QW V iX9_load 84 [a0, a1] (st) h z bc bs Kr Kx := q_iconst dX9_load_84 (by decide) kk
theorem dX9_load_85 : decode (i_b iX9_load) 85 = .ok (.aload_n 0, 1) := by decide +kernel
theorem wX9_load_85 {x : Nat} (kk : QW V iX9_load 86 [some (.ref x), a1] (.ref x :: st) h z bc bs Kr Kx) : QW V iX9_load 85 [some (.ref x), a1] (st) h z bc bs Kr Kx := q_aload_n dX9_load_85 rfl rfl kk
theorem dX9_load_86 : decode (i_b iX9_load) 86 = .ok (.iconst 1, 1) := by decide +kernel
theorem wX9_load_86  (kk : QW V iX9_load 87 [a0, a1] (.int (1) :: st) h z bc bs Kr Kx) : QW V iX9_load 86 [a0, a1] (st) h z bc bs Kr Kx := q_iconst dX9_load_86 (by decide) kk
theorem dX9_load_87 : decode (i_b iX9_load) 87 = .ok (.iconst 4, 1) := by decide +kernel
theorem wX9_load_87  (kk : QW V iX9_load 88 [a0, a1] (.int (4) :: st) h z bc bs Kr Kx) : QW V iX9_load 87 [a0, a1] (st) h z bc bs Kr Kx := q_iconst dX9_load_87 (by decide) kk
theorem dX9_load_88 : decode (i_b iX9_load) 88 = .ok (.invokevirtual 137, 3) := by decide +kernel
theorem wX9_load_88 {a : Nat} {fs : List Value} {x0 : Int32} {x1 : Int32} (hb : h a = some (.inr (10, fs))) (hm : QMi V iX9_read [.ref a, .int x0, .int x1] h z (fun r h' z' => QW V iX9_load 91 [a0, a1] (.int r :: st) h' z' bc bs Kr Kx) Kx) (hW : (st.map fun v => v.category).sum ≤ 8 := by exact Nat.le_of_ble_eq_true rfl) : QW V iX9_load 88 [a0, a1] (.int x1 :: .int x0 :: .ref a :: st) h z bc bs Kr Kx := q_callV (y' := iX9_read) (As := [.int x0, .int x1]) (rest := st) dX9_load_88 k6_147 k6_149 ks_47 k1_10 hhX9_read rfl hdX9_read rfl rfl (Nat.le_of_ble_eq_true rfl) (Nat.le_of_ble_eq_true rfl) hW rfl hb (QMi.run hm)
theorem dX9_load_91 : decode (i_b iX9_load) 91 = .ok (.iastore, 1) := by decide +kernel
theorem wX9_load_91 {a n j : Nat} {f : Nat → Int32} {i : Int32} {x : Int32} (ha : h a = some (.inl (1, n, .inl f))) (hi : i = nI j) (hj : j < n) (hn : n < 2147483648) (kk : QW V iX9_load 92 [a0, a1] (st) (q_up h a (.inl (1, n, .inl (upd f j x)))) z bc bs Kr Kx) : QW V iX9_load 91 [a0, a1] (.int x :: .int i :: .ref a :: st) h z bc bs Kr Kx := q_iast dX9_load_91 ha hi hj hn kk
theorem wX9_load_91u {a n j : Nat} {f : Nat → Int32} {i : Int32} {x : Int32} (hi : i = nI j) (hj : j < n) (hn : n < 2147483648) (kk : QW V iX9_load 92 [a0, a1] (st) (q_up h a (.inl (1, n, .inl (upd f j x)))) z bc bs Kr Kx) : QW V iX9_load 91 [a0, a1] (.int x :: .int i :: .ref a :: st) (q_up h a (.inl (1, n, .inl f))) z bc bs Kr Kx := wX9_load_91 q_up_s hi hj hn (by rw [q_up_u]; exact kk)
theorem dX9_load_92 : decode (i_b iX9_load) 92 = .ok (.aload_n 0, 1) := by decide +kernel
theorem wX9_load_92 {x : Nat} (kk : QW V iX9_load 93 [some (.ref x), a1] (.ref x :: st) h z bc bs Kr Kx) : QW V iX9_load 92 [some (.ref x), a1] (st) h z bc bs Kr Kx := q_aload_n dX9_load_92 rfl rfl kk
theorem dX9_load_93 : decode (i_b iX9_load) 93 = .ok (.invokevirtual 142, 3) := by decide +kernel
theorem wX9_load_93 {a : Nat} {fs : List Value}  (hb : h a = some (.inr (10, fs))) (hm : QMv V iX9_expectSemicolon [.ref a] h z (fun h' z' => QW V iX9_load 96 [a0, a1] (st) h' z' bc bs Kr Kx) Kx) (hW : (st.map fun v => v.category).sum ≤ 8 := by exact Nat.le_of_ble_eq_true rfl) : QW V iX9_load 93 [a0, a1] (.ref a :: st) h z bc bs Kr Kx := q_callV (y' := iX9_expectSemicolon) (As := []) (rest := st) dX9_load_93 k6_152 k6_154 ks_48 k1_10 hhX9_expectSemicolon rfl hdX9_expectSemicolon rfl rfl (Nat.le_of_ble_eq_true rfl) (Nat.le_of_ble_eq_true rfl) hW rfl hb (QMv.run hm)
theorem dX9_load_96 : decode (i_b iX9_load) 96 = .ok (.aload_n 0, 1) := by decide +kernel
theorem wX9_load_96 {x : Nat} (kk : QW V iX9_load 97 [some (.ref x), a1] (.ref x :: st) h z bc bs Kr Kx) : QW V iX9_load 96 [some (.ref x), a1] (st) h z bc bs Kr Kx := q_aload_n dX9_load_96 rfl rfl kk
theorem dX9_load_97 : decode (i_b iX9_load) 97 = .ok (.ldc 168, 2) := by decide +kernel
theorem wX9_load_97  (kk : QW V iX9_load 99 [a0, a1] (.ref (e_S V 3) :: st) h z bc bs Kr Kx) : QW V iX9_load 97 [a0, a1] (st) h z bc bs Kr Kx := q_ldcS (tx := "players") dX9_load_97 (by decide +kernel) kk
theorem dX9_load_99 : decode (i_b iX9_load) 99 = .ok (.invokevirtual 132, 3) := by decide +kernel
theorem wX9_load_99 {a : Nat} {fs : List Value} {x0 : Nat} (hb : h a = some (.inr (10, fs))) (hm : QMv V iX9_expect [.ref a, .ref x0] h z (fun h' z' => QW V iX9_load 102 [a0, a1] (st) h' z' bc bs Kr Kx) Kx) (hW : (st.map fun v => v.category).sum ≤ 8 := by exact Nat.le_of_ble_eq_true rfl) : QW V iX9_load 99 [a0, a1] (.ref x0 :: .ref a :: st) h z bc bs Kr Kx := q_callV (y' := iX9_expect) (As := [.ref x0]) (rest := st) dX9_load_99 k6_132 k6_134 ks_44 k1_10 hhX9_expect rfl hdX9_expect rfl rfl (Nat.le_of_ble_eq_true rfl) (Nat.le_of_ble_eq_true rfl) hW rfl hb (QMv.run hm)
theorem dX9_load_102 : decode (i_b iX9_load) 102 = .ok (.aload_n 0, 1) := by decide +kernel
theorem wX9_load_102 {x : Nat} (kk : QW V iX9_load 103 [some (.ref x), a1] (.ref x :: st) h z bc bs Kr Kx) : QW V iX9_load 102 [some (.ref x), a1] (st) h z bc bs Kr Kx := q_aload_n dX9_load_102 rfl rfl kk
theorem dX9_load_103 : decode (i_b iX9_load) 103 = .ok (.getfield 30, 3) := by decide +kernel
theorem wX9_load_103 {o : Nat} {m : Nat → Int32} (ha : h o = some (.inr (10, q_MF o m))) (kk : QW V iX9_load 106 [a0, a1] (.ref (o + 6) :: st) h z bc bs Kr Kx) : QW V iX9_load 103 [a0, a1] (.ref o :: st) h z bc bs Kr Kx := q_getf (k := 24) dX9_load_103 klX9 rfl (Nat.le_of_ble_eq_true rfl : 24 < 35) k5_237 rfl ha rfl kk
theorem wX9_load_103u {o : Nat} {m : Nat → Int32} (kk : QW V iX9_load 106 [a0, a1] (.ref (o + 6) :: st) (q_up h o (.inr (10, q_MF o m))) z bc bs Kr Kx) : QW V iX9_load 103 [a0, a1] (.ref o :: st) (q_up h o (.inr (10, q_MF o m))) z bc bs Kr Kx := wX9_load_103 q_up_s kk
theorem dX9_load_106 : decode (i_b iX9_load) 106 = .ok (.bipush 6, 2) := by decide +kernel
theorem wX9_load_106  (kk : QW V iX9_load 108 [a0, a1] (.int (6) :: st) h z bc bs Kr Kx) : QW V iX9_load 106 [a0, a1] (st) h z bc bs Kr Kx := q_bipush dX9_load_106 (by decide) kk
theorem dX9_load_108 : decode (i_b iX9_load) 108 = .ok (.aload_n 0, 1) := by decide +kernel
theorem wX9_load_108 {x : Nat} (kk : QW V iX9_load 109 [some (.ref x), a1] (.ref x :: st) h z bc bs Kr Kx) : QW V iX9_load 108 [some (.ref x), a1] (st) h z bc bs Kr Kx := q_aload_n dX9_load_108 rfl rfl kk
theorem dX9_load_109 : decode (i_b iX9_load) 109 = .ok (.iconst 1, 1) := by decide +kernel
theorem wX9_load_109  (kk : QW V iX9_load 110 [a0, a1] (.int (1) :: st) h z bc bs Kr Kx) : QW V iX9_load 109 [a0, a1] (st) h z bc bs Kr Kx := q_iconst dX9_load_109 (by decide) kk
theorem dX9_load_110 : decode (i_b iX9_load) 110 = .ok (.bipush 24, 2) := by decide +kernel
theorem wX9_load_110  (kk : QW V iX9_load 112 [a0, a1] (.int (24) :: st) h z bc bs Kr Kx) : QW V iX9_load 110 [a0, a1] (st) h z bc bs Kr Kx := q_bipush dX9_load_110 (by decide) kk
theorem dX9_load_112 : decode (i_b iX9_load) 112 = .ok (.invokevirtual 137, 3) := by decide +kernel
theorem wX9_load_112 {a : Nat} {fs : List Value} {x0 : Int32} {x1 : Int32} (hb : h a = some (.inr (10, fs))) (hm : QMi V iX9_read [.ref a, .int x0, .int x1] h z (fun r h' z' => QW V iX9_load 115 [a0, a1] (.int r :: st) h' z' bc bs Kr Kx) Kx) (hW : (st.map fun v => v.category).sum ≤ 8 := by exact Nat.le_of_ble_eq_true rfl) : QW V iX9_load 112 [a0, a1] (.int x1 :: .int x0 :: .ref a :: st) h z bc bs Kr Kx := q_callV (y' := iX9_read) (As := [.int x0, .int x1]) (rest := st) dX9_load_112 k6_147 k6_149 ks_47 k1_10 hhX9_read rfl hdX9_read rfl rfl (Nat.le_of_ble_eq_true rfl) (Nat.le_of_ble_eq_true rfl) hW rfl hb (QMi.run hm)
theorem dX9_load_115 : decode (i_b iX9_load) 115 = .ok (.iastore, 1) := by decide +kernel
theorem wX9_load_115 {a n j : Nat} {f : Nat → Int32} {i : Int32} {x : Int32} (ha : h a = some (.inl (1, n, .inl f))) (hi : i = nI j) (hj : j < n) (hn : n < 2147483648) (kk : QW V iX9_load 116 [a0, a1] (st) (q_up h a (.inl (1, n, .inl (upd f j x)))) z bc bs Kr Kx) : QW V iX9_load 115 [a0, a1] (.int x :: .int i :: .ref a :: st) h z bc bs Kr Kx := q_iast dX9_load_115 ha hi hj hn kk
theorem wX9_load_115u {a n j : Nat} {f : Nat → Int32} {i : Int32} {x : Int32} (hi : i = nI j) (hj : j < n) (hn : n < 2147483648) (kk : QW V iX9_load 116 [a0, a1] (st) (q_up h a (.inl (1, n, .inl (upd f j x)))) z bc bs Kr Kx) : QW V iX9_load 115 [a0, a1] (.int x :: .int i :: .ref a :: st) (q_up h a (.inl (1, n, .inl f))) z bc bs Kr Kx := wX9_load_115 q_up_s hi hj hn (by rw [q_up_u]; exact kk)
theorem dX9_load_116 : decode (i_b iX9_load) 116 = .ok (.aload_n 0, 1) := by decide +kernel
theorem wX9_load_116 {x : Nat} (kk : QW V iX9_load 117 [some (.ref x), a1] (.ref x :: st) h z bc bs Kr Kx) : QW V iX9_load 116 [some (.ref x), a1] (st) h z bc bs Kr Kx := q_aload_n dX9_load_116 rfl rfl kk
theorem dX9_load_117 : decode (i_b iX9_load) 117 = .ok (.invokevirtual 142, 3) := by decide +kernel
theorem wX9_load_117 {a : Nat} {fs : List Value}  (hb : h a = some (.inr (10, fs))) (hm : QMv V iX9_expectSemicolon [.ref a] h z (fun h' z' => QW V iX9_load 120 [a0, a1] (st) h' z' bc bs Kr Kx) Kx) (hW : (st.map fun v => v.category).sum ≤ 8 := by exact Nat.le_of_ble_eq_true rfl) : QW V iX9_load 117 [a0, a1] (.ref a :: st) h z bc bs Kr Kx := q_callV (y' := iX9_expectSemicolon) (As := []) (rest := st) dX9_load_117 k6_152 k6_154 ks_48 k1_10 hhX9_expectSemicolon rfl hdX9_expectSemicolon rfl rfl (Nat.le_of_ble_eq_true rfl) (Nat.le_of_ble_eq_true rfl) hW rfl hb (QMv.run hm)
theorem dX9_load_120 : decode (i_b iX9_load) 120 = .ok (.aload_n 0, 1) := by decide +kernel
theorem wX9_load_120 {x : Nat} (kk : QW V iX9_load 121 [some (.ref x), a1] (.ref x :: st) h z bc bs Kr Kx) : QW V iX9_load 120 [some (.ref x), a1] (st) h z bc bs Kr Kx := q_aload_n dX9_load_120 rfl rfl kk
theorem dX9_load_121 : decode (i_b iX9_load) 121 = .ok (.ldc 170, 2) := by decide +kernel
theorem wX9_load_121  (kk : QW V iX9_load 123 [a0, a1] (.ref (e_S V 4) :: st) h z bc bs Kr Kx) : QW V iX9_load 121 [a0, a1] (st) h z bc bs Kr Kx := q_ldcS (tx := "contract") dX9_load_121 (by decide +kernel) kk
theorem dX9_load_123 : decode (i_b iX9_load) 123 = .ok (.invokevirtual 120, 3) := by decide +kernel
theorem wX9_load_123 {a : Nat} {fs : List Value} {x0 : Nat} (hb : h a = some (.inr (10, fs))) (hm : QMi V iX9_isWord [.ref a, .ref x0] h z (fun r h' z' => QW V iX9_load 126 [a0, a1] (.int r :: st) h' z' bc bs Kr Kx) Kx) (hW : (st.map fun v => v.category).sum ≤ 8 := by exact Nat.le_of_ble_eq_true rfl) : QW V iX9_load 123 [a0, a1] (.ref x0 :: .ref a :: st) h z bc bs Kr Kx := q_callV (y' := iX9_isWord) (As := [.ref x0]) (rest := st) dX9_load_123 k6_136 k6_138 ks_45 k1_10 hhX9_isWord rfl hdX9_isWord rfl rfl (Nat.le_of_ble_eq_true rfl) (Nat.le_of_ble_eq_true rfl) hW rfl hb (QMi.run hm)
theorem dX9_load_126 : decode (i_b iX9_load) 126 = .ok (.ifCond .eq 10, 3) := by decide +kernel
theorem wX9_load_126 {x : Int32} (kt : x = 0 → QW V iX9_load 136 [a0, a1] (st) h z bc bs Kr Kx) (kf : ¬ x = 0 → QW V iX9_load 129 [a0, a1] (st) h z bc bs Kr Kx) : QW V iX9_load 126 [a0, a1] (.int x :: st) h z bc bs Kr Kx := q_if_eq dX9_load_126 (by decide) kt kf
theorem dX9_load_129 : decode (i_b iX9_load) 129 = .ok (.aload_n 0, 1) := by decide +kernel
theorem wX9_load_129 {x : Nat} (kk : QW V iX9_load 130 [some (.ref x), a1] (.ref x :: st) h z bc bs Kr Kx) : QW V iX9_load 129 [some (.ref x), a1] (st) h z bc bs Kr Kx := q_aload_n dX9_load_129 rfl rfl kk
theorem dX9_load_130 : decode (i_b iX9_load) 130 = .ok (.invokevirtual 172, 3) := by decide +kernel
theorem wX9_load_130 {a : Nat} {fs : List Value}  (hb : h a = some (.inr (10, fs))) (hm : QMv V iX9_readContract [.ref a] h z (fun h' z' => QW V iX9_load 133 [a0, a1] (st) h' z' bc bs Kr Kx) Kx) (hW : (st.map fun v => v.category).sum ≤ 8 := by exact Nat.le_of_ble_eq_true rfl) : QW V iX9_load 130 [a0, a1] (.ref a :: st) h z bc bs Kr Kx := q_callV (y' := iX9_readContract) (As := []) (rest := st) dX9_load_130 k6_164 k6_166 ks_50 k1_10 hhX9_readContract rfl hdX9_readContract rfl rfl (Nat.le_of_ble_eq_true rfl) (Nat.le_of_ble_eq_true rfl) hW rfl hb (QMv.run hm)
theorem dX9_load_133 : decode (i_b iX9_load) 133 = .ok (.goto (-13), 3) := by decide +kernel
theorem wX9_load_133  (kk : QW V iX9_load 120 [a0, a1] (st) h z bc bs Kr Kx) : QW V iX9_load 133 [a0, a1] (st) h z bc bs Kr Kx := q_goto dX9_load_133 (by decide) kk
theorem dX9_load_136 : decode (i_b iX9_load) 136 = .ok (.aload_n 0, 1) := by decide +kernel
theorem wX9_load_136 {x : Nat} (kk : QW V iX9_load 137 [some (.ref x), a1] (.ref x :: st) h z bc bs Kr Kx) : QW V iX9_load 136 [some (.ref x), a1] (st) h z bc bs Kr Kx := q_aload_n dX9_load_136 rfl rfl kk
theorem dX9_load_137 : decode (i_b iX9_load) 137 = .ok (.getfield 97, 3) := by decide +kernel
theorem wX9_load_137 {o : Nat} {m : Nat → Int32} (ha : h o = some (.inr (10, q_MF o m))) (kk : QW V iX9_load 140 [a0, a1] (.int (m 20) :: st) h z bc bs Kr Kx) : QW V iX9_load 137 [a0, a1] (.ref o :: st) h z bc bs Kr Kx := q_getf (k := 20) dX9_load_137 klX9 rfl (Nat.le_of_ble_eq_true rfl : 20 < 35) k5_233 rfl ha rfl kk
theorem wX9_load_137u {o : Nat} {m : Nat → Int32} (kk : QW V iX9_load 140 [a0, a1] (.int (m 20) :: st) (q_up h o (.inr (10, q_MF o m))) z bc bs Kr Kx) : QW V iX9_load 137 [a0, a1] (.ref o :: st) (q_up h o (.inr (10, q_MF o m))) z bc bs Kr Kx := wX9_load_137 q_up_s kk
theorem dX9_load_140 : decode (i_b iX9_load) 140 = .ok (.ifCond .eq 8, 3) := by decide +kernel
theorem wX9_load_140 {x : Int32} (kt : x = 0 → QW V iX9_load 148 [a0, a1] (st) h z bc bs Kr Kx) (kf : ¬ x = 0 → QW V iX9_load 143 [a0, a1] (st) h z bc bs Kr Kx) : QW V iX9_load 140 [a0, a1] (.int x :: st) h z bc bs Kr Kx := q_if_eq dX9_load_140 (by decide) kt kf
theorem dX9_load_143 : decode (i_b iX9_load) 143 = .ok (.aload_n 0, 1) := by decide +kernel
theorem wX9_load_143 {x : Nat} (kk : QW V iX9_load 144 [some (.ref x), a1] (.ref x :: st) h z bc bs Kr Kx) : QW V iX9_load 143 [some (.ref x), a1] (st) h z bc bs Kr Kx := q_aload_n dX9_load_143 rfl rfl kk
theorem dX9_load_144 : decode (i_b iX9_load) 144 = .ok (.iconst 1, 1) := by decide +kernel
theorem wX9_load_144  (kk : QW V iX9_load 145 [a0, a1] (.int (1) :: st) h z bc bs Kr Kx) : QW V iX9_load 144 [a0, a1] (st) h z bc bs Kr Kx := q_iconst dX9_load_144 (by decide) kk
theorem dX9_load_145 : decode (i_b iX9_load) 145 = .ok (.invokevirtual 124, 3) := by decide +kernel
theorem wX9_load_145 {a : Nat} {fs : List Value} {x0 : Int32} (hb : h a = some (.inr (10, fs))) (hm : QMv V iX9_fail [.ref a, .int x0] h z (fun h' z' => QW V iX9_load 148 [a0, a1] (st) h' z' bc bs Kr Kx) Kx) (hW : (st.map fun v => v.category).sum ≤ 8 := by exact Nat.le_of_ble_eq_true rfl) : QW V iX9_load 145 [a0, a1] (.int x0 :: .ref a :: st) h z bc bs Kr Kx := q_callV (y' := iX9_fail) (As := [.int x0]) (rest := st) dX9_load_145 k6_142 k6_144 ks_46 k1_10 hhX9_fail rfl hdX9_fail rfl rfl (Nat.le_of_ble_eq_true rfl) (Nat.le_of_ble_eq_true rfl) hW rfl hb (QMv.run hm)
theorem dX9_load_148 : decode (i_b iX9_load) 148 = .ok (.aload_n 0, 1) := by decide +kernel
theorem wX9_load_148 {x : Nat} (kk : QW V iX9_load 149 [some (.ref x), a1] (.ref x :: st) h z bc bs Kr Kx) : QW V iX9_load 148 [some (.ref x), a1] (st) h z bc bs Kr Kx := q_aload_n dX9_load_148 rfl rfl kk
theorem dX9_load_149 : decode (i_b iX9_load) 149 = .ok (.invokevirtual 87, 3) := by decide +kernel
theorem wX9_load_149 {a : Nat} {fs : List Value}  (hb : h a = some (.inr (10, fs))) (hm : QMi V iX9_isFine [.ref a] h z (fun r h' z' => QW V iX9_load 152 [a0, a1] (.int r :: st) h' z' bc bs Kr Kx) Kx) (hW : (st.map fun v => v.category).sum ≤ 8 := by exact Nat.le_of_ble_eq_true rfl) : QW V iX9_load 149 [a0, a1] (.ref a :: st) h z bc bs Kr Kx := q_callV (y' := iX9_isFine) (As := []) (rest := st) dX9_load_149 k6_107 k6_109 ks_39 k1_10 hhX9_isFine rfl hdX9_isFine rfl rfl (Nat.le_of_ble_eq_true rfl) (Nat.le_of_ble_eq_true rfl) hW rfl hb (QMi.run hm)
theorem dX9_load_152 : decode (i_b iX9_load) 152 = .ok (.ifCond .ne 11, 3) := by decide +kernel
theorem wX9_load_152 {x : Int32} (kt : ¬ x = 0 → QW V iX9_load 163 [a0, a1] (st) h z bc bs Kr Kx) (kf : x = 0 → QW V iX9_load 155 [a0, a1] (st) h z bc bs Kr Kx) : QW V iX9_load 152 [a0, a1] (.int x :: st) h z bc bs Kr Kx := q_if_ne dX9_load_152 (by decide) kt kf
theorem dX9_load_155 : decode (i_b iX9_load) 155 = .ok (.bipush (-10), 2) := by decide +kernel
theorem wX9_load_155  (kk : QW V iX9_load 157 [a0, a1] (.int (-10) :: st) h z bc bs Kr Kx) : QW V iX9_load 155 [a0, a1] (st) h z bc bs Kr Kx := q_bipush dX9_load_155 (by decide) kk
theorem dX9_load_157 : decode (i_b iX9_load) 157 = .ok (.aload_n 0, 1) := by decide +kernel
theorem wX9_load_157 {x : Nat} (kk : QW V iX9_load 158 [some (.ref x), a1] (.ref x :: st) h z bc bs Kr Kx) : QW V iX9_load 157 [some (.ref x), a1] (st) h z bc bs Kr Kx := q_aload_n dX9_load_157 rfl rfl kk
theorem dX9_load_158 : decode (i_b iX9_load) 158 = .ok (.getfield 84, 3) := by decide +kernel
theorem wX9_load_158 {o : Nat} {m : Nat → Int32} (ha : h o = some (.inr (10, q_MF o m))) (kk : QW V iX9_load 161 [a0, a1] (.int (m 22) :: st) h z bc bs Kr Kx) : QW V iX9_load 158 [a0, a1] (.ref o :: st) h z bc bs Kr Kx := q_getf (k := 22) dX9_load_158 klX9 rfl (Nat.le_of_ble_eq_true rfl : 22 < 35) k5_235 rfl ha rfl kk
theorem wX9_load_158u {o : Nat} {m : Nat → Int32} (kk : QW V iX9_load 161 [a0, a1] (.int (m 22) :: st) (q_up h o (.inr (10, q_MF o m))) z bc bs Kr Kx) : QW V iX9_load 158 [a0, a1] (.ref o :: st) (q_up h o (.inr (10, q_MF o m))) z bc bs Kr Kx := wX9_load_158 q_up_s kk
theorem dX9_load_161 : decode (i_b iX9_load) 161 = .ok (.isub, 1) := by decide +kernel
theorem wX9_load_161 {x y : Int32} (kk : QW V iX9_load 162 [a0, a1] (.int (x - y) :: st) h z bc bs Kr Kx) : QW V iX9_load 161 [a0, a1] (.int y :: .int x :: st) h z bc bs Kr Kx := q_isub dX9_load_161 kk
theorem dX9_load_162 : decode (i_b iX9_load) 162 = .ok (.ireturn, 1) := by decide +kernel
theorem wX9_load_162 {x : Int32} {P : Int32 → q_H → Option Nat → Prop} (hk : P x h z) : QW V iX9_load 162 [a0, a1] [.int x] h z bc bs (q_Ki P) Kx := q_iret dX9_load_162 rfl rfl ⟨x, rfl, hk⟩
theorem dX9_load_163 : decode (i_b iX9_load) 163 = .ok (.aload_n 0, 1) := by decide +kernel
theorem wX9_load_163 {x : Nat} (kk : QW V iX9_load 164 [some (.ref x), a1] (.ref x :: st) h z bc bs Kr Kx) : QW V iX9_load 163 [some (.ref x), a1] (st) h z bc bs Kr Kx := q_aload_n dX9_load_163 rfl rfl kk
theorem dX9_load_164 : decode (i_b iX9_load) 164 = .ok (.invokevirtual 175, 3) := by decide +kernel
theorem wX9_load_164 {a : Nat} {fs : List Value}  (hb : h a = some (.inr (10, fs))) (hm : QMv V iX9_takeOver [.ref a] h z (fun h' z' => QW V iX9_load 167 [a0, a1] (st) h' z' bc bs Kr Kx) Kx) (hW : (st.map fun v => v.category).sum ≤ 8 := by exact Nat.le_of_ble_eq_true rfl) : QW V iX9_load 164 [a0, a1] (.ref a :: st) h z bc bs Kr Kx := q_callV (y' := iX9_takeOver) (As := []) (rest := st) dX9_load_164 k6_176 k6_178 ks_53 k1_10 hhX9_takeOver rfl hdX9_takeOver rfl rfl (Nat.le_of_ble_eq_true rfl) (Nat.le_of_ble_eq_true rfl) hW rfl hb (QMv.run hm)
theorem dX9_load_167 : decode (i_b iX9_load) 167 = .ok (.aload_n 0, 1) := by decide +kernel
theorem wX9_load_167 {x : Nat} (kk : QW V iX9_load 168 [some (.ref x), a1] (.ref x :: st) h z bc bs Kr Kx) : QW V iX9_load 167 [some (.ref x), a1] (st) h z bc bs Kr Kx := q_aload_n dX9_load_167 rfl rfl kk
theorem dX9_load_168 : decode (i_b iX9_load) 168 = .ok (.getfield 157, 3) := by decide +kernel
theorem wX9_load_168 {o : Nat} {m : Nat → Int32} (ha : h o = some (.inr (10, q_MF o m))) (kk : QW V iX9_load 171 [a0, a1] (.int (m 28) :: st) h z bc bs Kr Kx) : QW V iX9_load 168 [a0, a1] (.ref o :: st) h z bc bs Kr Kx := q_getf (k := 28) dX9_load_168 klX9 rfl (Nat.le_of_ble_eq_true rfl : 28 < 35) k6_1 rfl ha rfl kk
theorem wX9_load_168u {o : Nat} {m : Nat → Int32} (kk : QW V iX9_load 171 [a0, a1] (.int (m 28) :: st) (q_up h o (.inr (10, q_MF o m))) z bc bs Kr Kx) : QW V iX9_load 168 [a0, a1] (.ref o :: st) (q_up h o (.inr (10, q_MF o m))) z bc bs Kr Kx := wX9_load_168 q_up_s kk
theorem dX9_load_171 : decode (i_b iX9_load) 171 = .ok (.ireturn, 1) := by decide +kernel
theorem wX9_load_171 {x : Int32} {P : Int32 → q_H → Option Nat → Prop} (hk : P x h z) : QW V iX9_load 171 [a0, a1] [.int x] h z bc bs (q_Ki P) Kx := q_iret dX9_load_171 rfl rfl ⟨x, rfl, hk⟩
theorem eX9_takeOver {o : Nat} {P : q_H → Option Nat → Prop} (kk : QW V iX9_takeOver 0 [some (.ref o), none, none, none] [] h z 0 0 (q_Kv P) Kx) : QMv V iX9_takeOver [.ref o] h z P Kx := q_enter rfl (by decide +kernel) rfl (Nat.le_of_ble_eq_true rfl) kk
theorem dX9_takeOver_0 : decode (i_b iX9_takeOver) 0 = .ok (.aload_n 0, 1) := by decide +kernel
theorem wX9_takeOver_0 {x : Nat} (kk : QW V iX9_takeOver 1 [some (.ref x), a1, a2, a3] (.ref x :: st) h z bc bs Kr Kx) : QW V iX9_takeOver 0 [some (.ref x), a1, a2, a3] (st) h z bc bs Kr Kx := q_aload_n dX9_takeOver_0 rfl rfl kk
theorem dX9_takeOver_1 : decode (i_b iX9_takeOver) 1 = .ok (.iconst 1, 1) := by decide +kernel
theorem wX9_takeOver_1  (kk : QW V iX9_takeOver 2 [a0, a1, a2, a3] (.int (1) :: st) h z bc bs Kr Kx) : QW V iX9_takeOver 1 [a0, a1, a2, a3] (st) h z bc bs Kr Kx := q_iconst dX9_takeOver_1 (by decide) kk
theorem dX9_takeOver_2 : decode (i_b iX9_takeOver) 2 = .ok (.putfield 54, 3) := by decide +kernel
theorem wX9_takeOver_2 {o : Nat} {m : Nat → Int32} {x : Int32} (ha : h o = some (.inr (10, q_MF o m))) (kk : QW V iX9_takeOver 5 [a0, a1, a2, a3] (st) (q_up h o (.inr (10, q_MF o (upd m 3 x)))) z bc bs Kr Kx) (hn : narrow (tyX9 3) (.int x) = .int x := by rfl) (hfit : fits (tyX9 3) (.int x) = true := by rfl) : QW V iX9_takeOver 2 [a0, a1, a2, a3] (.int x :: .ref o :: st) h z bc bs Kr Kx := q_putf (k := 3) tyX9 dX9_takeOver_2 klX9 tyX9_ok nmX9 rfl (Nat.le_of_ble_eq_true rfl : 3 < 35) k5_216 rfl rfl hn hfit (Nat.le_of_ble_eq_true rfl) ha (by rw [q_MF_3]; exact kk)
theorem wX9_takeOver_2u {o : Nat} {m : Nat → Int32} {x : Int32} (kk : QW V iX9_takeOver 5 [a0, a1, a2, a3] (st) (q_up h o (.inr (10, q_MF o (upd m 3 x)))) z bc bs Kr Kx) (hn : narrow (tyX9 3) (.int x) = .int x := by rfl) (hfit : fits (tyX9 3) (.int x) = true := by rfl) : QW V iX9_takeOver 2 [a0, a1, a2, a3] (.int x :: .ref o :: st) (q_up h o (.inr (10, q_MF o m))) z bc bs Kr Kx := wX9_takeOver_2 q_up_s (by rw [q_up_u]; exact kk) hn hfit
theorem dX9_takeOver_5 : decode (i_b iX9_takeOver) 5 = .ok (.aload_n 0, 1) := by decide +kernel
theorem wX9_takeOver_5 {x : Nat} (kk : QW V iX9_takeOver 6 [some (.ref x), a1, a2, a3] (.ref x :: st) h z bc bs Kr Kx) : QW V iX9_takeOver 5 [some (.ref x), a1, a2, a3] (st) h z bc bs Kr Kx := q_aload_n dX9_takeOver_5 rfl rfl kk
theorem dX9_takeOver_6 : decode (i_b iX9_takeOver) 6 = .ok (.iconst 0, 1) := by decide +kernel
theorem wX9_takeOver_6  (kk : QW V iX9_takeOver 7 [a0, a1, a2, a3] (.int (0) :: st) h z bc bs Kr Kx) : QW V iX9_takeOver 6 [a0, a1, a2, a3] (st) h z bc bs Kr Kx := q_iconst dX9_takeOver_6 (by decide) kk
theorem dX9_takeOver_7 : decode (i_b iX9_takeOver) 7 = .ok (.putfield 178, 3) := by decide +kernel
theorem wX9_takeOver_7 {o : Nat} {m : Nat → Int32} {x : Int32} (ha : h o = some (.inr (10, q_MF o m))) (kk : QW V iX9_takeOver 10 [a0, a1, a2, a3] (st) (q_up h o (.inr (10, q_MF o (upd m 2 x)))) z bc bs Kr Kx) : QW V iX9_takeOver 7 [a0, a1, a2, a3] (.int x :: .ref o :: st) h z bc bs Kr Kx := q_putf (k := 2) tyX9 dX9_takeOver_7 klX9 tyX9_ok nmX9 rfl (Nat.le_of_ble_eq_true rfl : 2 < 35) k5_215 rfl rfl rfl rfl (Nat.le_of_ble_eq_true rfl) ha (by rw [q_MF_2]; exact kk)
theorem wX9_takeOver_7u {o : Nat} {m : Nat → Int32} {x : Int32} (kk : QW V iX9_takeOver 10 [a0, a1, a2, a3] (st) (q_up h o (.inr (10, q_MF o (upd m 2 x)))) z bc bs Kr Kx) : QW V iX9_takeOver 7 [a0, a1, a2, a3] (.int x :: .ref o :: st) (q_up h o (.inr (10, q_MF o m))) z bc bs Kr Kx := wX9_takeOver_7 q_up_s (by rw [q_up_u]; exact kk)
theorem dX9_takeOver_10 : decode (i_b iX9_takeOver) 10 = .ok (.aload_n 0, 1) := by decide +kernel
theorem wX9_takeOver_10 {x : Nat} (kk : QW V iX9_takeOver 11 [some (.ref x), a1, a2, a3] (.ref x :: st) h z bc bs Kr Kx) : QW V iX9_takeOver 10 [some (.ref x), a1, a2, a3] (st) h z bc bs Kr Kx := q_aload_n dX9_takeOver_10 rfl rfl kk
theorem dX9_takeOver_11 : decode (i_b iX9_takeOver) 11 = .ok (.aload_n 0, 1) := by decide +kernel
theorem wX9_takeOver_11 {x : Nat} (kk : QW V iX9_takeOver 12 [some (.ref x), a1, a2, a3] (.ref x :: st) h z bc bs Kr Kx) : QW V iX9_takeOver 11 [some (.ref x), a1, a2, a3] (st) h z bc bs Kr Kx := q_aload_n dX9_takeOver_11 rfl rfl kk
theorem dX9_takeOver_12 : decode (i_b iX9_takeOver) 12 = .ok (.getfield 30, 3) := by decide +kernel
theorem wX9_takeOver_12 {o : Nat} {m : Nat → Int32} (ha : h o = some (.inr (10, q_MF o m))) (kk : QW V iX9_takeOver 15 [a0, a1, a2, a3] (.ref (o + 6) :: st) h z bc bs Kr Kx) : QW V iX9_takeOver 12 [a0, a1, a2, a3] (.ref o :: st) h z bc bs Kr Kx := q_getf (k := 24) dX9_takeOver_12 klX9 rfl (Nat.le_of_ble_eq_true rfl : 24 < 35) k5_237 rfl ha rfl kk
theorem wX9_takeOver_12u {o : Nat} {m : Nat → Int32} (kk : QW V iX9_takeOver 15 [a0, a1, a2, a3] (.ref (o + 6) :: st) (q_up h o (.inr (10, q_MF o m))) z bc bs Kr Kx) : QW V iX9_takeOver 12 [a0, a1, a2, a3] (.ref o :: st) (q_up h o (.inr (10, q_MF o m))) z bc bs Kr Kx := wX9_takeOver_12 q_up_s kk
theorem dX9_takeOver_15 : decode (i_b iX9_takeOver) 15 = .ok (.iconst 0, 1) := by decide +kernel
theorem wX9_takeOver_15  (kk : QW V iX9_takeOver 16 [a0, a1, a2, a3] (.int (0) :: st) h z bc bs Kr Kx) : QW V iX9_takeOver 15 [a0, a1, a2, a3] (st) h z bc bs Kr Kx := q_iconst dX9_takeOver_15 (by decide) kk
theorem dX9_takeOver_16 : decode (i_b iX9_takeOver) 16 = .ok (.iaload, 1) := by decide +kernel
theorem wX9_takeOver_16 {a n j : Nat} {f : Nat → Int32} {i : Int32} (ha : h a = some (.inl (1, n, .inl f))) (hi : i = nI j) (hj : j < n) (hn : n < 2147483648) (kk : QW V iX9_takeOver 17 [a0, a1, a2, a3] (.int (f j) :: st) h z bc bs Kr Kx) : QW V iX9_takeOver 16 [a0, a1, a2, a3] (.int i :: .ref a :: st) h z bc bs Kr Kx := q_iald dX9_takeOver_16 ha hi hj hn kk
theorem dX9_takeOver_17 : decode (i_b iX9_takeOver) 17 = .ok (.putfield 181, 3) := by decide +kernel
theorem wX9_takeOver_17 {o : Nat} {m : Nat → Int32} {x : Int32} (ha : h o = some (.inr (10, q_MF o m))) (kk : QW V iX9_takeOver 20 [a0, a1, a2, a3] (st) (q_up h o (.inr (10, q_MF o (upd m 8 x)))) z bc bs Kr Kx) : QW V iX9_takeOver 17 [a0, a1, a2, a3] (.int x :: .ref o :: st) h z bc bs Kr Kx := q_putf (k := 8) tyX9 dX9_takeOver_17 klX9 tyX9_ok nmX9 rfl (Nat.le_of_ble_eq_true rfl : 8 < 35) k5_221 rfl rfl rfl rfl (Nat.le_of_ble_eq_true rfl) ha (by rw [q_MF_8]; exact kk)
theorem wX9_takeOver_17u {o : Nat} {m : Nat → Int32} {x : Int32} (kk : QW V iX9_takeOver 20 [a0, a1, a2, a3] (st) (q_up h o (.inr (10, q_MF o (upd m 8 x)))) z bc bs Kr Kx) : QW V iX9_takeOver 17 [a0, a1, a2, a3] (.int x :: .ref o :: st) (q_up h o (.inr (10, q_MF o m))) z bc bs Kr Kx := wX9_takeOver_17 q_up_s (by rw [q_up_u]; exact kk)
theorem dX9_takeOver_20 : decode (i_b iX9_takeOver) 20 = .ok (.aload_n 0, 1) := by decide +kernel
theorem wX9_takeOver_20 {x : Nat} (kk : QW V iX9_takeOver 21 [some (.ref x), a1, a2, a3] (.ref x :: st) h z bc bs Kr Kx) : QW V iX9_takeOver 20 [some (.ref x), a1, a2, a3] (st) h z bc bs Kr Kx := q_aload_n dX9_takeOver_20 rfl rfl kk
theorem dX9_takeOver_21 : decode (i_b iX9_takeOver) 21 = .ok (.aload_n 0, 1) := by decide +kernel
theorem wX9_takeOver_21 {x : Nat} (kk : QW V iX9_takeOver 22 [some (.ref x), a1, a2, a3] (.ref x :: st) h z bc bs Kr Kx) : QW V iX9_takeOver 21 [some (.ref x), a1, a2, a3] (st) h z bc bs Kr Kx := q_aload_n dX9_takeOver_21 rfl rfl kk
theorem dX9_takeOver_22 : decode (i_b iX9_takeOver) 22 = .ok (.getfield 30, 3) := by decide +kernel
theorem wX9_takeOver_22 {o : Nat} {m : Nat → Int32} (ha : h o = some (.inr (10, q_MF o m))) (kk : QW V iX9_takeOver 25 [a0, a1, a2, a3] (.ref (o + 6) :: st) h z bc bs Kr Kx) : QW V iX9_takeOver 22 [a0, a1, a2, a3] (.ref o :: st) h z bc bs Kr Kx := q_getf (k := 24) dX9_takeOver_22 klX9 rfl (Nat.le_of_ble_eq_true rfl : 24 < 35) k5_237 rfl ha rfl kk
theorem wX9_takeOver_22u {o : Nat} {m : Nat → Int32} (kk : QW V iX9_takeOver 25 [a0, a1, a2, a3] (.ref (o + 6) :: st) (q_up h o (.inr (10, q_MF o m))) z bc bs Kr Kx) : QW V iX9_takeOver 22 [a0, a1, a2, a3] (.ref o :: st) (q_up h o (.inr (10, q_MF o m))) z bc bs Kr Kx := wX9_takeOver_22 q_up_s kk
theorem dX9_takeOver_25 : decode (i_b iX9_takeOver) 25 = .ok (.iconst 1, 1) := by decide +kernel
theorem wX9_takeOver_25  (kk : QW V iX9_takeOver 26 [a0, a1, a2, a3] (.int (1) :: st) h z bc bs Kr Kx) : QW V iX9_takeOver 25 [a0, a1, a2, a3] (st) h z bc bs Kr Kx := q_iconst dX9_takeOver_25 (by decide) kk
theorem dX9_takeOver_26 : decode (i_b iX9_takeOver) 26 = .ok (.iaload, 1) := by decide +kernel
theorem wX9_takeOver_26 {a n j : Nat} {f : Nat → Int32} {i : Int32} (ha : h a = some (.inl (1, n, .inl f))) (hi : i = nI j) (hj : j < n) (hn : n < 2147483648) (kk : QW V iX9_takeOver 27 [a0, a1, a2, a3] (.int (f j) :: st) h z bc bs Kr Kx) : QW V iX9_takeOver 26 [a0, a1, a2, a3] (.int i :: .ref a :: st) h z bc bs Kr Kx := q_iald dX9_takeOver_26 ha hi hj hn kk
theorem dX9_takeOver_27 : decode (i_b iX9_takeOver) 27 = .ok (.putfield 184, 3) := by decide +kernel
theorem wX9_takeOver_27 {o : Nat} {m : Nat → Int32} {x : Int32} (ha : h o = some (.inr (10, q_MF o m))) (kk : QW V iX9_takeOver 30 [a0, a1, a2, a3] (st) (q_up h o (.inr (10, q_MF o (upd m 9 x)))) z bc bs Kr Kx) : QW V iX9_takeOver 27 [a0, a1, a2, a3] (.int x :: .ref o :: st) h z bc bs Kr Kx := q_putf (k := 9) tyX9 dX9_takeOver_27 klX9 tyX9_ok nmX9 rfl (Nat.le_of_ble_eq_true rfl : 9 < 35) k5_222 rfl rfl rfl rfl (Nat.le_of_ble_eq_true rfl) ha (by rw [q_MF_9]; exact kk)
theorem wX9_takeOver_27u {o : Nat} {m : Nat → Int32} {x : Int32} (kk : QW V iX9_takeOver 30 [a0, a1, a2, a3] (st) (q_up h o (.inr (10, q_MF o (upd m 9 x)))) z bc bs Kr Kx) : QW V iX9_takeOver 27 [a0, a1, a2, a3] (.int x :: .ref o :: st) (q_up h o (.inr (10, q_MF o m))) z bc bs Kr Kx := wX9_takeOver_27 q_up_s (by rw [q_up_u]; exact kk)
theorem dX9_takeOver_30 : decode (i_b iX9_takeOver) 30 = .ok (.aload_n 0, 1) := by decide +kernel
theorem wX9_takeOver_30 {x : Nat} (kk : QW V iX9_takeOver 31 [some (.ref x), a1, a2, a3] (.ref x :: st) h z bc bs Kr Kx) : QW V iX9_takeOver 30 [some (.ref x), a1, a2, a3] (st) h z bc bs Kr Kx := q_aload_n dX9_takeOver_30 rfl rfl kk
theorem dX9_takeOver_31 : decode (i_b iX9_takeOver) 31 = .ok (.aload_n 0, 1) := by decide +kernel
theorem wX9_takeOver_31 {x : Nat} (kk : QW V iX9_takeOver 32 [some (.ref x), a1, a2, a3] (.ref x :: st) h z bc bs Kr Kx) : QW V iX9_takeOver 31 [some (.ref x), a1, a2, a3] (st) h z bc bs Kr Kx := q_aload_n dX9_takeOver_31 rfl rfl kk
theorem dX9_takeOver_32 : decode (i_b iX9_takeOver) 32 = .ok (.getfield 30, 3) := by decide +kernel
theorem wX9_takeOver_32 {o : Nat} {m : Nat → Int32} (ha : h o = some (.inr (10, q_MF o m))) (kk : QW V iX9_takeOver 35 [a0, a1, a2, a3] (.ref (o + 6) :: st) h z bc bs Kr Kx) : QW V iX9_takeOver 32 [a0, a1, a2, a3] (.ref o :: st) h z bc bs Kr Kx := q_getf (k := 24) dX9_takeOver_32 klX9 rfl (Nat.le_of_ble_eq_true rfl : 24 < 35) k5_237 rfl ha rfl kk
theorem wX9_takeOver_32u {o : Nat} {m : Nat → Int32} (kk : QW V iX9_takeOver 35 [a0, a1, a2, a3] (.ref (o + 6) :: st) (q_up h o (.inr (10, q_MF o m))) z bc bs Kr Kx) : QW V iX9_takeOver 32 [a0, a1, a2, a3] (.ref o :: st) (q_up h o (.inr (10, q_MF o m))) z bc bs Kr Kx := wX9_takeOver_32 q_up_s kk
theorem dX9_takeOver_35 : decode (i_b iX9_takeOver) 35 = .ok (.iconst 2, 1) := by decide +kernel
theorem wX9_takeOver_35  (kk : QW V iX9_takeOver 36 [a0, a1, a2, a3] (.int (2) :: st) h z bc bs Kr Kx) : QW V iX9_takeOver 35 [a0, a1, a2, a3] (st) h z bc bs Kr Kx := q_iconst dX9_takeOver_35 (by decide) kk
theorem dX9_takeOver_36 : decode (i_b iX9_takeOver) 36 = .ok (.iaload, 1) := by decide +kernel
theorem wX9_takeOver_36 {a n j : Nat} {f : Nat → Int32} {i : Int32} (ha : h a = some (.inl (1, n, .inl f))) (hi : i = nI j) (hj : j < n) (hn : n < 2147483648) (kk : QW V iX9_takeOver 37 [a0, a1, a2, a3] (.int (f j) :: st) h z bc bs Kr Kx) : QW V iX9_takeOver 36 [a0, a1, a2, a3] (.int i :: .ref a :: st) h z bc bs Kr Kx := q_iald dX9_takeOver_36 ha hi hj hn kk
theorem dX9_takeOver_37 : decode (i_b iX9_takeOver) 37 = .ok (.putfield 187, 3) := by decide +kernel
theorem wX9_takeOver_37 {o : Nat} {m : Nat → Int32} {x : Int32} (ha : h o = some (.inr (10, q_MF o m))) (kk : QW V iX9_takeOver 40 [a0, a1, a2, a3] (st) (q_up h o (.inr (10, q_MF o (upd m 10 x)))) z bc bs Kr Kx) : QW V iX9_takeOver 37 [a0, a1, a2, a3] (.int x :: .ref o :: st) h z bc bs Kr Kx := q_putf (k := 10) tyX9 dX9_takeOver_37 klX9 tyX9_ok nmX9 rfl (Nat.le_of_ble_eq_true rfl : 10 < 35) k5_223 rfl rfl rfl rfl (Nat.le_of_ble_eq_true rfl) ha (by rw [q_MF_10]; exact kk)
theorem wX9_takeOver_37u {o : Nat} {m : Nat → Int32} {x : Int32} (kk : QW V iX9_takeOver 40 [a0, a1, a2, a3] (st) (q_up h o (.inr (10, q_MF o (upd m 10 x)))) z bc bs Kr Kx) : QW V iX9_takeOver 37 [a0, a1, a2, a3] (.int x :: .ref o :: st) (q_up h o (.inr (10, q_MF o m))) z bc bs Kr Kx := wX9_takeOver_37 q_up_s (by rw [q_up_u]; exact kk)
theorem dX9_takeOver_40 : decode (i_b iX9_takeOver) 40 = .ok (.aload_n 0, 1) := by decide +kernel
theorem wX9_takeOver_40 {x : Nat} (kk : QW V iX9_takeOver 41 [some (.ref x), a1, a2, a3] (.ref x :: st) h z bc bs Kr Kx) : QW V iX9_takeOver 40 [some (.ref x), a1, a2, a3] (st) h z bc bs Kr Kx := q_aload_n dX9_takeOver_40 rfl rfl kk
theorem dX9_takeOver_41 : decode (i_b iX9_takeOver) 41 = .ok (.aload_n 0, 1) := by decide +kernel
theorem wX9_takeOver_41 {x : Nat} (kk : QW V iX9_takeOver 42 [some (.ref x), a1, a2, a3] (.ref x :: st) h z bc bs Kr Kx) : QW V iX9_takeOver 41 [some (.ref x), a1, a2, a3] (st) h z bc bs Kr Kx := q_aload_n dX9_takeOver_41 rfl rfl kk
theorem dX9_takeOver_42 : decode (i_b iX9_takeOver) 42 = .ok (.getfield 30, 3) := by decide +kernel
theorem wX9_takeOver_42 {o : Nat} {m : Nat → Int32} (ha : h o = some (.inr (10, q_MF o m))) (kk : QW V iX9_takeOver 45 [a0, a1, a2, a3] (.ref (o + 6) :: st) h z bc bs Kr Kx) : QW V iX9_takeOver 42 [a0, a1, a2, a3] (.ref o :: st) h z bc bs Kr Kx := q_getf (k := 24) dX9_takeOver_42 klX9 rfl (Nat.le_of_ble_eq_true rfl : 24 < 35) k5_237 rfl ha rfl kk
theorem wX9_takeOver_42u {o : Nat} {m : Nat → Int32} (kk : QW V iX9_takeOver 45 [a0, a1, a2, a3] (.ref (o + 6) :: st) (q_up h o (.inr (10, q_MF o m))) z bc bs Kr Kx) : QW V iX9_takeOver 42 [a0, a1, a2, a3] (.ref o :: st) (q_up h o (.inr (10, q_MF o m))) z bc bs Kr Kx := wX9_takeOver_42 q_up_s kk
theorem dX9_takeOver_45 : decode (i_b iX9_takeOver) 45 = .ok (.iconst 3, 1) := by decide +kernel
theorem wX9_takeOver_45  (kk : QW V iX9_takeOver 46 [a0, a1, a2, a3] (.int (3) :: st) h z bc bs Kr Kx) : QW V iX9_takeOver 45 [a0, a1, a2, a3] (st) h z bc bs Kr Kx := q_iconst dX9_takeOver_45 (by decide) kk
theorem dX9_takeOver_46 : decode (i_b iX9_takeOver) 46 = .ok (.iaload, 1) := by decide +kernel
theorem wX9_takeOver_46 {a n j : Nat} {f : Nat → Int32} {i : Int32} (ha : h a = some (.inl (1, n, .inl f))) (hi : i = nI j) (hj : j < n) (hn : n < 2147483648) (kk : QW V iX9_takeOver 47 [a0, a1, a2, a3] (.int (f j) :: st) h z bc bs Kr Kx) : QW V iX9_takeOver 46 [a0, a1, a2, a3] (.int i :: .ref a :: st) h z bc bs Kr Kx := q_iald dX9_takeOver_46 ha hi hj hn kk
theorem dX9_takeOver_47 : decode (i_b iX9_takeOver) 47 = .ok (.putfield 190, 3) := by decide +kernel
theorem wX9_takeOver_47 {o : Nat} {m : Nat → Int32} {x : Int32} (ha : h o = some (.inr (10, q_MF o m))) (kk : QW V iX9_takeOver 50 [a0, a1, a2, a3] (st) (q_up h o (.inr (10, q_MF o (upd m 11 x)))) z bc bs Kr Kx) : QW V iX9_takeOver 47 [a0, a1, a2, a3] (.int x :: .ref o :: st) h z bc bs Kr Kx := q_putf (k := 11) tyX9 dX9_takeOver_47 klX9 tyX9_ok nmX9 rfl (Nat.le_of_ble_eq_true rfl : 11 < 35) k5_224 rfl rfl rfl rfl (Nat.le_of_ble_eq_true rfl) ha (by rw [q_MF_11]; exact kk)
theorem wX9_takeOver_47u {o : Nat} {m : Nat → Int32} {x : Int32} (kk : QW V iX9_takeOver 50 [a0, a1, a2, a3] (st) (q_up h o (.inr (10, q_MF o (upd m 11 x)))) z bc bs Kr Kx) : QW V iX9_takeOver 47 [a0, a1, a2, a3] (.int x :: .ref o :: st) (q_up h o (.inr (10, q_MF o m))) z bc bs Kr Kx := wX9_takeOver_47 q_up_s (by rw [q_up_u]; exact kk)
theorem dX9_takeOver_50 : decode (i_b iX9_takeOver) 50 = .ok (.aload_n 0, 1) := by decide +kernel
theorem wX9_takeOver_50 {x : Nat} (kk : QW V iX9_takeOver 51 [some (.ref x), a1, a2, a3] (.ref x :: st) h z bc bs Kr Kx) : QW V iX9_takeOver 50 [some (.ref x), a1, a2, a3] (st) h z bc bs Kr Kx := q_aload_n dX9_takeOver_50 rfl rfl kk
theorem dX9_takeOver_51 : decode (i_b iX9_takeOver) 51 = .ok (.aload_n 0, 1) := by decide +kernel
theorem wX9_takeOver_51 {x : Nat} (kk : QW V iX9_takeOver 52 [some (.ref x), a1, a2, a3] (.ref x :: st) h z bc bs Kr Kx) : QW V iX9_takeOver 51 [some (.ref x), a1, a2, a3] (st) h z bc bs Kr Kx := q_aload_n dX9_takeOver_51 rfl rfl kk
theorem dX9_takeOver_52 : decode (i_b iX9_takeOver) 52 = .ok (.getfield 30, 3) := by decide +kernel
theorem wX9_takeOver_52 {o : Nat} {m : Nat → Int32} (ha : h o = some (.inr (10, q_MF o m))) (kk : QW V iX9_takeOver 55 [a0, a1, a2, a3] (.ref (o + 6) :: st) h z bc bs Kr Kx) : QW V iX9_takeOver 52 [a0, a1, a2, a3] (.ref o :: st) h z bc bs Kr Kx := q_getf (k := 24) dX9_takeOver_52 klX9 rfl (Nat.le_of_ble_eq_true rfl : 24 < 35) k5_237 rfl ha rfl kk
theorem wX9_takeOver_52u {o : Nat} {m : Nat → Int32} (kk : QW V iX9_takeOver 55 [a0, a1, a2, a3] (.ref (o + 6) :: st) (q_up h o (.inr (10, q_MF o m))) z bc bs Kr Kx) : QW V iX9_takeOver 52 [a0, a1, a2, a3] (.ref o :: st) (q_up h o (.inr (10, q_MF o m))) z bc bs Kr Kx := wX9_takeOver_52 q_up_s kk
theorem dX9_takeOver_55 : decode (i_b iX9_takeOver) 55 = .ok (.iconst 4, 1) := by decide +kernel
theorem wX9_takeOver_55  (kk : QW V iX9_takeOver 56 [a0, a1, a2, a3] (.int (4) :: st) h z bc bs Kr Kx) : QW V iX9_takeOver 55 [a0, a1, a2, a3] (st) h z bc bs Kr Kx := q_iconst dX9_takeOver_55 (by decide) kk
theorem dX9_takeOver_56 : decode (i_b iX9_takeOver) 56 = .ok (.iaload, 1) := by decide +kernel
theorem wX9_takeOver_56 {a n j : Nat} {f : Nat → Int32} {i : Int32} (ha : h a = some (.inl (1, n, .inl f))) (hi : i = nI j) (hj : j < n) (hn : n < 2147483648) (kk : QW V iX9_takeOver 57 [a0, a1, a2, a3] (.int (f j) :: st) h z bc bs Kr Kx) : QW V iX9_takeOver 56 [a0, a1, a2, a3] (.int i :: .ref a :: st) h z bc bs Kr Kx := q_iald dX9_takeOver_56 ha hi hj hn kk
theorem dX9_takeOver_57 : decode (i_b iX9_takeOver) 57 = .ok (.putfield 193, 3) := by decide +kernel
theorem wX9_takeOver_57 {o : Nat} {m : Nat → Int32} {x : Int32} (ha : h o = some (.inr (10, q_MF o m))) (kk : QW V iX9_takeOver 60 [a0, a1, a2, a3] (st) (q_up h o (.inr (10, q_MF o (upd m 12 x)))) z bc bs Kr Kx) : QW V iX9_takeOver 57 [a0, a1, a2, a3] (.int x :: .ref o :: st) h z bc bs Kr Kx := q_putf (k := 12) tyX9 dX9_takeOver_57 klX9 tyX9_ok nmX9 rfl (Nat.le_of_ble_eq_true rfl : 12 < 35) k5_225 rfl rfl rfl rfl (Nat.le_of_ble_eq_true rfl) ha (by rw [q_MF_12]; exact kk)
theorem wX9_takeOver_57u {o : Nat} {m : Nat → Int32} {x : Int32} (kk : QW V iX9_takeOver 60 [a0, a1, a2, a3] (st) (q_up h o (.inr (10, q_MF o (upd m 12 x)))) z bc bs Kr Kx) : QW V iX9_takeOver 57 [a0, a1, a2, a3] (.int x :: .ref o :: st) (q_up h o (.inr (10, q_MF o m))) z bc bs Kr Kx := wX9_takeOver_57 q_up_s (by rw [q_up_u]; exact kk)
theorem dX9_takeOver_60 : decode (i_b iX9_takeOver) 60 = .ok (.aload_n 0, 1) := by decide +kernel
theorem wX9_takeOver_60 {x : Nat} (kk : QW V iX9_takeOver 61 [some (.ref x), a1, a2, a3] (.ref x :: st) h z bc bs Kr Kx) : QW V iX9_takeOver 60 [some (.ref x), a1, a2, a3] (st) h z bc bs Kr Kx := q_aload_n dX9_takeOver_60 rfl rfl kk
theorem dX9_takeOver_61 : decode (i_b iX9_takeOver) 61 = .ok (.aload_n 0, 1) := by decide +kernel
theorem wX9_takeOver_61 {x : Nat} (kk : QW V iX9_takeOver 62 [some (.ref x), a1, a2, a3] (.ref x :: st) h z bc bs Kr Kx) : QW V iX9_takeOver 61 [some (.ref x), a1, a2, a3] (st) h z bc bs Kr Kx := q_aload_n dX9_takeOver_61 rfl rfl kk
theorem dX9_takeOver_62 : decode (i_b iX9_takeOver) 62 = .ok (.getfield 30, 3) := by decide +kernel
theorem wX9_takeOver_62 {o : Nat} {m : Nat → Int32} (ha : h o = some (.inr (10, q_MF o m))) (kk : QW V iX9_takeOver 65 [a0, a1, a2, a3] (.ref (o + 6) :: st) h z bc bs Kr Kx) : QW V iX9_takeOver 62 [a0, a1, a2, a3] (.ref o :: st) h z bc bs Kr Kx := q_getf (k := 24) dX9_takeOver_62 klX9 rfl (Nat.le_of_ble_eq_true rfl : 24 < 35) k5_237 rfl ha rfl kk
theorem wX9_takeOver_62u {o : Nat} {m : Nat → Int32} (kk : QW V iX9_takeOver 65 [a0, a1, a2, a3] (.ref (o + 6) :: st) (q_up h o (.inr (10, q_MF o m))) z bc bs Kr Kx) : QW V iX9_takeOver 62 [a0, a1, a2, a3] (.ref o :: st) (q_up h o (.inr (10, q_MF o m))) z bc bs Kr Kx := wX9_takeOver_62 q_up_s kk
theorem dX9_takeOver_65 : decode (i_b iX9_takeOver) 65 = .ok (.iconst 5, 1) := by decide +kernel
theorem wX9_takeOver_65  (kk : QW V iX9_takeOver 66 [a0, a1, a2, a3] (.int (5) :: st) h z bc bs Kr Kx) : QW V iX9_takeOver 65 [a0, a1, a2, a3] (st) h z bc bs Kr Kx := q_iconst dX9_takeOver_65 (by decide) kk
theorem dX9_takeOver_66 : decode (i_b iX9_takeOver) 66 = .ok (.iaload, 1) := by decide +kernel
theorem wX9_takeOver_66 {a n j : Nat} {f : Nat → Int32} {i : Int32} (ha : h a = some (.inl (1, n, .inl f))) (hi : i = nI j) (hj : j < n) (hn : n < 2147483648) (kk : QW V iX9_takeOver 67 [a0, a1, a2, a3] (.int (f j) :: st) h z bc bs Kr Kx) : QW V iX9_takeOver 66 [a0, a1, a2, a3] (.int i :: .ref a :: st) h z bc bs Kr Kx := q_iald dX9_takeOver_66 ha hi hj hn kk
theorem dX9_takeOver_67 : decode (i_b iX9_takeOver) 67 = .ok (.putfield 196, 3) := by decide +kernel
theorem wX9_takeOver_67 {o : Nat} {m : Nat → Int32} {x : Int32} (ha : h o = some (.inr (10, q_MF o m))) (kk : QW V iX9_takeOver 70 [a0, a1, a2, a3] (st) (q_up h o (.inr (10, q_MF o (upd m 5 x)))) z bc bs Kr Kx) : QW V iX9_takeOver 67 [a0, a1, a2, a3] (.int x :: .ref o :: st) h z bc bs Kr Kx := q_putf (k := 5) tyX9 dX9_takeOver_67 klX9 tyX9_ok nmX9 rfl (Nat.le_of_ble_eq_true rfl : 5 < 35) k5_218 rfl rfl rfl rfl (Nat.le_of_ble_eq_true rfl) ha (by rw [q_MF_5]; exact kk)
theorem wX9_takeOver_67u {o : Nat} {m : Nat → Int32} {x : Int32} (kk : QW V iX9_takeOver 70 [a0, a1, a2, a3] (st) (q_up h o (.inr (10, q_MF o (upd m 5 x)))) z bc bs Kr Kx) : QW V iX9_takeOver 67 [a0, a1, a2, a3] (.int x :: .ref o :: st) (q_up h o (.inr (10, q_MF o m))) z bc bs Kr Kx := wX9_takeOver_67 q_up_s (by rw [q_up_u]; exact kk)
theorem dX9_takeOver_70 : decode (i_b iX9_takeOver) 70 = .ok (.aload_n 0, 1) := by decide +kernel
theorem wX9_takeOver_70 {x : Nat} (kk : QW V iX9_takeOver 71 [some (.ref x), a1, a2, a3] (.ref x :: st) h z bc bs Kr Kx) : QW V iX9_takeOver 70 [some (.ref x), a1, a2, a3] (st) h z bc bs Kr Kx := q_aload_n dX9_takeOver_70 rfl rfl kk
theorem dX9_takeOver_71 : decode (i_b iX9_takeOver) 71 = .ok (.aload_n 0, 1) := by decide +kernel
theorem wX9_takeOver_71 {x : Nat} (kk : QW V iX9_takeOver 72 [some (.ref x), a1, a2, a3] (.ref x :: st) h z bc bs Kr Kx) : QW V iX9_takeOver 71 [some (.ref x), a1, a2, a3] (st) h z bc bs Kr Kx := q_aload_n dX9_takeOver_71 rfl rfl kk
theorem dX9_takeOver_72 : decode (i_b iX9_takeOver) 72 = .ok (.getfield 30, 3) := by decide +kernel
theorem wX9_takeOver_72 {o : Nat} {m : Nat → Int32} (ha : h o = some (.inr (10, q_MF o m))) (kk : QW V iX9_takeOver 75 [a0, a1, a2, a3] (.ref (o + 6) :: st) h z bc bs Kr Kx) : QW V iX9_takeOver 72 [a0, a1, a2, a3] (.ref o :: st) h z bc bs Kr Kx := q_getf (k := 24) dX9_takeOver_72 klX9 rfl (Nat.le_of_ble_eq_true rfl : 24 < 35) k5_237 rfl ha rfl kk
theorem wX9_takeOver_72u {o : Nat} {m : Nat → Int32} (kk : QW V iX9_takeOver 75 [a0, a1, a2, a3] (.ref (o + 6) :: st) (q_up h o (.inr (10, q_MF o m))) z bc bs Kr Kx) : QW V iX9_takeOver 72 [a0, a1, a2, a3] (.ref o :: st) (q_up h o (.inr (10, q_MF o m))) z bc bs Kr Kx := wX9_takeOver_72 q_up_s kk
theorem dX9_takeOver_75 : decode (i_b iX9_takeOver) 75 = .ok (.bipush 6, 2) := by decide +kernel
theorem wX9_takeOver_75  (kk : QW V iX9_takeOver 77 [a0, a1, a2, a3] (.int (6) :: st) h z bc bs Kr Kx) : QW V iX9_takeOver 75 [a0, a1, a2, a3] (st) h z bc bs Kr Kx := q_bipush dX9_takeOver_75 (by decide) kk
theorem dX9_takeOver_77 : decode (i_b iX9_takeOver) 77 = .ok (.iaload, 1) := by decide +kernel
theorem wX9_takeOver_77 {a n j : Nat} {f : Nat → Int32} {i : Int32} (ha : h a = some (.inl (1, n, .inl f))) (hi : i = nI j) (hj : j < n) (hn : n < 2147483648) (kk : QW V iX9_takeOver 78 [a0, a1, a2, a3] (.int (f j) :: st) h z bc bs Kr Kx) : QW V iX9_takeOver 77 [a0, a1, a2, a3] (.int i :: .ref a :: st) h z bc bs Kr Kx := q_iald dX9_takeOver_77 ha hi hj hn kk
theorem dX9_takeOver_78 : decode (i_b iX9_takeOver) 78 = .ok (.putfield 198, 3) := by decide +kernel
theorem wX9_takeOver_78 {o : Nat} {m : Nat → Int32} {x : Int32} (ha : h o = some (.inr (10, q_MF o m))) (kk : QW V iX9_takeOver 81 [a0, a1, a2, a3] (st) (q_up h o (.inr (10, q_MF o (upd m 6 x)))) z bc bs Kr Kx) : QW V iX9_takeOver 78 [a0, a1, a2, a3] (.int x :: .ref o :: st) h z bc bs Kr Kx := q_putf (k := 6) tyX9 dX9_takeOver_78 klX9 tyX9_ok nmX9 rfl (Nat.le_of_ble_eq_true rfl : 6 < 35) k5_219 rfl rfl rfl rfl (Nat.le_of_ble_eq_true rfl) ha (by rw [q_MF_6]; exact kk)
theorem wX9_takeOver_78u {o : Nat} {m : Nat → Int32} {x : Int32} (kk : QW V iX9_takeOver 81 [a0, a1, a2, a3] (st) (q_up h o (.inr (10, q_MF o (upd m 6 x)))) z bc bs Kr Kx) : QW V iX9_takeOver 78 [a0, a1, a2, a3] (.int x :: .ref o :: st) (q_up h o (.inr (10, q_MF o m))) z bc bs Kr Kx := wX9_takeOver_78 q_up_s (by rw [q_up_u]; exact kk)
theorem dX9_takeOver_81 : decode (i_b iX9_takeOver) 81 = .ok (.aload_n 0, 1) := by decide +kernel
theorem wX9_takeOver_81 {x : Nat} (kk : QW V iX9_takeOver 82 [some (.ref x), a1, a2, a3] (.ref x :: st) h z bc bs Kr Kx) : QW V iX9_takeOver 81 [some (.ref x), a1, a2, a3] (st) h z bc bs Kr Kx := q_aload_n dX9_takeOver_81 rfl rfl kk
theorem dX9_takeOver_82 : decode (i_b iX9_takeOver) 82 = .ok (.aload_n 0, 1) := by decide +kernel
theorem wX9_takeOver_82 {x : Nat} (kk : QW V iX9_takeOver 83 [some (.ref x), a1, a2, a3] (.ref x :: st) h z bc bs Kr Kx) : QW V iX9_takeOver 82 [some (.ref x), a1, a2, a3] (st) h z bc bs Kr Kx := q_aload_n dX9_takeOver_82 rfl rfl kk
theorem dX9_takeOver_83 : decode (i_b iX9_takeOver) 83 = .ok (.getfield 145, 3) := by decide +kernel
theorem wX9_takeOver_83 {o : Nat} {m : Nat → Int32} (ha : h o = some (.inr (10, q_MF o m))) (kk : QW V iX9_takeOver 86 [a0, a1, a2, a3] (.int (m 26) :: st) h z bc bs Kr Kx) : QW V iX9_takeOver 83 [a0, a1, a2, a3] (.ref o :: st) h z bc bs Kr Kx := q_getf (k := 26) dX9_takeOver_83 klX9 rfl (Nat.le_of_ble_eq_true rfl : 26 < 35) k5_239 rfl ha rfl kk
theorem wX9_takeOver_83u {o : Nat} {m : Nat → Int32} (kk : QW V iX9_takeOver 86 [a0, a1, a2, a3] (.int (m 26) :: st) (q_up h o (.inr (10, q_MF o m))) z bc bs Kr Kx) : QW V iX9_takeOver 83 [a0, a1, a2, a3] (.ref o :: st) (q_up h o (.inr (10, q_MF o m))) z bc bs Kr Kx := wX9_takeOver_83 q_up_s kk
theorem dX9_takeOver_86 : decode (i_b iX9_takeOver) 86 = .ok (.putfield 200, 3) := by decide +kernel
theorem wX9_takeOver_86 {o : Nat} {m : Nat → Int32} {x : Int32} (ha : h o = some (.inr (10, q_MF o m))) (kk : QW V iX9_takeOver 89 [a0, a1, a2, a3] (st) (q_up h o (.inr (10, q_MF o (upd m 7 x)))) z bc bs Kr Kx) : QW V iX9_takeOver 86 [a0, a1, a2, a3] (.int x :: .ref o :: st) h z bc bs Kr Kx := q_putf (k := 7) tyX9 dX9_takeOver_86 klX9 tyX9_ok nmX9 rfl (Nat.le_of_ble_eq_true rfl : 7 < 35) k5_220 rfl rfl rfl rfl (Nat.le_of_ble_eq_true rfl) ha (by rw [q_MF_7]; exact kk)
theorem wX9_takeOver_86u {o : Nat} {m : Nat → Int32} {x : Int32} (kk : QW V iX9_takeOver 89 [a0, a1, a2, a3] (st) (q_up h o (.inr (10, q_MF o (upd m 7 x)))) z bc bs Kr Kx) : QW V iX9_takeOver 86 [a0, a1, a2, a3] (.int x :: .ref o :: st) (q_up h o (.inr (10, q_MF o m))) z bc bs Kr Kx := wX9_takeOver_86 q_up_s (by rw [q_up_u]; exact kk)
theorem dX9_takeOver_89 : decode (i_b iX9_takeOver) 89 = .ok (.iconst 0, 1) := by decide +kernel
theorem wX9_takeOver_89  (kk : QW V iX9_takeOver 90 [a0, a1, a2, a3] (.int (0) :: st) h z bc bs Kr Kx) : QW V iX9_takeOver 89 [a0, a1, a2, a3] (st) h z bc bs Kr Kx := q_iconst dX9_takeOver_89 (by decide) kk
theorem dX9_takeOver_90 : decode (i_b iX9_takeOver) 90 = .ok (.istore_n 1, 1) := by decide +kernel
theorem wX9_takeOver_90 {x : Int32} (kk : QW V iX9_takeOver 91 [a0, some (.int x), a2, a3] (st) h z bc bs Kr Kx) (hp : q_n2 a0 = true := by rfl) : QW V iX9_takeOver 90 [a0, a1, a2, a3] (.int x :: st) h z bc bs Kr Kx := q_istore_n dX9_takeOver_90 rfl (Nat.le_of_ble_eq_true rfl) hp kk
theorem dX9_takeOver_91 : decode (i_b iX9_takeOver) 91 = .ok (.iload_n 1, 1) := by decide +kernel
theorem wX9_takeOver_91 {x : Int32} (kk : QW V iX9_takeOver 92 [a0, some (.int x), a2, a3] (.int x :: st) h z bc bs Kr Kx) : QW V iX9_takeOver 91 [a0, some (.int x), a2, a3] (st) h z bc bs Kr Kx := q_iload_n dX9_takeOver_91 rfl rfl kk
theorem dX9_takeOver_92 : decode (i_b iX9_takeOver) 92 = .ok (.aload_n 0, 1) := by decide +kernel
theorem wX9_takeOver_92 {x : Nat} (kk : QW V iX9_takeOver 93 [some (.ref x), a1, a2, a3] (.ref x :: st) h z bc bs Kr Kx) : QW V iX9_takeOver 92 [some (.ref x), a1, a2, a3] (st) h z bc bs Kr Kx := q_aload_n dX9_takeOver_92 rfl rfl kk
theorem dX9_takeOver_93 : decode (i_b iX9_takeOver) 93 = .ok (.getfield 200, 3) := by decide +kernel
theorem wX9_takeOver_93 {o : Nat} {m : Nat → Int32} (ha : h o = some (.inr (10, q_MF o m))) (kk : QW V iX9_takeOver 96 [a0, a1, a2, a3] (.int (m 7) :: st) h z bc bs Kr Kx) : QW V iX9_takeOver 93 [a0, a1, a2, a3] (.ref o :: st) h z bc bs Kr Kx := q_getf (k := 7) dX9_takeOver_93 klX9 rfl (Nat.le_of_ble_eq_true rfl : 7 < 35) k5_220 rfl ha rfl kk
theorem wX9_takeOver_93u {o : Nat} {m : Nat → Int32} (kk : QW V iX9_takeOver 96 [a0, a1, a2, a3] (.int (m 7) :: st) (q_up h o (.inr (10, q_MF o m))) z bc bs Kr Kx) : QW V iX9_takeOver 93 [a0, a1, a2, a3] (.ref o :: st) (q_up h o (.inr (10, q_MF o m))) z bc bs Kr Kx := wX9_takeOver_93 q_up_s kk
theorem dX9_takeOver_96 : decode (i_b iX9_takeOver) 96 = .ok (.if_icmp .ge 39, 3) := by decide +kernel
theorem wX9_takeOver_96 {x y : Int32} (kt : y ≤ x → QW V iX9_takeOver 135 [a0, a1, a2, a3] (st) h z bc bs Kr Kx) (kf : ¬ y ≤ x → QW V iX9_takeOver 99 [a0, a1, a2, a3] (st) h z bc bs Kr Kx) : QW V iX9_takeOver 96 [a0, a1, a2, a3] (.int y :: .int x :: st) h z bc bs Kr Kx := q_icmp_ge dX9_takeOver_96 (by decide) kt kf
theorem dX9_takeOver_99 : decode (i_b iX9_takeOver) 99 = .ok (.aload_n 0, 1) := by decide +kernel
theorem wX9_takeOver_99 {x : Nat} (kk : QW V iX9_takeOver 100 [some (.ref x), a1, a2, a3] (.ref x :: st) h z bc bs Kr Kx) : QW V iX9_takeOver 99 [some (.ref x), a1, a2, a3] (st) h z bc bs Kr Kx := q_aload_n dX9_takeOver_99 rfl rfl kk
theorem dX9_takeOver_100 : decode (i_b iX9_takeOver) 100 = .ok (.getfield 16, 3) := by decide +kernel
theorem wX9_takeOver_100 {o : Nat} {m : Nat → Int32} (ha : h o = some (.inr (10, q_MF o m))) (kk : QW V iX9_takeOver 103 [a0, a1, a2, a3] (.ref (o + 3) :: st) h z bc bs Kr Kx) : QW V iX9_takeOver 100 [a0, a1, a2, a3] (.ref o :: st) h z bc bs Kr Kx := q_getf (k := 13) dX9_takeOver_100 klX9 rfl (Nat.le_of_ble_eq_true rfl : 13 < 35) k5_226 rfl ha rfl kk
theorem wX9_takeOver_100u {o : Nat} {m : Nat → Int32} (kk : QW V iX9_takeOver 103 [a0, a1, a2, a3] (.ref (o + 3) :: st) (q_up h o (.inr (10, q_MF o m))) z bc bs Kr Kx) : QW V iX9_takeOver 100 [a0, a1, a2, a3] (.ref o :: st) (q_up h o (.inr (10, q_MF o m))) z bc bs Kr Kx := wX9_takeOver_100 q_up_s kk
theorem dX9_takeOver_103 : decode (i_b iX9_takeOver) 103 = .ok (.iload_n 1, 1) := by decide +kernel
theorem wX9_takeOver_103 {x : Int32} (kk : QW V iX9_takeOver 104 [a0, some (.int x), a2, a3] (.int x :: st) h z bc bs Kr Kx) : QW V iX9_takeOver 103 [a0, some (.int x), a2, a3] (st) h z bc bs Kr Kx := q_iload_n dX9_takeOver_103 rfl rfl kk
theorem dX9_takeOver_104 : decode (i_b iX9_takeOver) 104 = .ok (.aload_n 0, 1) := by decide +kernel
theorem wX9_takeOver_104 {x : Nat} (kk : QW V iX9_takeOver 105 [some (.ref x), a1, a2, a3] (.ref x :: st) h z bc bs Kr Kx) : QW V iX9_takeOver 104 [some (.ref x), a1, a2, a3] (st) h z bc bs Kr Kx := q_aload_n dX9_takeOver_104 rfl rfl kk
theorem dX9_takeOver_105 : decode (i_b iX9_takeOver) 105 = .ok (.getfield 33, 3) := by decide +kernel
theorem wX9_takeOver_105 {o : Nat} {m : Nat → Int32} (ha : h o = some (.inr (10, q_MF o m))) (kk : QW V iX9_takeOver 108 [a0, a1, a2, a3] (.ref (o + 7) :: st) h z bc bs Kr Kx) : QW V iX9_takeOver 105 [a0, a1, a2, a3] (.ref o :: st) h z bc bs Kr Kx := q_getf (k := 25) dX9_takeOver_105 klX9 rfl (Nat.le_of_ble_eq_true rfl : 25 < 35) k5_238 rfl ha rfl kk
theorem wX9_takeOver_105u {o : Nat} {m : Nat → Int32} (kk : QW V iX9_takeOver 108 [a0, a1, a2, a3] (.ref (o + 7) :: st) (q_up h o (.inr (10, q_MF o m))) z bc bs Kr Kx) : QW V iX9_takeOver 105 [a0, a1, a2, a3] (.ref o :: st) (q_up h o (.inr (10, q_MF o m))) z bc bs Kr Kx := wX9_takeOver_105 q_up_s kk
theorem dX9_takeOver_108 : decode (i_b iX9_takeOver) 108 = .ok (.iconst 2, 1) := by decide +kernel
theorem wX9_takeOver_108  (kk : QW V iX9_takeOver 109 [a0, a1, a2, a3] (.int (2) :: st) h z bc bs Kr Kx) : QW V iX9_takeOver 108 [a0, a1, a2, a3] (st) h z bc bs Kr Kx := q_iconst dX9_takeOver_108 (by decide) kk
theorem dX9_takeOver_109 : decode (i_b iX9_takeOver) 109 = .ok (.iload_n 1, 1) := by decide +kernel
theorem wX9_takeOver_109 {x : Int32} (kk : QW V iX9_takeOver 110 [a0, some (.int x), a2, a3] (.int x :: st) h z bc bs Kr Kx) : QW V iX9_takeOver 109 [a0, some (.int x), a2, a3] (st) h z bc bs Kr Kx := q_iload_n dX9_takeOver_109 rfl rfl kk
theorem dX9_takeOver_110 : decode (i_b iX9_takeOver) 110 = .ok (.imul, 1) := by decide +kernel
theorem wX9_takeOver_110 {x y : Int32} (kk : QW V iX9_takeOver 111 [a0, a1, a2, a3] (.int (x * y) :: st) h z bc bs Kr Kx) : QW V iX9_takeOver 110 [a0, a1, a2, a3] (.int y :: .int x :: st) h z bc bs Kr Kx := q_imul dX9_takeOver_110 kk
theorem dX9_takeOver_111 : decode (i_b iX9_takeOver) 111 = .ok (.iaload, 1) := by decide +kernel
theorem wX9_takeOver_111 {a n j : Nat} {f : Nat → Int32} {i : Int32} (ha : h a = some (.inl (1, n, .inl f))) (hi : i = nI j) (hj : j < n) (hn : n < 2147483648) (kk : QW V iX9_takeOver 112 [a0, a1, a2, a3] (.int (f j) :: st) h z bc bs Kr Kx) : QW V iX9_takeOver 111 [a0, a1, a2, a3] (.int i :: .ref a :: st) h z bc bs Kr Kx := q_iald dX9_takeOver_111 ha hi hj hn kk
theorem dX9_takeOver_112 : decode (i_b iX9_takeOver) 112 = .ok (.iastore, 1) := by decide +kernel
theorem wX9_takeOver_112 {a n j : Nat} {f : Nat → Int32} {i : Int32} {x : Int32} (ha : h a = some (.inl (1, n, .inl f))) (hi : i = nI j) (hj : j < n) (hn : n < 2147483648) (kk : QW V iX9_takeOver 113 [a0, a1, a2, a3] (st) (q_up h a (.inl (1, n, .inl (upd f j x)))) z bc bs Kr Kx) : QW V iX9_takeOver 112 [a0, a1, a2, a3] (.int x :: .int i :: .ref a :: st) h z bc bs Kr Kx := q_iast dX9_takeOver_112 ha hi hj hn kk
theorem wX9_takeOver_112u {a n j : Nat} {f : Nat → Int32} {i : Int32} {x : Int32} (hi : i = nI j) (hj : j < n) (hn : n < 2147483648) (kk : QW V iX9_takeOver 113 [a0, a1, a2, a3] (st) (q_up h a (.inl (1, n, .inl (upd f j x)))) z bc bs Kr Kx) : QW V iX9_takeOver 112 [a0, a1, a2, a3] (.int x :: .int i :: .ref a :: st) (q_up h a (.inl (1, n, .inl f))) z bc bs Kr Kx := wX9_takeOver_112 q_up_s hi hj hn (by rw [q_up_u]; exact kk)
theorem dX9_takeOver_113 : decode (i_b iX9_takeOver) 113 = .ok (.aload_n 0, 1) := by decide +kernel
theorem wX9_takeOver_113 {x : Nat} (kk : QW V iX9_takeOver 114 [some (.ref x), a1, a2, a3] (.ref x :: st) h z bc bs Kr Kx) : QW V iX9_takeOver 113 [some (.ref x), a1, a2, a3] (st) h z bc bs Kr Kx := q_aload_n dX9_takeOver_113 rfl rfl kk
theorem dX9_takeOver_114 : decode (i_b iX9_takeOver) 114 = .ok (.getfield 20, 3) := by decide +kernel
theorem wX9_takeOver_114 {o : Nat} {m : Nat → Int32} (ha : h o = some (.inr (10, q_MF o m))) (kk : QW V iX9_takeOver 117 [a0, a1, a2, a3] (.ref (o + 4) :: st) h z bc bs Kr Kx) : QW V iX9_takeOver 114 [a0, a1, a2, a3] (.ref o :: st) h z bc bs Kr Kx := q_getf (k := 14) dX9_takeOver_114 klX9 rfl (Nat.le_of_ble_eq_true rfl : 14 < 35) k5_227 rfl ha rfl kk
theorem wX9_takeOver_114u {o : Nat} {m : Nat → Int32} (kk : QW V iX9_takeOver 117 [a0, a1, a2, a3] (.ref (o + 4) :: st) (q_up h o (.inr (10, q_MF o m))) z bc bs Kr Kx) : QW V iX9_takeOver 114 [a0, a1, a2, a3] (.ref o :: st) (q_up h o (.inr (10, q_MF o m))) z bc bs Kr Kx := wX9_takeOver_114 q_up_s kk
theorem dX9_takeOver_117 : decode (i_b iX9_takeOver) 117 = .ok (.iload_n 1, 1) := by decide +kernel
theorem wX9_takeOver_117 {x : Int32} (kk : QW V iX9_takeOver 118 [a0, some (.int x), a2, a3] (.int x :: st) h z bc bs Kr Kx) : QW V iX9_takeOver 117 [a0, some (.int x), a2, a3] (st) h z bc bs Kr Kx := q_iload_n dX9_takeOver_117 rfl rfl kk
theorem dX9_takeOver_118 : decode (i_b iX9_takeOver) 118 = .ok (.aload_n 0, 1) := by decide +kernel
theorem wX9_takeOver_118 {x : Nat} (kk : QW V iX9_takeOver 119 [some (.ref x), a1, a2, a3] (.ref x :: st) h z bc bs Kr Kx) : QW V iX9_takeOver 118 [some (.ref x), a1, a2, a3] (st) h z bc bs Kr Kx := q_aload_n dX9_takeOver_118 rfl rfl kk
theorem dX9_takeOver_119 : decode (i_b iX9_takeOver) 119 = .ok (.getfield 33, 3) := by decide +kernel
theorem wX9_takeOver_119 {o : Nat} {m : Nat → Int32} (ha : h o = some (.inr (10, q_MF o m))) (kk : QW V iX9_takeOver 122 [a0, a1, a2, a3] (.ref (o + 7) :: st) h z bc bs Kr Kx) : QW V iX9_takeOver 119 [a0, a1, a2, a3] (.ref o :: st) h z bc bs Kr Kx := q_getf (k := 25) dX9_takeOver_119 klX9 rfl (Nat.le_of_ble_eq_true rfl : 25 < 35) k5_238 rfl ha rfl kk
theorem wX9_takeOver_119u {o : Nat} {m : Nat → Int32} (kk : QW V iX9_takeOver 122 [a0, a1, a2, a3] (.ref (o + 7) :: st) (q_up h o (.inr (10, q_MF o m))) z bc bs Kr Kx) : QW V iX9_takeOver 119 [a0, a1, a2, a3] (.ref o :: st) (q_up h o (.inr (10, q_MF o m))) z bc bs Kr Kx := wX9_takeOver_119 q_up_s kk
theorem dX9_takeOver_122 : decode (i_b iX9_takeOver) 122 = .ok (.iconst 2, 1) := by decide +kernel
theorem wX9_takeOver_122  (kk : QW V iX9_takeOver 123 [a0, a1, a2, a3] (.int (2) :: st) h z bc bs Kr Kx) : QW V iX9_takeOver 122 [a0, a1, a2, a3] (st) h z bc bs Kr Kx := q_iconst dX9_takeOver_122 (by decide) kk
theorem dX9_takeOver_123 : decode (i_b iX9_takeOver) 123 = .ok (.iload_n 1, 1) := by decide +kernel
theorem wX9_takeOver_123 {x : Int32} (kk : QW V iX9_takeOver 124 [a0, some (.int x), a2, a3] (.int x :: st) h z bc bs Kr Kx) : QW V iX9_takeOver 123 [a0, some (.int x), a2, a3] (st) h z bc bs Kr Kx := q_iload_n dX9_takeOver_123 rfl rfl kk
theorem dX9_takeOver_124 : decode (i_b iX9_takeOver) 124 = .ok (.imul, 1) := by decide +kernel
theorem wX9_takeOver_124 {x y : Int32} (kk : QW V iX9_takeOver 125 [a0, a1, a2, a3] (.int (x * y) :: st) h z bc bs Kr Kx) : QW V iX9_takeOver 124 [a0, a1, a2, a3] (.int y :: .int x :: st) h z bc bs Kr Kx := q_imul dX9_takeOver_124 kk
theorem dX9_takeOver_125 : decode (i_b iX9_takeOver) 125 = .ok (.iconst 1, 1) := by decide +kernel
theorem wX9_takeOver_125  (kk : QW V iX9_takeOver 126 [a0, a1, a2, a3] (.int (1) :: st) h z bc bs Kr Kx) : QW V iX9_takeOver 125 [a0, a1, a2, a3] (st) h z bc bs Kr Kx := q_iconst dX9_takeOver_125 (by decide) kk
theorem dX9_takeOver_126 : decode (i_b iX9_takeOver) 126 = .ok (.iadd, 1) := by decide +kernel
theorem wX9_takeOver_126 {x y : Int32} (kk : QW V iX9_takeOver 127 [a0, a1, a2, a3] (.int (x + y) :: st) h z bc bs Kr Kx) : QW V iX9_takeOver 126 [a0, a1, a2, a3] (.int y :: .int x :: st) h z bc bs Kr Kx := q_iadd dX9_takeOver_126 kk
theorem dX9_takeOver_127 : decode (i_b iX9_takeOver) 127 = .ok (.iaload, 1) := by decide +kernel
theorem wX9_takeOver_127 {a n j : Nat} {f : Nat → Int32} {i : Int32} (ha : h a = some (.inl (1, n, .inl f))) (hi : i = nI j) (hj : j < n) (hn : n < 2147483648) (kk : QW V iX9_takeOver 128 [a0, a1, a2, a3] (.int (f j) :: st) h z bc bs Kr Kx) : QW V iX9_takeOver 127 [a0, a1, a2, a3] (.int i :: .ref a :: st) h z bc bs Kr Kx := q_iald dX9_takeOver_127 ha hi hj hn kk
theorem dX9_takeOver_128 : decode (i_b iX9_takeOver) 128 = .ok (.iastore, 1) := by decide +kernel
theorem wX9_takeOver_128 {a n j : Nat} {f : Nat → Int32} {i : Int32} {x : Int32} (ha : h a = some (.inl (1, n, .inl f))) (hi : i = nI j) (hj : j < n) (hn : n < 2147483648) (kk : QW V iX9_takeOver 129 [a0, a1, a2, a3] (st) (q_up h a (.inl (1, n, .inl (upd f j x)))) z bc bs Kr Kx) : QW V iX9_takeOver 128 [a0, a1, a2, a3] (.int x :: .int i :: .ref a :: st) h z bc bs Kr Kx := q_iast dX9_takeOver_128 ha hi hj hn kk
theorem wX9_takeOver_128u {a n j : Nat} {f : Nat → Int32} {i : Int32} {x : Int32} (hi : i = nI j) (hj : j < n) (hn : n < 2147483648) (kk : QW V iX9_takeOver 129 [a0, a1, a2, a3] (st) (q_up h a (.inl (1, n, .inl (upd f j x)))) z bc bs Kr Kx) : QW V iX9_takeOver 128 [a0, a1, a2, a3] (.int x :: .int i :: .ref a :: st) (q_up h a (.inl (1, n, .inl f))) z bc bs Kr Kx := wX9_takeOver_128 q_up_s hi hj hn (by rw [q_up_u]; exact kk)
theorem dX9_takeOver_129 : decode (i_b iX9_takeOver) 129 = .ok (.iinc 1 1, 3) := by decide +kernel
theorem wX9_takeOver_129 {x : Int32} (kk : QW V iX9_takeOver 132 [a0, some (.int (x + (1))), a2, a3] (st) h z bc bs Kr Kx) (hp : q_n2 a0 = true := by rfl) : QW V iX9_takeOver 129 [a0, some (.int x), a2, a3] (st) h z bc bs Kr Kx := q_iinc (v := x + (1)) dX9_takeOver_129 rfl rfl (Nat.le_of_ble_eq_true rfl) hp kk
theorem dX9_takeOver_132 : decode (i_b iX9_takeOver) 132 = .ok (.goto (-41), 3) := by decide +kernel
theorem wX9_takeOver_132  (kk : QW V iX9_takeOver 91 [a0, a1, a2, a3] (st) h z bc bs Kr Kx) : QW V iX9_takeOver 132 [a0, a1, a2, a3] (st) h z bc bs Kr Kx := q_goto dX9_takeOver_132 (by decide) kk
theorem dX9_takeOver_135 : decode (i_b iX9_takeOver) 135 = .ok (.iconst 0, 1) := by decide +kernel
theorem wX9_takeOver_135  (kk : QW V iX9_takeOver 136 [a0, a1, a2, a3] (.int (0) :: st) h z bc bs Kr Kx) : QW V iX9_takeOver 135 [a0, a1, a2, a3] (st) h z bc bs Kr Kx := q_iconst dX9_takeOver_135 (by decide) kk
theorem dX9_takeOver_136 : decode (i_b iX9_takeOver) 136 = .ok (.istore_n 1, 1) := by decide +kernel
theorem wX9_takeOver_136 {x : Int32} (kk : QW V iX9_takeOver 137 [a0, some (.int x), a2, a3] (st) h z bc bs Kr Kx) (hp : q_n2 a0 = true := by rfl) : QW V iX9_takeOver 136 [a0, a1, a2, a3] (.int x :: st) h z bc bs Kr Kx := q_istore_n dX9_takeOver_136 rfl (Nat.le_of_ble_eq_true rfl) hp kk
theorem dX9_takeOver_137 : decode (i_b iX9_takeOver) 137 = .ok (.iload_n 1, 1) := by decide +kernel
theorem wX9_takeOver_137 {x : Int32} (kk : QW V iX9_takeOver 138 [a0, some (.int x), a2, a3] (.int x :: st) h z bc bs Kr Kx) : QW V iX9_takeOver 137 [a0, some (.int x), a2, a3] (st) h z bc bs Kr Kx := q_iload_n dX9_takeOver_137 rfl rfl kk
theorem dX9_takeOver_138 : decode (i_b iX9_takeOver) 138 = .ok (.sipush 386, 3) := by decide +kernel
theorem wX9_takeOver_138  (kk : QW V iX9_takeOver 141 [a0, a1, a2, a3] (.int (386) :: st) h z bc bs Kr Kx) : QW V iX9_takeOver 138 [a0, a1, a2, a3] (st) h z bc bs Kr Kx := q_sipush dX9_takeOver_138 (by decide) kk
theorem dX9_takeOver_141 : decode (i_b iX9_takeOver) 141 = .ok (.if_icmp .ge 16, 3) := by decide +kernel
theorem wX9_takeOver_141 {x y : Int32} (kt : y ≤ x → QW V iX9_takeOver 157 [a0, a1, a2, a3] (st) h z bc bs Kr Kx) (kf : ¬ y ≤ x → QW V iX9_takeOver 144 [a0, a1, a2, a3] (st) h z bc bs Kr Kx) : QW V iX9_takeOver 141 [a0, a1, a2, a3] (.int y :: .int x :: st) h z bc bs Kr Kx := q_icmp_ge dX9_takeOver_141 (by decide) kt kf
theorem dX9_takeOver_144 : decode (i_b iX9_takeOver) 144 = .ok (.aload_n 0, 1) := by decide +kernel
theorem wX9_takeOver_144 {x : Nat} (kk : QW V iX9_takeOver 145 [some (.ref x), a1, a2, a3] (.ref x :: st) h z bc bs Kr Kx) : QW V iX9_takeOver 144 [some (.ref x), a1, a2, a3] (st) h z bc bs Kr Kx := q_aload_n dX9_takeOver_144 rfl rfl kk
theorem dX9_takeOver_145 : decode (i_b iX9_takeOver) 145 = .ok (.getfield 7, 3) := by decide +kernel
theorem wX9_takeOver_145 {o : Nat} {m : Nat → Int32} (ha : h o = some (.inr (10, q_MF o m))) (kk : QW V iX9_takeOver 148 [a0, a1, a2, a3] (.ref (o + 1) :: st) h z bc bs Kr Kx) : QW V iX9_takeOver 145 [a0, a1, a2, a3] (.ref o :: st) h z bc bs Kr Kx := q_getf (k := 0) dX9_takeOver_145 klX9 rfl (Nat.le_of_ble_eq_true rfl : 0 < 35) k5_213 rfl ha rfl kk
theorem wX9_takeOver_145u {o : Nat} {m : Nat → Int32} (kk : QW V iX9_takeOver 148 [a0, a1, a2, a3] (.ref (o + 1) :: st) (q_up h o (.inr (10, q_MF o m))) z bc bs Kr Kx) : QW V iX9_takeOver 145 [a0, a1, a2, a3] (.ref o :: st) (q_up h o (.inr (10, q_MF o m))) z bc bs Kr Kx := wX9_takeOver_145 q_up_s kk
theorem dX9_takeOver_148 : decode (i_b iX9_takeOver) 148 = .ok (.iload_n 1, 1) := by decide +kernel
theorem wX9_takeOver_148 {x : Int32} (kk : QW V iX9_takeOver 149 [a0, some (.int x), a2, a3] (.int x :: st) h z bc bs Kr Kx) : QW V iX9_takeOver 148 [a0, some (.int x), a2, a3] (st) h z bc bs Kr Kx := q_iload_n dX9_takeOver_148 rfl rfl kk
theorem dX9_takeOver_149 : decode (i_b iX9_takeOver) 149 = .ok (.lconst 0, 1) := by decide +kernel
theorem wX9_takeOver_149  (kk : QW V iX9_takeOver 150 [a0, a1, a2, a3] (.long (0) :: st) h z bc bs Kr Kx) : QW V iX9_takeOver 149 [a0, a1, a2, a3] (st) h z bc bs Kr Kx := q_lconst dX9_takeOver_149 (by decide) kk
theorem dX9_takeOver_150 : decode (i_b iX9_takeOver) 150 = .ok (.lastore, 1) := by decide +kernel
theorem wX9_takeOver_150 {a n j : Nat} {f : Nat → Int64} {i : Int32} {x : Int64} (ha : h a = some (.inl (2, n, .inr (.inl f)))) (hi : i = nI j) (hj : j < n) (hn : n < 2147483648) (kk : QW V iX9_takeOver 151 [a0, a1, a2, a3] (st) (q_up h a (.inl (2, n, .inr (.inl (vp_updL f j x))))) z bc bs Kr Kx) : QW V iX9_takeOver 150 [a0, a1, a2, a3] (.long x :: .int i :: .ref a :: st) h z bc bs Kr Kx := q_last dX9_takeOver_150 ha hi hj hn kk
theorem wX9_takeOver_150u {a n j : Nat} {f : Nat → Int64} {i : Int32} {x : Int64} (hi : i = nI j) (hj : j < n) (hn : n < 2147483648) (kk : QW V iX9_takeOver 151 [a0, a1, a2, a3] (st) (q_up h a (.inl (2, n, .inr (.inl (vp_updL f j x))))) z bc bs Kr Kx) : QW V iX9_takeOver 150 [a0, a1, a2, a3] (.long x :: .int i :: .ref a :: st) (q_up h a (.inl (2, n, .inr (.inl f)))) z bc bs Kr Kx := wX9_takeOver_150 q_up_s hi hj hn (by rw [q_up_u]; exact kk)
theorem dX9_takeOver_151 : decode (i_b iX9_takeOver) 151 = .ok (.iinc 1 1, 3) := by decide +kernel
theorem wX9_takeOver_151 {x : Int32} (kk : QW V iX9_takeOver 154 [a0, some (.int (x + (1))), a2, a3] (st) h z bc bs Kr Kx) (hp : q_n2 a0 = true := by rfl) : QW V iX9_takeOver 151 [a0, some (.int x), a2, a3] (st) h z bc bs Kr Kx := q_iinc (v := x + (1)) dX9_takeOver_151 rfl rfl (Nat.le_of_ble_eq_true rfl) hp kk
theorem dX9_takeOver_154 : decode (i_b iX9_takeOver) 154 = .ok (.goto (-17), 3) := by decide +kernel
theorem wX9_takeOver_154  (kk : QW V iX9_takeOver 137 [a0, a1, a2, a3] (st) h z bc bs Kr Kx) : QW V iX9_takeOver 154 [a0, a1, a2, a3] (st) h z bc bs Kr Kx := q_goto dX9_takeOver_154 (by decide) kk
theorem dX9_takeOver_157 : decode (i_b iX9_takeOver) 157 = .ok (.aload_n 0, 1) := by decide +kernel
theorem wX9_takeOver_157 {x : Nat} (kk : QW V iX9_takeOver 158 [some (.ref x), a1, a2, a3] (.ref x :: st) h z bc bs Kr Kx) : QW V iX9_takeOver 157 [some (.ref x), a1, a2, a3] (st) h z bc bs Kr Kx := q_aload_n dX9_takeOver_157 rfl rfl kk
theorem dX9_takeOver_158 : decode (i_b iX9_takeOver) 158 = .ok (.getfield 7, 3) := by decide +kernel
theorem wX9_takeOver_158 {o : Nat} {m : Nat → Int32} (ha : h o = some (.inr (10, q_MF o m))) (kk : QW V iX9_takeOver 161 [a0, a1, a2, a3] (.ref (o + 1) :: st) h z bc bs Kr Kx) : QW V iX9_takeOver 158 [a0, a1, a2, a3] (.ref o :: st) h z bc bs Kr Kx := q_getf (k := 0) dX9_takeOver_158 klX9 rfl (Nat.le_of_ble_eq_true rfl : 0 < 35) k5_213 rfl ha rfl kk
theorem wX9_takeOver_158u {o : Nat} {m : Nat → Int32} (kk : QW V iX9_takeOver 161 [a0, a1, a2, a3] (.ref (o + 1) :: st) (q_up h o (.inr (10, q_MF o m))) z bc bs Kr Kx) : QW V iX9_takeOver 158 [a0, a1, a2, a3] (.ref o :: st) (q_up h o (.inr (10, q_MF o m))) z bc bs Kr Kx := wX9_takeOver_158 q_up_s kk
theorem dX9_takeOver_161 : decode (i_b iX9_takeOver) 161 = .ok (.iconst 1, 1) := by decide +kernel
theorem wX9_takeOver_161  (kk : QW V iX9_takeOver 162 [a0, a1, a2, a3] (.int (1) :: st) h z bc bs Kr Kx) : QW V iX9_takeOver 161 [a0, a1, a2, a3] (st) h z bc bs Kr Kx := q_iconst dX9_takeOver_161 (by decide) kk
theorem dX9_takeOver_162 : decode (i_b iX9_takeOver) 162 = .ok (.lconst 1, 1) := by decide +kernel
theorem wX9_takeOver_162  (kk : QW V iX9_takeOver 163 [a0, a1, a2, a3] (.long (1) :: st) h z bc bs Kr Kx) : QW V iX9_takeOver 162 [a0, a1, a2, a3] (st) h z bc bs Kr Kx := q_lconst dX9_takeOver_162 (by decide) kk
theorem dX9_takeOver_163 : decode (i_b iX9_takeOver) 163 = .ok (.lastore, 1) := by decide +kernel
theorem wX9_takeOver_163 {a n j : Nat} {f : Nat → Int64} {i : Int32} {x : Int64} (ha : h a = some (.inl (2, n, .inr (.inl f)))) (hi : i = nI j) (hj : j < n) (hn : n < 2147483648) (kk : QW V iX9_takeOver 164 [a0, a1, a2, a3] (st) (q_up h a (.inl (2, n, .inr (.inl (vp_updL f j x))))) z bc bs Kr Kx) : QW V iX9_takeOver 163 [a0, a1, a2, a3] (.long x :: .int i :: .ref a :: st) h z bc bs Kr Kx := q_last dX9_takeOver_163 ha hi hj hn kk
theorem wX9_takeOver_163u {a n j : Nat} {f : Nat → Int64} {i : Int32} {x : Int64} (hi : i = nI j) (hj : j < n) (hn : n < 2147483648) (kk : QW V iX9_takeOver 164 [a0, a1, a2, a3] (st) (q_up h a (.inl (2, n, .inr (.inl (vp_updL f j x))))) z bc bs Kr Kx) : QW V iX9_takeOver 163 [a0, a1, a2, a3] (.long x :: .int i :: .ref a :: st) (q_up h a (.inl (2, n, .inr (.inl f)))) z bc bs Kr Kx := wX9_takeOver_163 q_up_s hi hj hn (by rw [q_up_u]; exact kk)
theorem dX9_takeOver_164 : decode (i_b iX9_takeOver) 164 = .ok (.aload_n 0, 1) := by decide +kernel
theorem wX9_takeOver_164 {x : Nat} (kk : QW V iX9_takeOver 165 [some (.ref x), a1, a2, a3] (.ref x :: st) h z bc bs Kr Kx) : QW V iX9_takeOver 164 [some (.ref x), a1, a2, a3] (st) h z bc bs Kr Kx := q_aload_n dX9_takeOver_164 rfl rfl kk
theorem dX9_takeOver_165 : decode (i_b iX9_takeOver) 165 = .ok (.getfield 7, 3) := by decide +kernel
theorem wX9_takeOver_165 {o : Nat} {m : Nat → Int32} (ha : h o = some (.inr (10, q_MF o m))) (kk : QW V iX9_takeOver 168 [a0, a1, a2, a3] (.ref (o + 1) :: st) h z bc bs Kr Kx) : QW V iX9_takeOver 165 [a0, a1, a2, a3] (.ref o :: st) h z bc bs Kr Kx := q_getf (k := 0) dX9_takeOver_165 klX9 rfl (Nat.le_of_ble_eq_true rfl : 0 < 35) k5_213 rfl ha rfl kk
theorem wX9_takeOver_165u {o : Nat} {m : Nat → Int32} (kk : QW V iX9_takeOver 168 [a0, a1, a2, a3] (.ref (o + 1) :: st) (q_up h o (.inr (10, q_MF o m))) z bc bs Kr Kx) : QW V iX9_takeOver 165 [a0, a1, a2, a3] (.ref o :: st) (q_up h o (.inr (10, q_MF o m))) z bc bs Kr Kx := wX9_takeOver_165 q_up_s kk
theorem dX9_takeOver_168 : decode (i_b iX9_takeOver) 168 = .ok (.iconst 3, 1) := by decide +kernel
theorem wX9_takeOver_168  (kk : QW V iX9_takeOver 169 [a0, a1, a2, a3] (.int (3) :: st) h z bc bs Kr Kx) : QW V iX9_takeOver 168 [a0, a1, a2, a3] (st) h z bc bs Kr Kx := q_iconst dX9_takeOver_168 (by decide) kk
theorem dX9_takeOver_169 : decode (i_b iX9_takeOver) 169 = .ok (.lconst 1, 1) := by decide +kernel
theorem wX9_takeOver_169  (kk : QW V iX9_takeOver 170 [a0, a1, a2, a3] (.long (1) :: st) h z bc bs Kr Kx) : QW V iX9_takeOver 169 [a0, a1, a2, a3] (st) h z bc bs Kr Kx := q_lconst dX9_takeOver_169 (by decide) kk
theorem dX9_takeOver_170 : decode (i_b iX9_takeOver) 170 = .ok (.lastore, 1) := by decide +kernel
theorem wX9_takeOver_170 {a n j : Nat} {f : Nat → Int64} {i : Int32} {x : Int64} (ha : h a = some (.inl (2, n, .inr (.inl f)))) (hi : i = nI j) (hj : j < n) (hn : n < 2147483648) (kk : QW V iX9_takeOver 171 [a0, a1, a2, a3] (st) (q_up h a (.inl (2, n, .inr (.inl (vp_updL f j x))))) z bc bs Kr Kx) : QW V iX9_takeOver 170 [a0, a1, a2, a3] (.long x :: .int i :: .ref a :: st) h z bc bs Kr Kx := q_last dX9_takeOver_170 ha hi hj hn kk
theorem wX9_takeOver_170u {a n j : Nat} {f : Nat → Int64} {i : Int32} {x : Int64} (hi : i = nI j) (hj : j < n) (hn : n < 2147483648) (kk : QW V iX9_takeOver 171 [a0, a1, a2, a3] (st) (q_up h a (.inl (2, n, .inr (.inl (vp_updL f j x))))) z bc bs Kr Kx) : QW V iX9_takeOver 170 [a0, a1, a2, a3] (.long x :: .int i :: .ref a :: st) (q_up h a (.inl (2, n, .inr (.inl f)))) z bc bs Kr Kx := wX9_takeOver_170 q_up_s hi hj hn (by rw [q_up_u]; exact kk)
theorem dX9_takeOver_171 : decode (i_b iX9_takeOver) 171 = .ok (.iconst 0, 1) := by decide +kernel
theorem wX9_takeOver_171  (kk : QW V iX9_takeOver 172 [a0, a1, a2, a3] (.int (0) :: st) h z bc bs Kr Kx) : QW V iX9_takeOver 171 [a0, a1, a2, a3] (st) h z bc bs Kr Kx := q_iconst dX9_takeOver_171 (by decide) kk
theorem dX9_takeOver_172 : decode (i_b iX9_takeOver) 172 = .ok (.istore_n 1, 1) := by decide +kernel
theorem wX9_takeOver_172 {x : Int32} (kk : QW V iX9_takeOver 173 [a0, some (.int x), a2, a3] (st) h z bc bs Kr Kx) (hp : q_n2 a0 = true := by rfl) : QW V iX9_takeOver 172 [a0, a1, a2, a3] (.int x :: st) h z bc bs Kr Kx := q_istore_n dX9_takeOver_172 rfl (Nat.le_of_ble_eq_true rfl) hp kk
theorem dX9_takeOver_173 : decode (i_b iX9_takeOver) 173 = .ok (.iload_n 1, 1) := by decide +kernel
theorem wX9_takeOver_173 {x : Int32} (kk : QW V iX9_takeOver 174 [a0, some (.int x), a2, a3] (.int x :: st) h z bc bs Kr Kx) : QW V iX9_takeOver 173 [a0, some (.int x), a2, a3] (st) h z bc bs Kr Kx := q_iload_n dX9_takeOver_173 rfl rfl kk
theorem dX9_takeOver_174 : decode (i_b iX9_takeOver) 174 = .ok (.iconst 4, 1) := by decide +kernel
theorem wX9_takeOver_174  (kk : QW V iX9_takeOver 175 [a0, a1, a2, a3] (.int (4) :: st) h z bc bs Kr Kx) : QW V iX9_takeOver 174 [a0, a1, a2, a3] (st) h z bc bs Kr Kx := q_iconst dX9_takeOver_174 (by decide) kk
theorem dX9_takeOver_175 : decode (i_b iX9_takeOver) 175 = .ok (.if_icmp .ge 29, 3) := by decide +kernel
theorem wX9_takeOver_175 {x y : Int32} (kt : y ≤ x → QW V iX9_takeOver 204 [a0, a1, a2, a3] (st) h z bc bs Kr Kx) (kf : ¬ y ≤ x → QW V iX9_takeOver 178 [a0, a1, a2, a3] (st) h z bc bs Kr Kx) : QW V iX9_takeOver 175 [a0, a1, a2, a3] (.int y :: .int x :: st) h z bc bs Kr Kx := q_icmp_ge dX9_takeOver_175 (by decide) kt kf
theorem dX9_takeOver_178 : decode (i_b iX9_takeOver) 178 = .ok (.aload_n 0, 1) := by decide +kernel
theorem wX9_takeOver_178 {x : Nat} (kk : QW V iX9_takeOver 179 [some (.ref x), a1, a2, a3] (.ref x :: st) h z bc bs Kr Kx) : QW V iX9_takeOver 178 [some (.ref x), a1, a2, a3] (st) h z bc bs Kr Kx := q_aload_n dX9_takeOver_178 rfl rfl kk
theorem dX9_takeOver_179 : decode (i_b iX9_takeOver) 179 = .ok (.getfield 7, 3) := by decide +kernel
theorem wX9_takeOver_179 {o : Nat} {m : Nat → Int32} (ha : h o = some (.inr (10, q_MF o m))) (kk : QW V iX9_takeOver 182 [a0, a1, a2, a3] (.ref (o + 1) :: st) h z bc bs Kr Kx) : QW V iX9_takeOver 179 [a0, a1, a2, a3] (.ref o :: st) h z bc bs Kr Kx := q_getf (k := 0) dX9_takeOver_179 klX9 rfl (Nat.le_of_ble_eq_true rfl : 0 < 35) k5_213 rfl ha rfl kk
theorem wX9_takeOver_179u {o : Nat} {m : Nat → Int32} (kk : QW V iX9_takeOver 182 [a0, a1, a2, a3] (.ref (o + 1) :: st) (q_up h o (.inr (10, q_MF o m))) z bc bs Kr Kx) : QW V iX9_takeOver 179 [a0, a1, a2, a3] (.ref o :: st) (q_up h o (.inr (10, q_MF o m))) z bc bs Kr Kx := wX9_takeOver_179 q_up_s kk
theorem dX9_takeOver_182 : decode (i_b iX9_takeOver) 182 = .ok (.sipush 246, 3) := by decide +kernel
theorem wX9_takeOver_182  (kk : QW V iX9_takeOver 185 [a0, a1, a2, a3] (.int (246) :: st) h z bc bs Kr Kx) : QW V iX9_takeOver 182 [a0, a1, a2, a3] (st) h z bc bs Kr Kx := q_sipush dX9_takeOver_182 (by decide) kk
theorem dX9_takeOver_185 : decode (i_b iX9_takeOver) 185 = .ok (.bipush 35, 2) := by decide +kernel
theorem wX9_takeOver_185  (kk : QW V iX9_takeOver 187 [a0, a1, a2, a3] (.int (35) :: st) h z bc bs Kr Kx) : QW V iX9_takeOver 185 [a0, a1, a2, a3] (st) h z bc bs Kr Kx := q_bipush dX9_takeOver_185 (by decide) kk
theorem dX9_takeOver_187 : decode (i_b iX9_takeOver) 187 = .ok (.iload_n 1, 1) := by decide +kernel
theorem wX9_takeOver_187 {x : Int32} (kk : QW V iX9_takeOver 188 [a0, some (.int x), a2, a3] (.int x :: st) h z bc bs Kr Kx) : QW V iX9_takeOver 187 [a0, some (.int x), a2, a3] (st) h z bc bs Kr Kx := q_iload_n dX9_takeOver_187 rfl rfl kk
theorem dX9_takeOver_188 : decode (i_b iX9_takeOver) 188 = .ok (.imul, 1) := by decide +kernel
theorem wX9_takeOver_188 {x y : Int32} (kk : QW V iX9_takeOver 189 [a0, a1, a2, a3] (.int (x * y) :: st) h z bc bs Kr Kx) : QW V iX9_takeOver 188 [a0, a1, a2, a3] (.int y :: .int x :: st) h z bc bs Kr Kx := q_imul dX9_takeOver_188 kk
theorem dX9_takeOver_189 : decode (i_b iX9_takeOver) 189 = .ok (.iadd, 1) := by decide +kernel
theorem wX9_takeOver_189 {x y : Int32} (kk : QW V iX9_takeOver 190 [a0, a1, a2, a3] (.int (x + y) :: st) h z bc bs Kr Kx) : QW V iX9_takeOver 189 [a0, a1, a2, a3] (.int y :: .int x :: st) h z bc bs Kr Kx := q_iadd dX9_takeOver_189 kk
theorem dX9_takeOver_190 : decode (i_b iX9_takeOver) 190 = .ok (.iconst 0, 1) := by decide +kernel
theorem wX9_takeOver_190  (kk : QW V iX9_takeOver 191 [a0, a1, a2, a3] (.int (0) :: st) h z bc bs Kr Kx) : QW V iX9_takeOver 190 [a0, a1, a2, a3] (st) h z bc bs Kr Kx := q_iconst dX9_takeOver_190 (by decide) kk
theorem dX9_takeOver_191 : decode (i_b iX9_takeOver) 191 = .ok (.iadd, 1) := by decide +kernel
theorem wX9_takeOver_191 {x y : Int32} (kk : QW V iX9_takeOver 192 [a0, a1, a2, a3] (.int (x + y) :: st) h z bc bs Kr Kx) : QW V iX9_takeOver 191 [a0, a1, a2, a3] (.int y :: .int x :: st) h z bc bs Kr Kx := q_iadd dX9_takeOver_191 kk
theorem dX9_takeOver_192 : decode (i_b iX9_takeOver) 192 = .ok (.aload_n 0, 1) := by decide +kernel
theorem wX9_takeOver_192 {x : Nat} (kk : QW V iX9_takeOver 193 [some (.ref x), a1, a2, a3] (.ref x :: st) h z bc bs Kr Kx) : QW V iX9_takeOver 192 [some (.ref x), a1, a2, a3] (st) h z bc bs Kr Kx := q_aload_n dX9_takeOver_192 rfl rfl kk
theorem dX9_takeOver_193 : decode (i_b iX9_takeOver) 193 = .ok (.getfield 190, 3) := by decide +kernel
theorem wX9_takeOver_193 {o : Nat} {m : Nat → Int32} (ha : h o = some (.inr (10, q_MF o m))) (kk : QW V iX9_takeOver 196 [a0, a1, a2, a3] (.int (m 11) :: st) h z bc bs Kr Kx) : QW V iX9_takeOver 193 [a0, a1, a2, a3] (.ref o :: st) h z bc bs Kr Kx := q_getf (k := 11) dX9_takeOver_193 klX9 rfl (Nat.le_of_ble_eq_true rfl : 11 < 35) k5_224 rfl ha rfl kk
theorem wX9_takeOver_193u {o : Nat} {m : Nat → Int32} (kk : QW V iX9_takeOver 196 [a0, a1, a2, a3] (.int (m 11) :: st) (q_up h o (.inr (10, q_MF o m))) z bc bs Kr Kx) : QW V iX9_takeOver 193 [a0, a1, a2, a3] (.ref o :: st) (q_up h o (.inr (10, q_MF o m))) z bc bs Kr Kx := wX9_takeOver_193 q_up_s kk
theorem dX9_takeOver_196 : decode (i_b iX9_takeOver) 196 = .ok (.i2l, 1) := by decide +kernel
theorem wX9_takeOver_196 {x : Int32} (kk : QW V iX9_takeOver 197 [a0, a1, a2, a3] (.long (x.toInt64) :: st) h z bc bs Kr Kx) : QW V iX9_takeOver 196 [a0, a1, a2, a3] (.int x :: st) h z bc bs Kr Kx := q_i2l dX9_takeOver_196 kk
theorem dX9_takeOver_197 : decode (i_b iX9_takeOver) 197 = .ok (.lastore, 1) := by decide +kernel
theorem wX9_takeOver_197 {a n j : Nat} {f : Nat → Int64} {i : Int32} {x : Int64} (ha : h a = some (.inl (2, n, .inr (.inl f)))) (hi : i = nI j) (hj : j < n) (hn : n < 2147483648) (kk : QW V iX9_takeOver 198 [a0, a1, a2, a3] (st) (q_up h a (.inl (2, n, .inr (.inl (vp_updL f j x))))) z bc bs Kr Kx) : QW V iX9_takeOver 197 [a0, a1, a2, a3] (.long x :: .int i :: .ref a :: st) h z bc bs Kr Kx := q_last dX9_takeOver_197 ha hi hj hn kk
theorem wX9_takeOver_197u {a n j : Nat} {f : Nat → Int64} {i : Int32} {x : Int64} (hi : i = nI j) (hj : j < n) (hn : n < 2147483648) (kk : QW V iX9_takeOver 198 [a0, a1, a2, a3] (st) (q_up h a (.inl (2, n, .inr (.inl (vp_updL f j x))))) z bc bs Kr Kx) : QW V iX9_takeOver 197 [a0, a1, a2, a3] (.long x :: .int i :: .ref a :: st) (q_up h a (.inl (2, n, .inr (.inl f)))) z bc bs Kr Kx := wX9_takeOver_197 q_up_s hi hj hn (by rw [q_up_u]; exact kk)
theorem dX9_takeOver_198 : decode (i_b iX9_takeOver) 198 = .ok (.iinc 1 1, 3) := by decide +kernel
theorem wX9_takeOver_198 {x : Int32} (kk : QW V iX9_takeOver 201 [a0, some (.int (x + (1))), a2, a3] (st) h z bc bs Kr Kx) (hp : q_n2 a0 = true := by rfl) : QW V iX9_takeOver 198 [a0, some (.int x), a2, a3] (st) h z bc bs Kr Kx := q_iinc (v := x + (1)) dX9_takeOver_198 rfl rfl (Nat.le_of_ble_eq_true rfl) hp kk
theorem dX9_takeOver_201 : decode (i_b iX9_takeOver) 201 = .ok (.goto (-28), 3) := by decide +kernel
theorem wX9_takeOver_201  (kk : QW V iX9_takeOver 173 [a0, a1, a2, a3] (st) h z bc bs Kr Kx) : QW V iX9_takeOver 201 [a0, a1, a2, a3] (st) h z bc bs Kr Kx := q_goto dX9_takeOver_201 (by decide) kk
theorem dX9_takeOver_204 : decode (i_b iX9_takeOver) 204 = .ok (.iconst 0, 1) := by decide +kernel
theorem wX9_takeOver_204  (kk : QW V iX9_takeOver 205 [a0, a1, a2, a3] (.int (0) :: st) h z bc bs Kr Kx) : QW V iX9_takeOver 204 [a0, a1, a2, a3] (st) h z bc bs Kr Kx := q_iconst dX9_takeOver_204 (by decide) kk
theorem dX9_takeOver_205 : decode (i_b iX9_takeOver) 205 = .ok (.istore_n 1, 1) := by decide +kernel
theorem wX9_takeOver_205 {x : Int32} (kk : QW V iX9_takeOver 206 [a0, some (.int x), a2, a3] (st) h z bc bs Kr Kx) (hp : q_n2 a0 = true := by rfl) : QW V iX9_takeOver 205 [a0, a1, a2, a3] (.int x :: st) h z bc bs Kr Kx := q_istore_n dX9_takeOver_205 rfl (Nat.le_of_ble_eq_true rfl) hp kk
theorem dX9_takeOver_206 : decode (i_b iX9_takeOver) 206 = .ok (.iload_n 1, 1) := by decide +kernel
theorem wX9_takeOver_206 {x : Int32} (kk : QW V iX9_takeOver 207 [a0, some (.int x), a2, a3] (.int x :: st) h z bc bs Kr Kx) : QW V iX9_takeOver 206 [a0, some (.int x), a2, a3] (st) h z bc bs Kr Kx := q_iload_n dX9_takeOver_206 rfl rfl kk
theorem dX9_takeOver_207 : decode (i_b iX9_takeOver) 207 = .ok (.bipush 24, 2) := by decide +kernel
theorem wX9_takeOver_207  (kk : QW V iX9_takeOver 209 [a0, a1, a2, a3] (.int (24) :: st) h z bc bs Kr Kx) : QW V iX9_takeOver 207 [a0, a1, a2, a3] (st) h z bc bs Kr Kx := q_bipush dX9_takeOver_207 (by decide) kk
theorem dX9_takeOver_209 : decode (i_b iX9_takeOver) 209 = .ok (.if_icmp .ge 99, 3) := by decide +kernel
theorem wX9_takeOver_209 {x y : Int32} (kt : y ≤ x → QW V iX9_takeOver 308 [a0, a1, a2, a3] (st) h z bc bs Kr Kx) (kf : ¬ y ≤ x → QW V iX9_takeOver 212 [a0, a1, a2, a3] (st) h z bc bs Kr Kx) : QW V iX9_takeOver 209 [a0, a1, a2, a3] (.int y :: .int x :: st) h z bc bs Kr Kx := q_icmp_ge dX9_takeOver_209 (by decide) kt kf
theorem dX9_takeOver_212 : decode (i_b iX9_takeOver) 212 = .ok (.bipush 6, 2) := by decide +kernel
theorem wX9_takeOver_212  (kk : QW V iX9_takeOver 214 [a0, a1, a2, a3] (.int (6) :: st) h z bc bs Kr Kx) : QW V iX9_takeOver 212 [a0, a1, a2, a3] (st) h z bc bs Kr Kx := q_bipush dX9_takeOver_212 (by decide) kk
theorem dX9_takeOver_214 : decode (i_b iX9_takeOver) 214 = .ok (.bipush 10, 2) := by decide +kernel
theorem wX9_takeOver_214  (kk : QW V iX9_takeOver 216 [a0, a1, a2, a3] (.int (10) :: st) h z bc bs Kr Kx) : QW V iX9_takeOver 214 [a0, a1, a2, a3] (st) h z bc bs Kr Kx := q_bipush dX9_takeOver_214 (by decide) kk
theorem dX9_takeOver_216 : decode (i_b iX9_takeOver) 216 = .ok (.iload_n 1, 1) := by decide +kernel
theorem wX9_takeOver_216 {x : Int32} (kk : QW V iX9_takeOver 217 [a0, some (.int x), a2, a3] (.int x :: st) h z bc bs Kr Kx) : QW V iX9_takeOver 216 [a0, some (.int x), a2, a3] (st) h z bc bs Kr Kx := q_iload_n dX9_takeOver_216 rfl rfl kk
theorem dX9_takeOver_217 : decode (i_b iX9_takeOver) 217 = .ok (.imul, 1) := by decide +kernel
theorem wX9_takeOver_217 {x y : Int32} (kk : QW V iX9_takeOver 218 [a0, a1, a2, a3] (.int (x * y) :: st) h z bc bs Kr Kx) : QW V iX9_takeOver 217 [a0, a1, a2, a3] (.int y :: .int x :: st) h z bc bs Kr Kx := q_imul dX9_takeOver_217 kk
theorem dX9_takeOver_218 : decode (i_b iX9_takeOver) 218 = .ok (.iadd, 1) := by decide +kernel
theorem wX9_takeOver_218 {x y : Int32} (kk : QW V iX9_takeOver 219 [a0, a1, a2, a3] (.int (x + y) :: st) h z bc bs Kr Kx) : QW V iX9_takeOver 218 [a0, a1, a2, a3] (.int y :: .int x :: st) h z bc bs Kr Kx := q_iadd dX9_takeOver_218 kk
theorem dX9_takeOver_219 : decode (i_b iX9_takeOver) 219 = .ok (.istore_n 2, 1) := by decide +kernel
theorem wX9_takeOver_219 {x : Int32} (kk : QW V iX9_takeOver 220 [a0, a1, some (.int x), a3] (st) h z bc bs Kr Kx) (hp : q_n2 a1 = true := by rfl) : QW V iX9_takeOver 219 [a0, a1, a2, a3] (.int x :: st) h z bc bs Kr Kx := q_istore_n dX9_takeOver_219 rfl (Nat.le_of_ble_eq_true rfl) hp kk
theorem dX9_takeOver_220 : decode (i_b iX9_takeOver) 220 = .ok (.aload_n 0, 1) := by decide +kernel
theorem wX9_takeOver_220 {x : Nat} (kk : QW V iX9_takeOver 221 [some (.ref x), a1, a2, a3] (.ref x :: st) h z bc bs Kr Kx) : QW V iX9_takeOver 220 [some (.ref x), a1, a2, a3] (st) h z bc bs Kr Kx := q_aload_n dX9_takeOver_220 rfl rfl kk
theorem dX9_takeOver_221 : decode (i_b iX9_takeOver) 221 = .ok (.getfield 7, 3) := by decide +kernel
theorem wX9_takeOver_221 {o : Nat} {m : Nat → Int32} (ha : h o = some (.inr (10, q_MF o m))) (kk : QW V iX9_takeOver 224 [a0, a1, a2, a3] (.ref (o + 1) :: st) h z bc bs Kr Kx) : QW V iX9_takeOver 221 [a0, a1, a2, a3] (.ref o :: st) h z bc bs Kr Kx := q_getf (k := 0) dX9_takeOver_221 klX9 rfl (Nat.le_of_ble_eq_true rfl : 0 < 35) k5_213 rfl ha rfl kk
theorem wX9_takeOver_221u {o : Nat} {m : Nat → Int32} (kk : QW V iX9_takeOver 224 [a0, a1, a2, a3] (.ref (o + 1) :: st) (q_up h o (.inr (10, q_MF o m))) z bc bs Kr Kx) : QW V iX9_takeOver 221 [a0, a1, a2, a3] (.ref o :: st) (q_up h o (.inr (10, q_MF o m))) z bc bs Kr Kx := wX9_takeOver_221 q_up_s kk
theorem dX9_takeOver_224 : decode (i_b iX9_takeOver) 224 = .ok (.iload_n 2, 1) := by decide +kernel
theorem wX9_takeOver_224 {x : Int32} (kk : QW V iX9_takeOver 225 [a0, a1, some (.int x), a3] (.int x :: st) h z bc bs Kr Kx) : QW V iX9_takeOver 224 [a0, a1, some (.int x), a3] (st) h z bc bs Kr Kx := q_iload_n dX9_takeOver_224 rfl rfl kk
theorem dX9_takeOver_225 : decode (i_b iX9_takeOver) 225 = .ok (.iconst 0, 1) := by decide +kernel
theorem wX9_takeOver_225  (kk : QW V iX9_takeOver 226 [a0, a1, a2, a3] (.int (0) :: st) h z bc bs Kr Kx) : QW V iX9_takeOver 225 [a0, a1, a2, a3] (st) h z bc bs Kr Kx := q_iconst dX9_takeOver_225 (by decide) kk
theorem dX9_takeOver_226 : decode (i_b iX9_takeOver) 226 = .ok (.iadd, 1) := by decide +kernel
theorem wX9_takeOver_226 {x y : Int32} (kk : QW V iX9_takeOver 227 [a0, a1, a2, a3] (.int (x + y) :: st) h z bc bs Kr Kx) : QW V iX9_takeOver 226 [a0, a1, a2, a3] (.int y :: .int x :: st) h z bc bs Kr Kx := q_iadd dX9_takeOver_226 kk
theorem dX9_takeOver_227 : decode (i_b iX9_takeOver) 227 = .ok (.aload_n 0, 1) := by decide +kernel
theorem wX9_takeOver_227 {x : Nat} (kk : QW V iX9_takeOver 228 [some (.ref x), a1, a2, a3] (.ref x :: st) h z bc bs Kr Kx) : QW V iX9_takeOver 227 [some (.ref x), a1, a2, a3] (st) h z bc bs Kr Kx := q_aload_n dX9_takeOver_227 rfl rfl kk
theorem dX9_takeOver_228 : decode (i_b iX9_takeOver) 228 = .ok (.getfield 36, 3) := by decide +kernel
theorem wX9_takeOver_228 {o : Nat} {m : Nat → Int32} (ha : h o = some (.inr (10, q_MF o m))) (kk : QW V iX9_takeOver 231 [a0, a1, a2, a3] (.ref (o + 8) :: st) h z bc bs Kr Kx) : QW V iX9_takeOver 228 [a0, a1, a2, a3] (.ref o :: st) h z bc bs Kr Kx := q_getf (k := 27) dX9_takeOver_228 klX9 rfl (Nat.le_of_ble_eq_true rfl : 27 < 35) k6_0 rfl ha rfl kk
theorem wX9_takeOver_228u {o : Nat} {m : Nat → Int32} (kk : QW V iX9_takeOver 231 [a0, a1, a2, a3] (.ref (o + 8) :: st) (q_up h o (.inr (10, q_MF o m))) z bc bs Kr Kx) : QW V iX9_takeOver 228 [a0, a1, a2, a3] (.ref o :: st) (q_up h o (.inr (10, q_MF o m))) z bc bs Kr Kx := wX9_takeOver_228 q_up_s kk
theorem dX9_takeOver_231 : decode (i_b iX9_takeOver) 231 = .ok (.bipush 9, 2) := by decide +kernel
theorem wX9_takeOver_231  (kk : QW V iX9_takeOver 233 [a0, a1, a2, a3] (.int (9) :: st) h z bc bs Kr Kx) : QW V iX9_takeOver 231 [a0, a1, a2, a3] (st) h z bc bs Kr Kx := q_bipush dX9_takeOver_231 (by decide) kk
theorem dX9_takeOver_233 : decode (i_b iX9_takeOver) 233 = .ok (.iload_n 1, 1) := by decide +kernel
theorem wX9_takeOver_233 {x : Int32} (kk : QW V iX9_takeOver 234 [a0, some (.int x), a2, a3] (.int x :: st) h z bc bs Kr Kx) : QW V iX9_takeOver 233 [a0, some (.int x), a2, a3] (st) h z bc bs Kr Kx := q_iload_n dX9_takeOver_233 rfl rfl kk
theorem dX9_takeOver_234 : decode (i_b iX9_takeOver) 234 = .ok (.imul, 1) := by decide +kernel
theorem wX9_takeOver_234 {x y : Int32} (kk : QW V iX9_takeOver 235 [a0, a1, a2, a3] (.int (x * y) :: st) h z bc bs Kr Kx) : QW V iX9_takeOver 234 [a0, a1, a2, a3] (.int y :: .int x :: st) h z bc bs Kr Kx := q_imul dX9_takeOver_234 kk
theorem dX9_takeOver_235 : decode (i_b iX9_takeOver) 235 = .ok (.iaload, 1) := by decide +kernel
theorem wX9_takeOver_235 {a n j : Nat} {f : Nat → Int32} {i : Int32} (ha : h a = some (.inl (1, n, .inl f))) (hi : i = nI j) (hj : j < n) (hn : n < 2147483648) (kk : QW V iX9_takeOver 236 [a0, a1, a2, a3] (.int (f j) :: st) h z bc bs Kr Kx) : QW V iX9_takeOver 235 [a0, a1, a2, a3] (.int i :: .ref a :: st) h z bc bs Kr Kx := q_iald dX9_takeOver_235 ha hi hj hn kk
theorem dX9_takeOver_236 : decode (i_b iX9_takeOver) 236 = .ok (.i2l, 1) := by decide +kernel
theorem wX9_takeOver_236 {x : Int32} (kk : QW V iX9_takeOver 237 [a0, a1, a2, a3] (.long (x.toInt64) :: st) h z bc bs Kr Kx) : QW V iX9_takeOver 236 [a0, a1, a2, a3] (.int x :: st) h z bc bs Kr Kx := q_i2l dX9_takeOver_236 kk
theorem dX9_takeOver_237 : decode (i_b iX9_takeOver) 237 = .ok (.lastore, 1) := by decide +kernel
theorem wX9_takeOver_237 {a n j : Nat} {f : Nat → Int64} {i : Int32} {x : Int64} (ha : h a = some (.inl (2, n, .inr (.inl f)))) (hi : i = nI j) (hj : j < n) (hn : n < 2147483648) (kk : QW V iX9_takeOver 238 [a0, a1, a2, a3] (st) (q_up h a (.inl (2, n, .inr (.inl (vp_updL f j x))))) z bc bs Kr Kx) : QW V iX9_takeOver 237 [a0, a1, a2, a3] (.long x :: .int i :: .ref a :: st) h z bc bs Kr Kx := q_last dX9_takeOver_237 ha hi hj hn kk
theorem wX9_takeOver_237u {a n j : Nat} {f : Nat → Int64} {i : Int32} {x : Int64} (hi : i = nI j) (hj : j < n) (hn : n < 2147483648) (kk : QW V iX9_takeOver 238 [a0, a1, a2, a3] (st) (q_up h a (.inl (2, n, .inr (.inl (vp_updL f j x))))) z bc bs Kr Kx) : QW V iX9_takeOver 237 [a0, a1, a2, a3] (.long x :: .int i :: .ref a :: st) (q_up h a (.inl (2, n, .inr (.inl f)))) z bc bs Kr Kx := wX9_takeOver_237 q_up_s hi hj hn (by rw [q_up_u]; exact kk)
theorem dX9_takeOver_238 : decode (i_b iX9_takeOver) 238 = .ok (.aload_n 0, 1) := by decide +kernel
theorem wX9_takeOver_238 {x : Nat} (kk : QW V iX9_takeOver 239 [some (.ref x), a1, a2, a3] (.ref x :: st) h z bc bs Kr Kx) : QW V iX9_takeOver 238 [some (.ref x), a1, a2, a3] (st) h z bc bs Kr Kx := q_aload_n dX9_takeOver_238 rfl rfl kk
theorem dX9_takeOver_239 : decode (i_b iX9_takeOver) 239 = .ok (.getfield 7, 3) := by decide +kernel
theorem wX9_takeOver_239 {o : Nat} {m : Nat → Int32} (ha : h o = some (.inr (10, q_MF o m))) (kk : QW V iX9_takeOver 242 [a0, a1, a2, a3] (.ref (o + 1) :: st) h z bc bs Kr Kx) : QW V iX9_takeOver 239 [a0, a1, a2, a3] (.ref o :: st) h z bc bs Kr Kx := q_getf (k := 0) dX9_takeOver_239 klX9 rfl (Nat.le_of_ble_eq_true rfl : 0 < 35) k5_213 rfl ha rfl kk
theorem wX9_takeOver_239u {o : Nat} {m : Nat → Int32} (kk : QW V iX9_takeOver 242 [a0, a1, a2, a3] (.ref (o + 1) :: st) (q_up h o (.inr (10, q_MF o m))) z bc bs Kr Kx) : QW V iX9_takeOver 239 [a0, a1, a2, a3] (.ref o :: st) (q_up h o (.inr (10, q_MF o m))) z bc bs Kr Kx := wX9_takeOver_239 q_up_s kk
theorem dX9_takeOver_242 : decode (i_b iX9_takeOver) 242 = .ok (.iload_n 2, 1) := by decide +kernel
theorem wX9_takeOver_242 {x : Int32} (kk : QW V iX9_takeOver 243 [a0, a1, some (.int x), a3] (.int x :: st) h z bc bs Kr Kx) : QW V iX9_takeOver 242 [a0, a1, some (.int x), a3] (st) h z bc bs Kr Kx := q_iload_n dX9_takeOver_242 rfl rfl kk
theorem dX9_takeOver_243 : decode (i_b iX9_takeOver) 243 = .ok (.iconst 1, 1) := by decide +kernel
theorem wX9_takeOver_243  (kk : QW V iX9_takeOver 244 [a0, a1, a2, a3] (.int (1) :: st) h z bc bs Kr Kx) : QW V iX9_takeOver 243 [a0, a1, a2, a3] (st) h z bc bs Kr Kx := q_iconst dX9_takeOver_243 (by decide) kk
theorem dX9_takeOver_244 : decode (i_b iX9_takeOver) 244 = .ok (.iadd, 1) := by decide +kernel
theorem wX9_takeOver_244 {x y : Int32} (kk : QW V iX9_takeOver 245 [a0, a1, a2, a3] (.int (x + y) :: st) h z bc bs Kr Kx) : QW V iX9_takeOver 244 [a0, a1, a2, a3] (.int y :: .int x :: st) h z bc bs Kr Kx := q_iadd dX9_takeOver_244 kk
theorem dX9_takeOver_245 : decode (i_b iX9_takeOver) 245 = .ok (.aload_n 0, 1) := by decide +kernel
theorem wX9_takeOver_245 {x : Nat} (kk : QW V iX9_takeOver 246 [some (.ref x), a1, a2, a3] (.ref x :: st) h z bc bs Kr Kx) : QW V iX9_takeOver 245 [some (.ref x), a1, a2, a3] (st) h z bc bs Kr Kx := q_aload_n dX9_takeOver_245 rfl rfl kk
theorem dX9_takeOver_246 : decode (i_b iX9_takeOver) 246 = .ok (.getfield 36, 3) := by decide +kernel
theorem wX9_takeOver_246 {o : Nat} {m : Nat → Int32} (ha : h o = some (.inr (10, q_MF o m))) (kk : QW V iX9_takeOver 249 [a0, a1, a2, a3] (.ref (o + 8) :: st) h z bc bs Kr Kx) : QW V iX9_takeOver 246 [a0, a1, a2, a3] (.ref o :: st) h z bc bs Kr Kx := q_getf (k := 27) dX9_takeOver_246 klX9 rfl (Nat.le_of_ble_eq_true rfl : 27 < 35) k6_0 rfl ha rfl kk
theorem wX9_takeOver_246u {o : Nat} {m : Nat → Int32} (kk : QW V iX9_takeOver 249 [a0, a1, a2, a3] (.ref (o + 8) :: st) (q_up h o (.inr (10, q_MF o m))) z bc bs Kr Kx) : QW V iX9_takeOver 246 [a0, a1, a2, a3] (.ref o :: st) (q_up h o (.inr (10, q_MF o m))) z bc bs Kr Kx := wX9_takeOver_246 q_up_s kk
theorem dX9_takeOver_249 : decode (i_b iX9_takeOver) 249 = .ok (.bipush 9, 2) := by decide +kernel
theorem wX9_takeOver_249  (kk : QW V iX9_takeOver 251 [a0, a1, a2, a3] (.int (9) :: st) h z bc bs Kr Kx) : QW V iX9_takeOver 249 [a0, a1, a2, a3] (st) h z bc bs Kr Kx := q_bipush dX9_takeOver_249 (by decide) kk
theorem dX9_takeOver_251 : decode (i_b iX9_takeOver) 251 = .ok (.iload_n 1, 1) := by decide +kernel
theorem wX9_takeOver_251 {x : Int32} (kk : QW V iX9_takeOver 252 [a0, some (.int x), a2, a3] (.int x :: st) h z bc bs Kr Kx) : QW V iX9_takeOver 251 [a0, some (.int x), a2, a3] (st) h z bc bs Kr Kx := q_iload_n dX9_takeOver_251 rfl rfl kk
theorem dX9_takeOver_252 : decode (i_b iX9_takeOver) 252 = .ok (.imul, 1) := by decide +kernel
theorem wX9_takeOver_252 {x y : Int32} (kk : QW V iX9_takeOver 253 [a0, a1, a2, a3] (.int (x * y) :: st) h z bc bs Kr Kx) : QW V iX9_takeOver 252 [a0, a1, a2, a3] (.int y :: .int x :: st) h z bc bs Kr Kx := q_imul dX9_takeOver_252 kk
theorem dX9_takeOver_253 : decode (i_b iX9_takeOver) 253 = .ok (.iaload, 1) := by decide +kernel
theorem wX9_takeOver_253 {a n j : Nat} {f : Nat → Int32} {i : Int32} (ha : h a = some (.inl (1, n, .inl f))) (hi : i = nI j) (hj : j < n) (hn : n < 2147483648) (kk : QW V iX9_takeOver 254 [a0, a1, a2, a3] (.int (f j) :: st) h z bc bs Kr Kx) : QW V iX9_takeOver 253 [a0, a1, a2, a3] (.int i :: .ref a :: st) h z bc bs Kr Kx := q_iald dX9_takeOver_253 ha hi hj hn kk
theorem dX9_takeOver_254 : decode (i_b iX9_takeOver) 254 = .ok (.i2l, 1) := by decide +kernel
theorem wX9_takeOver_254 {x : Int32} (kk : QW V iX9_takeOver 255 [a0, a1, a2, a3] (.long (x.toInt64) :: st) h z bc bs Kr Kx) : QW V iX9_takeOver 254 [a0, a1, a2, a3] (.int x :: st) h z bc bs Kr Kx := q_i2l dX9_takeOver_254 kk
theorem dX9_takeOver_255 : decode (i_b iX9_takeOver) 255 = .ok (.lastore, 1) := by decide +kernel
theorem wX9_takeOver_255 {a n j : Nat} {f : Nat → Int64} {i : Int32} {x : Int64} (ha : h a = some (.inl (2, n, .inr (.inl f)))) (hi : i = nI j) (hj : j < n) (hn : n < 2147483648) (kk : QW V iX9_takeOver 256 [a0, a1, a2, a3] (st) (q_up h a (.inl (2, n, .inr (.inl (vp_updL f j x))))) z bc bs Kr Kx) : QW V iX9_takeOver 255 [a0, a1, a2, a3] (.long x :: .int i :: .ref a :: st) h z bc bs Kr Kx := q_last dX9_takeOver_255 ha hi hj hn kk
theorem wX9_takeOver_255u {a n j : Nat} {f : Nat → Int64} {i : Int32} {x : Int64} (hi : i = nI j) (hj : j < n) (hn : n < 2147483648) (kk : QW V iX9_takeOver 256 [a0, a1, a2, a3] (st) (q_up h a (.inl (2, n, .inr (.inl (vp_updL f j x))))) z bc bs Kr Kx) : QW V iX9_takeOver 255 [a0, a1, a2, a3] (.long x :: .int i :: .ref a :: st) (q_up h a (.inl (2, n, .inr (.inl f)))) z bc bs Kr Kx := wX9_takeOver_255 q_up_s hi hj hn (by rw [q_up_u]; exact kk)
theorem dX9_takeOver_256 : decode (i_b iX9_takeOver) 256 = .ok (.iconst 1, 1) := by decide +kernel
theorem wX9_takeOver_256  (kk : QW V iX9_takeOver 257 [a0, a1, a2, a3] (.int (1) :: st) h z bc bs Kr Kx) : QW V iX9_takeOver 256 [a0, a1, a2, a3] (st) h z bc bs Kr Kx := q_iconst dX9_takeOver_256 (by decide) kk
theorem dX9_takeOver_257 : decode (i_b iX9_takeOver) 257 = .ok (.istore_n 3, 1) := by decide +kernel
theorem wX9_takeOver_257 {x : Int32} (kk : QW V iX9_takeOver 258 [a0, a1, a2, some (.int x)] (st) h z bc bs Kr Kx) (hp : q_n2 a2 = true := by rfl) : QW V iX9_takeOver 257 [a0, a1, a2, a3] (.int x :: st) h z bc bs Kr Kx := q_istore_n dX9_takeOver_257 rfl (Nat.le_of_ble_eq_true rfl) hp kk
theorem dX9_takeOver_258 : decode (i_b iX9_takeOver) 258 = .ok (.iload_n 3, 1) := by decide +kernel
theorem wX9_takeOver_258 {x : Int32} (kk : QW V iX9_takeOver 259 [a0, a1, a2, some (.int x)] (.int x :: st) h z bc bs Kr Kx) : QW V iX9_takeOver 258 [a0, a1, a2, some (.int x)] (st) h z bc bs Kr Kx := q_iload_n dX9_takeOver_258 rfl rfl kk
theorem dX9_takeOver_259 : decode (i_b iX9_takeOver) 259 = .ok (.bipush 6, 2) := by decide +kernel
theorem wX9_takeOver_259  (kk : QW V iX9_takeOver 261 [a0, a1, a2, a3] (.int (6) :: st) h z bc bs Kr Kx) : QW V iX9_takeOver 259 [a0, a1, a2, a3] (st) h z bc bs Kr Kx := q_bipush dX9_takeOver_259 (by decide) kk
theorem dX9_takeOver_261 : decode (i_b iX9_takeOver) 261 = .ok (.if_icmp .ge 31, 3) := by decide +kernel
theorem wX9_takeOver_261 {x y : Int32} (kt : y ≤ x → QW V iX9_takeOver 292 [a0, a1, a2, a3] (st) h z bc bs Kr Kx) (kf : ¬ y ≤ x → QW V iX9_takeOver 264 [a0, a1, a2, a3] (st) h z bc bs Kr Kx) : QW V iX9_takeOver 261 [a0, a1, a2, a3] (.int y :: .int x :: st) h z bc bs Kr Kx := q_icmp_ge dX9_takeOver_261 (by decide) kt kf
theorem dX9_takeOver_264 : decode (i_b iX9_takeOver) 264 = .ok (.aload_n 0, 1) := by decide +kernel
theorem wX9_takeOver_264 {x : Nat} (kk : QW V iX9_takeOver 265 [some (.ref x), a1, a2, a3] (.ref x :: st) h z bc bs Kr Kx) : QW V iX9_takeOver 264 [some (.ref x), a1, a2, a3] (st) h z bc bs Kr Kx := q_aload_n dX9_takeOver_264 rfl rfl kk
theorem dX9_takeOver_265 : decode (i_b iX9_takeOver) 265 = .ok (.getfield 7, 3) := by decide +kernel
theorem wX9_takeOver_265 {o : Nat} {m : Nat → Int32} (ha : h o = some (.inr (10, q_MF o m))) (kk : QW V iX9_takeOver 268 [a0, a1, a2, a3] (.ref (o + 1) :: st) h z bc bs Kr Kx) : QW V iX9_takeOver 265 [a0, a1, a2, a3] (.ref o :: st) h z bc bs Kr Kx := q_getf (k := 0) dX9_takeOver_265 klX9 rfl (Nat.le_of_ble_eq_true rfl : 0 < 35) k5_213 rfl ha rfl kk
theorem wX9_takeOver_265u {o : Nat} {m : Nat → Int32} (kk : QW V iX9_takeOver 268 [a0, a1, a2, a3] (.ref (o + 1) :: st) (q_up h o (.inr (10, q_MF o m))) z bc bs Kr Kx) : QW V iX9_takeOver 265 [a0, a1, a2, a3] (.ref o :: st) (q_up h o (.inr (10, q_MF o m))) z bc bs Kr Kx := wX9_takeOver_265 q_up_s kk
theorem dX9_takeOver_268 : decode (i_b iX9_takeOver) 268 = .ok (.iload_n 2, 1) := by decide +kernel
theorem wX9_takeOver_268 {x : Int32} (kk : QW V iX9_takeOver 269 [a0, a1, some (.int x), a3] (.int x :: st) h z bc bs Kr Kx) : QW V iX9_takeOver 268 [a0, a1, some (.int x), a3] (st) h z bc bs Kr Kx := q_iload_n dX9_takeOver_268 rfl rfl kk
theorem dX9_takeOver_269 : decode (i_b iX9_takeOver) 269 = .ok (.iconst 2, 1) := by decide +kernel
theorem wX9_takeOver_269  (kk : QW V iX9_takeOver 270 [a0, a1, a2, a3] (.int (2) :: st) h z bc bs Kr Kx) : QW V iX9_takeOver 269 [a0, a1, a2, a3] (st) h z bc bs Kr Kx := q_iconst dX9_takeOver_269 (by decide) kk
theorem dX9_takeOver_270 : decode (i_b iX9_takeOver) 270 = .ok (.iadd, 1) := by decide +kernel
theorem wX9_takeOver_270 {x y : Int32} (kk : QW V iX9_takeOver 271 [a0, a1, a2, a3] (.int (x + y) :: st) h z bc bs Kr Kx) : QW V iX9_takeOver 270 [a0, a1, a2, a3] (.int y :: .int x :: st) h z bc bs Kr Kx := q_iadd dX9_takeOver_270 kk
theorem dX9_takeOver_271 : decode (i_b iX9_takeOver) 271 = .ok (.iload_n 3, 1) := by decide +kernel
theorem wX9_takeOver_271 {x : Int32} (kk : QW V iX9_takeOver 272 [a0, a1, a2, some (.int x)] (.int x :: st) h z bc bs Kr Kx) : QW V iX9_takeOver 271 [a0, a1, a2, some (.int x)] (st) h z bc bs Kr Kx := q_iload_n dX9_takeOver_271 rfl rfl kk
theorem dX9_takeOver_272 : decode (i_b iX9_takeOver) 272 = .ok (.iadd, 1) := by decide +kernel
theorem wX9_takeOver_272 {x y : Int32} (kk : QW V iX9_takeOver 273 [a0, a1, a2, a3] (.int (x + y) :: st) h z bc bs Kr Kx) : QW V iX9_takeOver 272 [a0, a1, a2, a3] (.int y :: .int x :: st) h z bc bs Kr Kx := q_iadd dX9_takeOver_272 kk
theorem dX9_takeOver_273 : decode (i_b iX9_takeOver) 273 = .ok (.aload_n 0, 1) := by decide +kernel
theorem wX9_takeOver_273 {x : Nat} (kk : QW V iX9_takeOver 274 [some (.ref x), a1, a2, a3] (.ref x :: st) h z bc bs Kr Kx) : QW V iX9_takeOver 273 [some (.ref x), a1, a2, a3] (st) h z bc bs Kr Kx := q_aload_n dX9_takeOver_273 rfl rfl kk
theorem dX9_takeOver_274 : decode (i_b iX9_takeOver) 274 = .ok (.getfield 36, 3) := by decide +kernel
theorem wX9_takeOver_274 {o : Nat} {m : Nat → Int32} (ha : h o = some (.inr (10, q_MF o m))) (kk : QW V iX9_takeOver 277 [a0, a1, a2, a3] (.ref (o + 8) :: st) h z bc bs Kr Kx) : QW V iX9_takeOver 274 [a0, a1, a2, a3] (.ref o :: st) h z bc bs Kr Kx := q_getf (k := 27) dX9_takeOver_274 klX9 rfl (Nat.le_of_ble_eq_true rfl : 27 < 35) k6_0 rfl ha rfl kk
theorem wX9_takeOver_274u {o : Nat} {m : Nat → Int32} (kk : QW V iX9_takeOver 277 [a0, a1, a2, a3] (.ref (o + 8) :: st) (q_up h o (.inr (10, q_MF o m))) z bc bs Kr Kx) : QW V iX9_takeOver 274 [a0, a1, a2, a3] (.ref o :: st) (q_up h o (.inr (10, q_MF o m))) z bc bs Kr Kx := wX9_takeOver_274 q_up_s kk
theorem dX9_takeOver_277 : decode (i_b iX9_takeOver) 277 = .ok (.bipush 9, 2) := by decide +kernel
theorem wX9_takeOver_277  (kk : QW V iX9_takeOver 279 [a0, a1, a2, a3] (.int (9) :: st) h z bc bs Kr Kx) : QW V iX9_takeOver 277 [a0, a1, a2, a3] (st) h z bc bs Kr Kx := q_bipush dX9_takeOver_277 (by decide) kk
theorem dX9_takeOver_279 : decode (i_b iX9_takeOver) 279 = .ok (.iload_n 1, 1) := by decide +kernel
theorem wX9_takeOver_279 {x : Int32} (kk : QW V iX9_takeOver 280 [a0, some (.int x), a2, a3] (.int x :: st) h z bc bs Kr Kx) : QW V iX9_takeOver 279 [a0, some (.int x), a2, a3] (st) h z bc bs Kr Kx := q_iload_n dX9_takeOver_279 rfl rfl kk
theorem dX9_takeOver_280 : decode (i_b iX9_takeOver) 280 = .ok (.imul, 1) := by decide +kernel
theorem wX9_takeOver_280 {x y : Int32} (kk : QW V iX9_takeOver 281 [a0, a1, a2, a3] (.int (x * y) :: st) h z bc bs Kr Kx) : QW V iX9_takeOver 280 [a0, a1, a2, a3] (.int y :: .int x :: st) h z bc bs Kr Kx := q_imul dX9_takeOver_280 kk
theorem dX9_takeOver_281 : decode (i_b iX9_takeOver) 281 = .ok (.iload_n 3, 1) := by decide +kernel
theorem wX9_takeOver_281 {x : Int32} (kk : QW V iX9_takeOver 282 [a0, a1, a2, some (.int x)] (.int x :: st) h z bc bs Kr Kx) : QW V iX9_takeOver 281 [a0, a1, a2, some (.int x)] (st) h z bc bs Kr Kx := q_iload_n dX9_takeOver_281 rfl rfl kk
theorem dX9_takeOver_282 : decode (i_b iX9_takeOver) 282 = .ok (.iadd, 1) := by decide +kernel
theorem wX9_takeOver_282 {x y : Int32} (kk : QW V iX9_takeOver 283 [a0, a1, a2, a3] (.int (x + y) :: st) h z bc bs Kr Kx) : QW V iX9_takeOver 282 [a0, a1, a2, a3] (.int y :: .int x :: st) h z bc bs Kr Kx := q_iadd dX9_takeOver_282 kk
theorem dX9_takeOver_283 : decode (i_b iX9_takeOver) 283 = .ok (.iaload, 1) := by decide +kernel
theorem wX9_takeOver_283 {a n j : Nat} {f : Nat → Int32} {i : Int32} (ha : h a = some (.inl (1, n, .inl f))) (hi : i = nI j) (hj : j < n) (hn : n < 2147483648) (kk : QW V iX9_takeOver 284 [a0, a1, a2, a3] (.int (f j) :: st) h z bc bs Kr Kx) : QW V iX9_takeOver 283 [a0, a1, a2, a3] (.int i :: .ref a :: st) h z bc bs Kr Kx := q_iald dX9_takeOver_283 ha hi hj hn kk
theorem dX9_takeOver_284 : decode (i_b iX9_takeOver) 284 = .ok (.i2l, 1) := by decide +kernel
theorem wX9_takeOver_284 {x : Int32} (kk : QW V iX9_takeOver 285 [a0, a1, a2, a3] (.long (x.toInt64) :: st) h z bc bs Kr Kx) : QW V iX9_takeOver 284 [a0, a1, a2, a3] (.int x :: st) h z bc bs Kr Kx := q_i2l dX9_takeOver_284 kk
theorem dX9_takeOver_285 : decode (i_b iX9_takeOver) 285 = .ok (.lastore, 1) := by decide +kernel
theorem wX9_takeOver_285 {a n j : Nat} {f : Nat → Int64} {i : Int32} {x : Int64} (ha : h a = some (.inl (2, n, .inr (.inl f)))) (hi : i = nI j) (hj : j < n) (hn : n < 2147483648) (kk : QW V iX9_takeOver 286 [a0, a1, a2, a3] (st) (q_up h a (.inl (2, n, .inr (.inl (vp_updL f j x))))) z bc bs Kr Kx) : QW V iX9_takeOver 285 [a0, a1, a2, a3] (.long x :: .int i :: .ref a :: st) h z bc bs Kr Kx := q_last dX9_takeOver_285 ha hi hj hn kk
theorem wX9_takeOver_285u {a n j : Nat} {f : Nat → Int64} {i : Int32} {x : Int64} (hi : i = nI j) (hj : j < n) (hn : n < 2147483648) (kk : QW V iX9_takeOver 286 [a0, a1, a2, a3] (st) (q_up h a (.inl (2, n, .inr (.inl (vp_updL f j x))))) z bc bs Kr Kx) : QW V iX9_takeOver 285 [a0, a1, a2, a3] (.long x :: .int i :: .ref a :: st) (q_up h a (.inl (2, n, .inr (.inl f)))) z bc bs Kr Kx := wX9_takeOver_285 q_up_s hi hj hn (by rw [q_up_u]; exact kk)
theorem dX9_takeOver_286 : decode (i_b iX9_takeOver) 286 = .ok (.iinc 3 1, 3) := by decide +kernel
theorem wX9_takeOver_286 {x : Int32} (kk : QW V iX9_takeOver 289 [a0, a1, a2, some (.int (x + (1)))] (st) h z bc bs Kr Kx) (hp : q_n2 a2 = true := by rfl) : QW V iX9_takeOver 286 [a0, a1, a2, some (.int x)] (st) h z bc bs Kr Kx := q_iinc (v := x + (1)) dX9_takeOver_286 rfl rfl (Nat.le_of_ble_eq_true rfl) hp kk
theorem dX9_takeOver_289 : decode (i_b iX9_takeOver) 289 = .ok (.goto (-31), 3) := by decide +kernel
theorem wX9_takeOver_289  (kk : QW V iX9_takeOver 258 [a0, a1, a2, a3] (st) h z bc bs Kr Kx) : QW V iX9_takeOver 289 [a0, a1, a2, a3] (st) h z bc bs Kr Kx := q_goto dX9_takeOver_289 (by decide) kk
theorem dX9_takeOver_292 : decode (i_b iX9_takeOver) 292 = .ok (.aload_n 0, 1) := by decide +kernel
theorem wX9_takeOver_292 {x : Nat} (kk : QW V iX9_takeOver 293 [some (.ref x), a1, a2, a3] (.ref x :: st) h z bc bs Kr Kx) : QW V iX9_takeOver 292 [some (.ref x), a1, a2, a3] (st) h z bc bs Kr Kx := q_aload_n dX9_takeOver_292 rfl rfl kk
theorem dX9_takeOver_293 : decode (i_b iX9_takeOver) 293 = .ok (.getfield 7, 3) := by decide +kernel
theorem wX9_takeOver_293 {o : Nat} {m : Nat → Int32} (ha : h o = some (.inr (10, q_MF o m))) (kk : QW V iX9_takeOver 296 [a0, a1, a2, a3] (.ref (o + 1) :: st) h z bc bs Kr Kx) : QW V iX9_takeOver 293 [a0, a1, a2, a3] (.ref o :: st) h z bc bs Kr Kx := q_getf (k := 0) dX9_takeOver_293 klX9 rfl (Nat.le_of_ble_eq_true rfl : 0 < 35) k5_213 rfl ha rfl kk
theorem wX9_takeOver_293u {o : Nat} {m : Nat → Int32} (kk : QW V iX9_takeOver 296 [a0, a1, a2, a3] (.ref (o + 1) :: st) (q_up h o (.inr (10, q_MF o m))) z bc bs Kr Kx) : QW V iX9_takeOver 293 [a0, a1, a2, a3] (.ref o :: st) (q_up h o (.inr (10, q_MF o m))) z bc bs Kr Kx := wX9_takeOver_293 q_up_s kk
theorem dX9_takeOver_296 : decode (i_b iX9_takeOver) 296 = .ok (.iload_n 2, 1) := by decide +kernel
theorem wX9_takeOver_296 {x : Int32} (kk : QW V iX9_takeOver 297 [a0, a1, some (.int x), a3] (.int x :: st) h z bc bs Kr Kx) : QW V iX9_takeOver 296 [a0, a1, some (.int x), a3] (st) h z bc bs Kr Kx := q_iload_n dX9_takeOver_296 rfl rfl kk
theorem dX9_takeOver_297 : decode (i_b iX9_takeOver) 297 = .ok (.bipush 9, 2) := by decide +kernel
theorem wX9_takeOver_297  (kk : QW V iX9_takeOver 299 [a0, a1, a2, a3] (.int (9) :: st) h z bc bs Kr Kx) : QW V iX9_takeOver 297 [a0, a1, a2, a3] (st) h z bc bs Kr Kx := q_bipush dX9_takeOver_297 (by decide) kk
theorem dX9_takeOver_299 : decode (i_b iX9_takeOver) 299 = .ok (.iadd, 1) := by decide +kernel
theorem wX9_takeOver_299 {x y : Int32} (kk : QW V iX9_takeOver 300 [a0, a1, a2, a3] (.int (x + y) :: st) h z bc bs Kr Kx) : QW V iX9_takeOver 299 [a0, a1, a2, a3] (.int y :: .int x :: st) h z bc bs Kr Kx := q_iadd dX9_takeOver_299 kk
theorem dX9_takeOver_300 : decode (i_b iX9_takeOver) 300 = .ok (.lconst 1, 1) := by decide +kernel
theorem wX9_takeOver_300  (kk : QW V iX9_takeOver 301 [a0, a1, a2, a3] (.long (1) :: st) h z bc bs Kr Kx) : QW V iX9_takeOver 300 [a0, a1, a2, a3] (st) h z bc bs Kr Kx := q_lconst dX9_takeOver_300 (by decide) kk
theorem dX9_takeOver_301 : decode (i_b iX9_takeOver) 301 = .ok (.lastore, 1) := by decide +kernel
theorem wX9_takeOver_301 {a n j : Nat} {f : Nat → Int64} {i : Int32} {x : Int64} (ha : h a = some (.inl (2, n, .inr (.inl f)))) (hi : i = nI j) (hj : j < n) (hn : n < 2147483648) (kk : QW V iX9_takeOver 302 [a0, a1, a2, a3] (st) (q_up h a (.inl (2, n, .inr (.inl (vp_updL f j x))))) z bc bs Kr Kx) : QW V iX9_takeOver 301 [a0, a1, a2, a3] (.long x :: .int i :: .ref a :: st) h z bc bs Kr Kx := q_last dX9_takeOver_301 ha hi hj hn kk
theorem wX9_takeOver_301u {a n j : Nat} {f : Nat → Int64} {i : Int32} {x : Int64} (hi : i = nI j) (hj : j < n) (hn : n < 2147483648) (kk : QW V iX9_takeOver 302 [a0, a1, a2, a3] (st) (q_up h a (.inl (2, n, .inr (.inl (vp_updL f j x))))) z bc bs Kr Kx) : QW V iX9_takeOver 301 [a0, a1, a2, a3] (.long x :: .int i :: .ref a :: st) (q_up h a (.inl (2, n, .inr (.inl f)))) z bc bs Kr Kx := wX9_takeOver_301 q_up_s hi hj hn (by rw [q_up_u]; exact kk)
theorem dX9_takeOver_302 : decode (i_b iX9_takeOver) 302 = .ok (.iinc 1 1, 3) := by decide +kernel
theorem wX9_takeOver_302 {x : Int32} (kk : QW V iX9_takeOver 305 [a0, some (.int (x + (1))), a2, a3] (st) h z bc bs Kr Kx) (hp : q_n2 a0 = true := by rfl) : QW V iX9_takeOver 302 [a0, some (.int x), a2, a3] (st) h z bc bs Kr Kx := q_iinc (v := x + (1)) dX9_takeOver_302 rfl rfl (Nat.le_of_ble_eq_true rfl) hp kk
theorem dX9_takeOver_305 : decode (i_b iX9_takeOver) 305 = .ok (.goto (-99), 3) := by decide +kernel
theorem wX9_takeOver_305  (kk : QW V iX9_takeOver 206 [a0, a1, a2, a3] (st) h z bc bs Kr Kx) : QW V iX9_takeOver 305 [a0, a1, a2, a3] (st) h z bc bs Kr Kx := q_goto dX9_takeOver_305 (by decide) kk
theorem dX9_takeOver_308 : decode (i_b iX9_takeOver) 308 = .ok (.return_, 1) := by decide +kernel
theorem wX9_takeOver_308 {P : q_H → Option Nat → Prop} (hk : P h z) : QW V iX9_takeOver 308 [a0, a1, a2, a3] [] h z bc bs (q_Kv P) Kx := q_vret dX9_takeOver_308 rfl ⟨rfl, hk⟩
theorem eX9_errorPosition {o : Nat} {P : Int32 → q_H → Option Nat → Prop} (kk : QW V iX9_errorPosition 0 [some (.ref o)] [] h z 0 0 (q_Ki P) Kx) : QMi V iX9_errorPosition [.ref o] h z P Kx := q_enter rfl (by decide +kernel) rfl (Nat.le_of_ble_eq_true rfl) kk
theorem dX9_errorPosition_0 : decode (i_b iX9_errorPosition) 0 = .ok (.aload_n 0, 1) := by decide +kernel
theorem wX9_errorPosition_0 {x : Nat} (kk : QW V iX9_errorPosition 1 [some (.ref x)] (.ref x :: st) h z bc bs Kr Kx) : QW V iX9_errorPosition 0 [some (.ref x)] (st) h z bc bs Kr Kx := q_aload_n dX9_errorPosition_0 rfl rfl kk
theorem dX9_errorPosition_1 : decode (i_b iX9_errorPosition) 1 = .ok (.iconst 0, 1) := by decide +kernel
theorem wX9_errorPosition_1  (kk : QW V iX9_errorPosition 2 [a0] (.int (0) :: st) h z bc bs Kr Kx) : QW V iX9_errorPosition 1 [a0] (st) h z bc bs Kr Kx := q_iconst dX9_errorPosition_1 (by decide) kk
theorem dX9_errorPosition_2 : decode (i_b iX9_errorPosition) 2 = .ok (.putfield 51, 3) := by decide +kernel
theorem wX9_errorPosition_2 {o : Nat} {m : Nat → Int32} {x : Int32} (ha : h o = some (.inr (10, q_MF o m))) (kk : QW V iX9_errorPosition 5 [a0] (st) (q_up h o (.inr (10, q_MF o (upd m 4 x)))) z bc bs Kr Kx) : QW V iX9_errorPosition 2 [a0] (.int x :: .ref o :: st) h z bc bs Kr Kx := q_putf (k := 4) tyX9 dX9_errorPosition_2 klX9 tyX9_ok nmX9 rfl (Nat.le_of_ble_eq_true rfl : 4 < 35) k5_217 rfl rfl rfl rfl (Nat.le_of_ble_eq_true rfl) ha (by rw [q_MF_4]; exact kk)
theorem wX9_errorPosition_2u {o : Nat} {m : Nat → Int32} {x : Int32} (kk : QW V iX9_errorPosition 5 [a0] (st) (q_up h o (.inr (10, q_MF o (upd m 4 x)))) z bc bs Kr Kx) : QW V iX9_errorPosition 2 [a0] (.int x :: .ref o :: st) (q_up h o (.inr (10, q_MF o m))) z bc bs Kr Kx := wX9_errorPosition_2 q_up_s (by rw [q_up_u]; exact kk)
theorem dX9_errorPosition_5 : decode (i_b iX9_errorPosition) 5 = .ok (.aload_n 0, 1) := by decide +kernel
theorem wX9_errorPosition_5 {x : Nat} (kk : QW V iX9_errorPosition 6 [some (.ref x)] (.ref x :: st) h z bc bs Kr Kx) : QW V iX9_errorPosition 5 [some (.ref x)] (st) h z bc bs Kr Kx := q_aload_n dX9_errorPosition_5 rfl rfl kk
theorem dX9_errorPosition_6 : decode (i_b iX9_errorPosition) 6 = .ok (.getfield 26, 3) := by decide +kernel
theorem wX9_errorPosition_6 {o : Nat} {m : Nat → Int32} (ha : h o = some (.inr (10, q_MF o m))) (kk : QW V iX9_errorPosition 9 [a0] (.int (m 23) :: st) h z bc bs Kr Kx) : QW V iX9_errorPosition 6 [a0] (.ref o :: st) h z bc bs Kr Kx := q_getf (k := 23) dX9_errorPosition_6 klX9 rfl (Nat.le_of_ble_eq_true rfl : 23 < 35) k5_236 rfl ha rfl kk
theorem wX9_errorPosition_6u {o : Nat} {m : Nat → Int32} (kk : QW V iX9_errorPosition 9 [a0] (.int (m 23) :: st) (q_up h o (.inr (10, q_MF o m))) z bc bs Kr Kx) : QW V iX9_errorPosition 6 [a0] (.ref o :: st) (q_up h o (.inr (10, q_MF o m))) z bc bs Kr Kx := wX9_errorPosition_6 q_up_s kk
theorem dX9_errorPosition_9 : decode (i_b iX9_errorPosition) 9 = .ok (.ireturn, 1) := by decide +kernel
theorem wX9_errorPosition_9 {x : Int32} {P : Int32 → q_H → Option Nat → Prop} (hk : P x h z) : QW V iX9_errorPosition 9 [a0] [.int x] h z bc bs (q_Ki P) Kx := q_iret dX9_errorPosition_9 rfl rfl ⟨x, rfl, hk⟩
theorem eX9_ofPlayer {o : Nat} {x0 : Int32} {x1 : Int32} {P : Int32 → q_H → Option Nat → Prop} (kk : QW V iX9_ofPlayer 0 [some (.ref o), some (.int x0), some (.int x1)] [] h z 0 0 (q_Ki P) Kx) : QMi V iX9_ofPlayer [.ref o, .int x0, .int x1] h z P Kx := q_enter rfl (by decide +kernel) rfl (Nat.le_of_ble_eq_true rfl) kk
theorem dX9_ofPlayer_0 : decode (i_b iX9_ofPlayer) 0 = .ok (.aload_n 0, 1) := by decide +kernel
theorem wX9_ofPlayer_0 {x : Nat} (kk : QW V iX9_ofPlayer 1 [some (.ref x), a1, a2] (.ref x :: st) h z bc bs Kr Kx) : QW V iX9_ofPlayer 0 [some (.ref x), a1, a2] (st) h z bc bs Kr Kx := q_aload_n dX9_ofPlayer_0 rfl rfl kk
theorem dX9_ofPlayer_1 : decode (i_b iX9_ofPlayer) 1 = .ok (.getfield 7, 3) := by decide +kernel
theorem wX9_ofPlayer_1 {o : Nat} {m : Nat → Int32} (ha : h o = some (.inr (10, q_MF o m))) (kk : QW V iX9_ofPlayer 4 [a0, a1, a2] (.ref (o + 1) :: st) h z bc bs Kr Kx) : QW V iX9_ofPlayer 1 [a0, a1, a2] (.ref o :: st) h z bc bs Kr Kx := q_getf (k := 0) dX9_ofPlayer_1 klX9 rfl (Nat.le_of_ble_eq_true rfl : 0 < 35) k5_213 rfl ha rfl kk
theorem wX9_ofPlayer_1u {o : Nat} {m : Nat → Int32} (kk : QW V iX9_ofPlayer 4 [a0, a1, a2] (.ref (o + 1) :: st) (q_up h o (.inr (10, q_MF o m))) z bc bs Kr Kx) : QW V iX9_ofPlayer 1 [a0, a1, a2] (.ref o :: st) (q_up h o (.inr (10, q_MF o m))) z bc bs Kr Kx := wX9_ofPlayer_1 q_up_s kk
theorem dX9_ofPlayer_4 : decode (i_b iX9_ofPlayer) 4 = .ok (.bipush 6, 2) := by decide +kernel
theorem wX9_ofPlayer_4  (kk : QW V iX9_ofPlayer 6 [a0, a1, a2] (.int (6) :: st) h z bc bs Kr Kx) : QW V iX9_ofPlayer 4 [a0, a1, a2] (st) h z bc bs Kr Kx := q_bipush dX9_ofPlayer_4 (by decide) kk
theorem dX9_ofPlayer_6 : decode (i_b iX9_ofPlayer) 6 = .ok (.bipush 10, 2) := by decide +kernel
theorem wX9_ofPlayer_6  (kk : QW V iX9_ofPlayer 8 [a0, a1, a2] (.int (10) :: st) h z bc bs Kr Kx) : QW V iX9_ofPlayer 6 [a0, a1, a2] (st) h z bc bs Kr Kx := q_bipush dX9_ofPlayer_6 (by decide) kk
theorem dX9_ofPlayer_8 : decode (i_b iX9_ofPlayer) 8 = .ok (.iload_n 1, 1) := by decide +kernel
theorem wX9_ofPlayer_8 {x : Int32} (kk : QW V iX9_ofPlayer 9 [a0, some (.int x), a2] (.int x :: st) h z bc bs Kr Kx) : QW V iX9_ofPlayer 8 [a0, some (.int x), a2] (st) h z bc bs Kr Kx := q_iload_n dX9_ofPlayer_8 rfl rfl kk
theorem dX9_ofPlayer_9 : decode (i_b iX9_ofPlayer) 9 = .ok (.imul, 1) := by decide +kernel
theorem wX9_ofPlayer_9 {x y : Int32} (kk : QW V iX9_ofPlayer 10 [a0, a1, a2] (.int (x * y) :: st) h z bc bs Kr Kx) : QW V iX9_ofPlayer 9 [a0, a1, a2] (.int y :: .int x :: st) h z bc bs Kr Kx := q_imul dX9_ofPlayer_9 kk
theorem dX9_ofPlayer_10 : decode (i_b iX9_ofPlayer) 10 = .ok (.iadd, 1) := by decide +kernel
theorem wX9_ofPlayer_10 {x y : Int32} (kk : QW V iX9_ofPlayer 11 [a0, a1, a2] (.int (x + y) :: st) h z bc bs Kr Kx) : QW V iX9_ofPlayer 10 [a0, a1, a2] (.int y :: .int x :: st) h z bc bs Kr Kx := q_iadd dX9_ofPlayer_10 kk
theorem dX9_ofPlayer_11 : decode (i_b iX9_ofPlayer) 11 = .ok (.iload_n 2, 1) := by decide +kernel
theorem wX9_ofPlayer_11 {x : Int32} (kk : QW V iX9_ofPlayer 12 [a0, a1, some (.int x)] (.int x :: st) h z bc bs Kr Kx) : QW V iX9_ofPlayer 11 [a0, a1, some (.int x)] (st) h z bc bs Kr Kx := q_iload_n dX9_ofPlayer_11 rfl rfl kk
theorem dX9_ofPlayer_12 : decode (i_b iX9_ofPlayer) 12 = .ok (.iadd, 1) := by decide +kernel
theorem wX9_ofPlayer_12 {x y : Int32} (kk : QW V iX9_ofPlayer 13 [a0, a1, a2] (.int (x + y) :: st) h z bc bs Kr Kx) : QW V iX9_ofPlayer 12 [a0, a1, a2] (.int y :: .int x :: st) h z bc bs Kr Kx := q_iadd dX9_ofPlayer_12 kk
theorem dX9_ofPlayer_13 : decode (i_b iX9_ofPlayer) 13 = .ok (.laload, 1) := by decide +kernel
theorem wX9_ofPlayer_13 {a n j : Nat} {f : Nat → Int64} {i : Int32} (ha : h a = some (.inl (2, n, .inr (.inl f)))) (hi : i = nI j) (hj : j < n) (hn : n < 2147483648) (kk : QW V iX9_ofPlayer 14 [a0, a1, a2] (.long (f j) :: st) h z bc bs Kr Kx) : QW V iX9_ofPlayer 13 [a0, a1, a2] (.int i :: .ref a :: st) h z bc bs Kr Kx := q_lald dX9_ofPlayer_13 ha hi hj hn kk
theorem dX9_ofPlayer_14 : decode (i_b iX9_ofPlayer) 14 = .ok (.l2i, 1) := by decide +kernel
theorem wX9_ofPlayer_14 {x : Int64} (kk : QW V iX9_ofPlayer 15 [a0, a1, a2] (.int (x.toInt32) :: st) h z bc bs Kr Kx) : QW V iX9_ofPlayer 14 [a0, a1, a2] (.long x :: st) h z bc bs Kr Kx := q_l2i dX9_ofPlayer_14 kk
theorem dX9_ofPlayer_15 : decode (i_b iX9_ofPlayer) 15 = .ok (.ireturn, 1) := by decide +kernel
theorem wX9_ofPlayer_15 {x : Int32} {P : Int32 → q_H → Option Nat → Prop} (hk : P x h z) : QW V iX9_ofPlayer 15 [a0, a1, a2] [.int x] h z bc bs (q_Ki P) Kx := q_iret dX9_ofPlayer_15 rfl rfl ⟨x, rfl, hk⟩
theorem eX9_putPlayer {o : Nat} {x0 : Int32} {x1 : Int32} {x2 : Int32} {P : q_H → Option Nat → Prop} (kk : QW V iX9_putPlayer 0 [some (.ref o), some (.int x0), some (.int x1), some (.int x2)] [] h z 0 0 (q_Kv P) Kx) : QMv V iX9_putPlayer [.ref o, .int x0, .int x1, .int x2] h z P Kx := q_enter rfl (by decide +kernel) rfl (Nat.le_of_ble_eq_true rfl) kk
theorem dX9_putPlayer_0 : decode (i_b iX9_putPlayer) 0 = .ok (.aload_n 0, 1) := by decide +kernel
theorem wX9_putPlayer_0 {x : Nat} (kk : QW V iX9_putPlayer 1 [some (.ref x), a1, a2, a3] (.ref x :: st) h z bc bs Kr Kx) : QW V iX9_putPlayer 0 [some (.ref x), a1, a2, a3] (st) h z bc bs Kr Kx := q_aload_n dX9_putPlayer_0 rfl rfl kk
theorem dX9_putPlayer_1 : decode (i_b iX9_putPlayer) 1 = .ok (.getfield 7, 3) := by decide +kernel
theorem wX9_putPlayer_1 {o : Nat} {m : Nat → Int32} (ha : h o = some (.inr (10, q_MF o m))) (kk : QW V iX9_putPlayer 4 [a0, a1, a2, a3] (.ref (o + 1) :: st) h z bc bs Kr Kx) : QW V iX9_putPlayer 1 [a0, a1, a2, a3] (.ref o :: st) h z bc bs Kr Kx := q_getf (k := 0) dX9_putPlayer_1 klX9 rfl (Nat.le_of_ble_eq_true rfl : 0 < 35) k5_213 rfl ha rfl kk
theorem wX9_putPlayer_1u {o : Nat} {m : Nat → Int32} (kk : QW V iX9_putPlayer 4 [a0, a1, a2, a3] (.ref (o + 1) :: st) (q_up h o (.inr (10, q_MF o m))) z bc bs Kr Kx) : QW V iX9_putPlayer 1 [a0, a1, a2, a3] (.ref o :: st) (q_up h o (.inr (10, q_MF o m))) z bc bs Kr Kx := wX9_putPlayer_1 q_up_s kk
theorem dX9_putPlayer_4 : decode (i_b iX9_putPlayer) 4 = .ok (.bipush 6, 2) := by decide +kernel
theorem wX9_putPlayer_4  (kk : QW V iX9_putPlayer 6 [a0, a1, a2, a3] (.int (6) :: st) h z bc bs Kr Kx) : QW V iX9_putPlayer 4 [a0, a1, a2, a3] (st) h z bc bs Kr Kx := q_bipush dX9_putPlayer_4 (by decide) kk
theorem dX9_putPlayer_6 : decode (i_b iX9_putPlayer) 6 = .ok (.bipush 10, 2) := by decide +kernel
theorem wX9_putPlayer_6  (kk : QW V iX9_putPlayer 8 [a0, a1, a2, a3] (.int (10) :: st) h z bc bs Kr Kx) : QW V iX9_putPlayer 6 [a0, a1, a2, a3] (st) h z bc bs Kr Kx := q_bipush dX9_putPlayer_6 (by decide) kk
theorem dX9_putPlayer_8 : decode (i_b iX9_putPlayer) 8 = .ok (.iload_n 1, 1) := by decide +kernel
theorem wX9_putPlayer_8 {x : Int32} (kk : QW V iX9_putPlayer 9 [a0, some (.int x), a2, a3] (.int x :: st) h z bc bs Kr Kx) : QW V iX9_putPlayer 8 [a0, some (.int x), a2, a3] (st) h z bc bs Kr Kx := q_iload_n dX9_putPlayer_8 rfl rfl kk
theorem dX9_putPlayer_9 : decode (i_b iX9_putPlayer) 9 = .ok (.imul, 1) := by decide +kernel
theorem wX9_putPlayer_9 {x y : Int32} (kk : QW V iX9_putPlayer 10 [a0, a1, a2, a3] (.int (x * y) :: st) h z bc bs Kr Kx) : QW V iX9_putPlayer 9 [a0, a1, a2, a3] (.int y :: .int x :: st) h z bc bs Kr Kx := q_imul dX9_putPlayer_9 kk
theorem dX9_putPlayer_10 : decode (i_b iX9_putPlayer) 10 = .ok (.iadd, 1) := by decide +kernel
theorem wX9_putPlayer_10 {x y : Int32} (kk : QW V iX9_putPlayer 11 [a0, a1, a2, a3] (.int (x + y) :: st) h z bc bs Kr Kx) : QW V iX9_putPlayer 10 [a0, a1, a2, a3] (.int y :: .int x :: st) h z bc bs Kr Kx := q_iadd dX9_putPlayer_10 kk
theorem dX9_putPlayer_11 : decode (i_b iX9_putPlayer) 11 = .ok (.iload_n 2, 1) := by decide +kernel
theorem wX9_putPlayer_11 {x : Int32} (kk : QW V iX9_putPlayer 12 [a0, a1, some (.int x), a3] (.int x :: st) h z bc bs Kr Kx) : QW V iX9_putPlayer 11 [a0, a1, some (.int x), a3] (st) h z bc bs Kr Kx := q_iload_n dX9_putPlayer_11 rfl rfl kk
theorem dX9_putPlayer_12 : decode (i_b iX9_putPlayer) 12 = .ok (.iadd, 1) := by decide +kernel
theorem wX9_putPlayer_12 {x y : Int32} (kk : QW V iX9_putPlayer 13 [a0, a1, a2, a3] (.int (x + y) :: st) h z bc bs Kr Kx) : QW V iX9_putPlayer 12 [a0, a1, a2, a3] (.int y :: .int x :: st) h z bc bs Kr Kx := q_iadd dX9_putPlayer_12 kk
theorem dX9_putPlayer_13 : decode (i_b iX9_putPlayer) 13 = .ok (.iload_n 3, 1) := by decide +kernel
theorem wX9_putPlayer_13 {x : Int32} (kk : QW V iX9_putPlayer 14 [a0, a1, a2, some (.int x)] (.int x :: st) h z bc bs Kr Kx) : QW V iX9_putPlayer 13 [a0, a1, a2, some (.int x)] (st) h z bc bs Kr Kx := q_iload_n dX9_putPlayer_13 rfl rfl kk
theorem dX9_putPlayer_14 : decode (i_b iX9_putPlayer) 14 = .ok (.i2l, 1) := by decide +kernel
theorem wX9_putPlayer_14 {x : Int32} (kk : QW V iX9_putPlayer 15 [a0, a1, a2, a3] (.long (x.toInt64) :: st) h z bc bs Kr Kx) : QW V iX9_putPlayer 14 [a0, a1, a2, a3] (.int x :: st) h z bc bs Kr Kx := q_i2l dX9_putPlayer_14 kk
theorem dX9_putPlayer_15 : decode (i_b iX9_putPlayer) 15 = .ok (.lastore, 1) := by decide +kernel
theorem wX9_putPlayer_15 {a n j : Nat} {f : Nat → Int64} {i : Int32} {x : Int64} (ha : h a = some (.inl (2, n, .inr (.inl f)))) (hi : i = nI j) (hj : j < n) (hn : n < 2147483648) (kk : QW V iX9_putPlayer 16 [a0, a1, a2, a3] (st) (q_up h a (.inl (2, n, .inr (.inl (vp_updL f j x))))) z bc bs Kr Kx) : QW V iX9_putPlayer 15 [a0, a1, a2, a3] (.long x :: .int i :: .ref a :: st) h z bc bs Kr Kx := q_last dX9_putPlayer_15 ha hi hj hn kk
theorem wX9_putPlayer_15u {a n j : Nat} {f : Nat → Int64} {i : Int32} {x : Int64} (hi : i = nI j) (hj : j < n) (hn : n < 2147483648) (kk : QW V iX9_putPlayer 16 [a0, a1, a2, a3] (st) (q_up h a (.inl (2, n, .inr (.inl (vp_updL f j x))))) z bc bs Kr Kx) : QW V iX9_putPlayer 15 [a0, a1, a2, a3] (.long x :: .int i :: .ref a :: st) (q_up h a (.inl (2, n, .inr (.inl f)))) z bc bs Kr Kx := wX9_putPlayer_15 q_up_s hi hj hn (by rw [q_up_u]; exact kk)
theorem dX9_putPlayer_16 : decode (i_b iX9_putPlayer) 16 = .ok (.return_, 1) := by decide +kernel
theorem wX9_putPlayer_16 {P : q_H → Option Nat → Prop} (hk : P h z) : QW V iX9_putPlayer 16 [a0, a1, a2, a3] [] h z bc bs (q_Kv P) Kx := q_vret dX9_putPlayer_16 rfl ⟨rfl, hk⟩
theorem eX9_ofTeam {o : Nat} {x0 : Int32} {x1 : Int32} {P : Int64 → q_H → Option Nat → Prop} (kk : QW V iX9_ofTeam 0 [some (.ref o), some (.int x0), some (.int x1)] [] h z 0 0 (q_Kl P) Kx) : QMl V iX9_ofTeam [.ref o, .int x0, .int x1] h z P Kx := q_enter rfl (by decide +kernel) rfl (Nat.le_of_ble_eq_true rfl) kk
theorem dX9_ofTeam_0 : decode (i_b iX9_ofTeam) 0 = .ok (.aload_n 0, 1) := by decide +kernel
theorem wX9_ofTeam_0 {x : Nat} (kk : QW V iX9_ofTeam 1 [some (.ref x), a1, a2] (.ref x :: st) h z bc bs Kr Kx) : QW V iX9_ofTeam 0 [some (.ref x), a1, a2] (st) h z bc bs Kr Kx := q_aload_n dX9_ofTeam_0 rfl rfl kk
theorem dX9_ofTeam_1 : decode (i_b iX9_ofTeam) 1 = .ok (.getfield 7, 3) := by decide +kernel
theorem wX9_ofTeam_1 {o : Nat} {m : Nat → Int32} (ha : h o = some (.inr (10, q_MF o m))) (kk : QW V iX9_ofTeam 4 [a0, a1, a2] (.ref (o + 1) :: st) h z bc bs Kr Kx) : QW V iX9_ofTeam 1 [a0, a1, a2] (.ref o :: st) h z bc bs Kr Kx := q_getf (k := 0) dX9_ofTeam_1 klX9 rfl (Nat.le_of_ble_eq_true rfl : 0 < 35) k5_213 rfl ha rfl kk
theorem wX9_ofTeam_1u {o : Nat} {m : Nat → Int32} (kk : QW V iX9_ofTeam 4 [a0, a1, a2] (.ref (o + 1) :: st) (q_up h o (.inr (10, q_MF o m))) z bc bs Kr Kx) : QW V iX9_ofTeam 1 [a0, a1, a2] (.ref o :: st) (q_up h o (.inr (10, q_MF o m))) z bc bs Kr Kx := wX9_ofTeam_1 q_up_s kk
theorem dX9_ofTeam_4 : decode (i_b iX9_ofTeam) 4 = .ok (.sipush 246, 3) := by decide +kernel
theorem wX9_ofTeam_4  (kk : QW V iX9_ofTeam 7 [a0, a1, a2] (.int (246) :: st) h z bc bs Kr Kx) : QW V iX9_ofTeam 4 [a0, a1, a2] (st) h z bc bs Kr Kx := q_sipush dX9_ofTeam_4 (by decide) kk
theorem dX9_ofTeam_7 : decode (i_b iX9_ofTeam) 7 = .ok (.bipush 35, 2) := by decide +kernel
theorem wX9_ofTeam_7  (kk : QW V iX9_ofTeam 9 [a0, a1, a2] (.int (35) :: st) h z bc bs Kr Kx) : QW V iX9_ofTeam 7 [a0, a1, a2] (st) h z bc bs Kr Kx := q_bipush dX9_ofTeam_7 (by decide) kk
theorem dX9_ofTeam_9 : decode (i_b iX9_ofTeam) 9 = .ok (.iload_n 1, 1) := by decide +kernel
theorem wX9_ofTeam_9 {x : Int32} (kk : QW V iX9_ofTeam 10 [a0, some (.int x), a2] (.int x :: st) h z bc bs Kr Kx) : QW V iX9_ofTeam 9 [a0, some (.int x), a2] (st) h z bc bs Kr Kx := q_iload_n dX9_ofTeam_9 rfl rfl kk
theorem dX9_ofTeam_10 : decode (i_b iX9_ofTeam) 10 = .ok (.imul, 1) := by decide +kernel
theorem wX9_ofTeam_10 {x y : Int32} (kk : QW V iX9_ofTeam 11 [a0, a1, a2] (.int (x * y) :: st) h z bc bs Kr Kx) : QW V iX9_ofTeam 10 [a0, a1, a2] (.int y :: .int x :: st) h z bc bs Kr Kx := q_imul dX9_ofTeam_10 kk
theorem dX9_ofTeam_11 : decode (i_b iX9_ofTeam) 11 = .ok (.iadd, 1) := by decide +kernel
theorem wX9_ofTeam_11 {x y : Int32} (kk : QW V iX9_ofTeam 12 [a0, a1, a2] (.int (x + y) :: st) h z bc bs Kr Kx) : QW V iX9_ofTeam 11 [a0, a1, a2] (.int y :: .int x :: st) h z bc bs Kr Kx := q_iadd dX9_ofTeam_11 kk
theorem dX9_ofTeam_12 : decode (i_b iX9_ofTeam) 12 = .ok (.iload_n 2, 1) := by decide +kernel
theorem wX9_ofTeam_12 {x : Int32} (kk : QW V iX9_ofTeam 13 [a0, a1, some (.int x)] (.int x :: st) h z bc bs Kr Kx) : QW V iX9_ofTeam 12 [a0, a1, some (.int x)] (st) h z bc bs Kr Kx := q_iload_n dX9_ofTeam_12 rfl rfl kk
theorem dX9_ofTeam_13 : decode (i_b iX9_ofTeam) 13 = .ok (.iadd, 1) := by decide +kernel
theorem wX9_ofTeam_13 {x y : Int32} (kk : QW V iX9_ofTeam 14 [a0, a1, a2] (.int (x + y) :: st) h z bc bs Kr Kx) : QW V iX9_ofTeam 13 [a0, a1, a2] (.int y :: .int x :: st) h z bc bs Kr Kx := q_iadd dX9_ofTeam_13 kk
theorem dX9_ofTeam_14 : decode (i_b iX9_ofTeam) 14 = .ok (.laload, 1) := by decide +kernel
theorem wX9_ofTeam_14 {a n j : Nat} {f : Nat → Int64} {i : Int32} (ha : h a = some (.inl (2, n, .inr (.inl f)))) (hi : i = nI j) (hj : j < n) (hn : n < 2147483648) (kk : QW V iX9_ofTeam 15 [a0, a1, a2] (.long (f j) :: st) h z bc bs Kr Kx) : QW V iX9_ofTeam 14 [a0, a1, a2] (.int i :: .ref a :: st) h z bc bs Kr Kx := q_lald dX9_ofTeam_14 ha hi hj hn kk
theorem dX9_ofTeam_15 : decode (i_b iX9_ofTeam) 15 = .ok (.lreturn, 1) := by decide +kernel
theorem wX9_ofTeam_15 {x : Int64} {P : Int64 → q_H → Option Nat → Prop} (hk : P x h z) : QW V iX9_ofTeam 15 [a0, a1, a2] [.long x] h z bc bs (q_Kl P) Kx := q_lret dX9_ofTeam_15 rfl ⟨x, rfl, hk⟩
theorem eX9_addTeam {o : Nat} {x0 : Int32} {x1 : Int32} {x2 : Int64} {P : q_H → Option Nat → Prop} (kk : QW V iX9_addTeam 0 [some (.ref o), some (.int x0), some (.int x1), some (.long x2), none] [] h z 0 0 (q_Kv P) Kx) : QMv V iX9_addTeam [.ref o, .int x0, .int x1, .long x2] h z P Kx := q_enter rfl (by decide +kernel) rfl (Nat.le_of_ble_eq_true rfl) kk
theorem dX9_addTeam_0 : decode (i_b iX9_addTeam) 0 = .ok (.aload_n 0, 1) := by decide +kernel
theorem wX9_addTeam_0 {x : Nat} (kk : QW V iX9_addTeam 1 [some (.ref x), a1, a2, a3, a4] (.ref x :: st) h z bc bs Kr Kx) : QW V iX9_addTeam 0 [some (.ref x), a1, a2, a3, a4] (st) h z bc bs Kr Kx := q_aload_n dX9_addTeam_0 rfl rfl kk
theorem dX9_addTeam_1 : decode (i_b iX9_addTeam) 1 = .ok (.getfield 7, 3) := by decide +kernel
theorem wX9_addTeam_1 {o : Nat} {m : Nat → Int32} (ha : h o = some (.inr (10, q_MF o m))) (kk : QW V iX9_addTeam 4 [a0, a1, a2, a3, a4] (.ref (o + 1) :: st) h z bc bs Kr Kx) : QW V iX9_addTeam 1 [a0, a1, a2, a3, a4] (.ref o :: st) h z bc bs Kr Kx := q_getf (k := 0) dX9_addTeam_1 klX9 rfl (Nat.le_of_ble_eq_true rfl : 0 < 35) k5_213 rfl ha rfl kk
theorem wX9_addTeam_1u {o : Nat} {m : Nat → Int32} (kk : QW V iX9_addTeam 4 [a0, a1, a2, a3, a4] (.ref (o + 1) :: st) (q_up h o (.inr (10, q_MF o m))) z bc bs Kr Kx) : QW V iX9_addTeam 1 [a0, a1, a2, a3, a4] (.ref o :: st) (q_up h o (.inr (10, q_MF o m))) z bc bs Kr Kx := wX9_addTeam_1 q_up_s kk
theorem dX9_addTeam_4 : decode (i_b iX9_addTeam) 4 = .ok (.sipush 246, 3) := by decide +kernel
theorem wX9_addTeam_4  (kk : QW V iX9_addTeam 7 [a0, a1, a2, a3, a4] (.int (246) :: st) h z bc bs Kr Kx) : QW V iX9_addTeam 4 [a0, a1, a2, a3, a4] (st) h z bc bs Kr Kx := q_sipush dX9_addTeam_4 (by decide) kk
theorem dX9_addTeam_7 : decode (i_b iX9_addTeam) 7 = .ok (.bipush 35, 2) := by decide +kernel
theorem wX9_addTeam_7  (kk : QW V iX9_addTeam 9 [a0, a1, a2, a3, a4] (.int (35) :: st) h z bc bs Kr Kx) : QW V iX9_addTeam 7 [a0, a1, a2, a3, a4] (st) h z bc bs Kr Kx := q_bipush dX9_addTeam_7 (by decide) kk
theorem dX9_addTeam_9 : decode (i_b iX9_addTeam) 9 = .ok (.iload_n 1, 1) := by decide +kernel
theorem wX9_addTeam_9 {x : Int32} (kk : QW V iX9_addTeam 10 [a0, some (.int x), a2, a3, a4] (.int x :: st) h z bc bs Kr Kx) : QW V iX9_addTeam 9 [a0, some (.int x), a2, a3, a4] (st) h z bc bs Kr Kx := q_iload_n dX9_addTeam_9 rfl rfl kk
theorem dX9_addTeam_10 : decode (i_b iX9_addTeam) 10 = .ok (.imul, 1) := by decide +kernel
theorem wX9_addTeam_10 {x y : Int32} (kk : QW V iX9_addTeam 11 [a0, a1, a2, a3, a4] (.int (x * y) :: st) h z bc bs Kr Kx) : QW V iX9_addTeam 10 [a0, a1, a2, a3, a4] (.int y :: .int x :: st) h z bc bs Kr Kx := q_imul dX9_addTeam_10 kk
theorem dX9_addTeam_11 : decode (i_b iX9_addTeam) 11 = .ok (.iadd, 1) := by decide +kernel
theorem wX9_addTeam_11 {x y : Int32} (kk : QW V iX9_addTeam 12 [a0, a1, a2, a3, a4] (.int (x + y) :: st) h z bc bs Kr Kx) : QW V iX9_addTeam 11 [a0, a1, a2, a3, a4] (.int y :: .int x :: st) h z bc bs Kr Kx := q_iadd dX9_addTeam_11 kk
theorem dX9_addTeam_12 : decode (i_b iX9_addTeam) 12 = .ok (.iload_n 2, 1) := by decide +kernel
theorem wX9_addTeam_12 {x : Int32} (kk : QW V iX9_addTeam 13 [a0, a1, some (.int x), a3, a4] (.int x :: st) h z bc bs Kr Kx) : QW V iX9_addTeam 12 [a0, a1, some (.int x), a3, a4] (st) h z bc bs Kr Kx := q_iload_n dX9_addTeam_12 rfl rfl kk
theorem dX9_addTeam_13 : decode (i_b iX9_addTeam) 13 = .ok (.iadd, 1) := by decide +kernel
theorem wX9_addTeam_13 {x y : Int32} (kk : QW V iX9_addTeam 14 [a0, a1, a2, a3, a4] (.int (x + y) :: st) h z bc bs Kr Kx) : QW V iX9_addTeam 13 [a0, a1, a2, a3, a4] (.int y :: .int x :: st) h z bc bs Kr Kx := q_iadd dX9_addTeam_13 kk
theorem dX9_addTeam_14 : decode (i_b iX9_addTeam) 14 = .ok (.dup2, 1) := by decide +kernel
theorem wX9_addTeam_14 {v w : Value} (kk : QW V iX9_addTeam 15 [a0, a1, a2, a3, a4] (v :: w :: v :: w :: st) h z bc bs Kr Kx) (hv : v.category = 1 := by rfl) (hw : w.category = 1 := by rfl) : QW V iX9_addTeam 14 [a0, a1, a2, a3, a4] (v :: w :: st) h z bc bs Kr Kx := q_dup2 dX9_addTeam_14 hv hw kk
theorem dX9_addTeam_15 : decode (i_b iX9_addTeam) 15 = .ok (.laload, 1) := by decide +kernel
theorem wX9_addTeam_15 {a n j : Nat} {f : Nat → Int64} {i : Int32} (ha : h a = some (.inl (2, n, .inr (.inl f)))) (hi : i = nI j) (hj : j < n) (hn : n < 2147483648) (kk : QW V iX9_addTeam 16 [a0, a1, a2, a3, a4] (.long (f j) :: st) h z bc bs Kr Kx) : QW V iX9_addTeam 15 [a0, a1, a2, a3, a4] (.int i :: .ref a :: st) h z bc bs Kr Kx := q_lald dX9_addTeam_15 ha hi hj hn kk
theorem dX9_addTeam_16 : decode (i_b iX9_addTeam) 16 = .ok (.lload_n 3, 1) := by decide +kernel
theorem wX9_addTeam_16 {x : Int64} (kk : QW V iX9_addTeam 17 [a0, a1, a2, some (.long x), a4] (.long x :: st) h z bc bs Kr Kx) : QW V iX9_addTeam 16 [a0, a1, a2, some (.long x), a4] (st) h z bc bs Kr Kx := q_lload_n dX9_addTeam_16 rfl rfl kk
theorem dX9_addTeam_17 : decode (i_b iX9_addTeam) 17 = .ok (.ladd, 1) := by decide +kernel
theorem wX9_addTeam_17 {x y : Int64} (kk : QW V iX9_addTeam 18 [a0, a1, a2, a3, a4] (.long (x + y) :: st) h z bc bs Kr Kx) : QW V iX9_addTeam 17 [a0, a1, a2, a3, a4] (.long y :: .long x :: st) h z bc bs Kr Kx := q_ladd dX9_addTeam_17 kk
theorem dX9_addTeam_18 : decode (i_b iX9_addTeam) 18 = .ok (.lastore, 1) := by decide +kernel
theorem wX9_addTeam_18 {a n j : Nat} {f : Nat → Int64} {i : Int32} {x : Int64} (ha : h a = some (.inl (2, n, .inr (.inl f)))) (hi : i = nI j) (hj : j < n) (hn : n < 2147483648) (kk : QW V iX9_addTeam 19 [a0, a1, a2, a3, a4] (st) (q_up h a (.inl (2, n, .inr (.inl (vp_updL f j x))))) z bc bs Kr Kx) : QW V iX9_addTeam 18 [a0, a1, a2, a3, a4] (.long x :: .int i :: .ref a :: st) h z bc bs Kr Kx := q_last dX9_addTeam_18 ha hi hj hn kk
theorem wX9_addTeam_18u {a n j : Nat} {f : Nat → Int64} {i : Int32} {x : Int64} (hi : i = nI j) (hj : j < n) (hn : n < 2147483648) (kk : QW V iX9_addTeam 19 [a0, a1, a2, a3, a4] (st) (q_up h a (.inl (2, n, .inr (.inl (vp_updL f j x))))) z bc bs Kr Kx) : QW V iX9_addTeam 18 [a0, a1, a2, a3, a4] (.long x :: .int i :: .ref a :: st) (q_up h a (.inl (2, n, .inr (.inl f)))) z bc bs Kr Kx := wX9_addTeam_18 q_up_s hi hj hn (by rw [q_up_u]; exact kk)
theorem dX9_addTeam_19 : decode (i_b iX9_addTeam) 19 = .ok (.return_, 1) := by decide +kernel
theorem wX9_addTeam_19 {P : q_H → Option Nat → Prop} (hk : P h z) : QW V iX9_addTeam 19 [a0, a1, a2, a3, a4] [] h z bc bs (q_Kv P) Kx := q_vret dX9_addTeam_19 rfl ⟨rfl, hk⟩
theorem eX9_now {o : Nat} {P : Int32 → q_H → Option Nat → Prop} (kk : QW V iX9_now 0 [some (.ref o)] [] h z 0 0 (q_Ki P) Kx) : QMi V iX9_now [.ref o] h z P Kx := q_enter rfl (by decide +kernel) rfl (Nat.le_of_ble_eq_true rfl) kk
theorem dX9_now_0 : decode (i_b iX9_now) 0 = .ok (.aload_n 0, 1) := by decide +kernel
theorem wX9_now_0 {x : Nat} (kk : QW V iX9_now 1 [some (.ref x)] (.ref x :: st) h z bc bs Kr Kx) : QW V iX9_now 0 [some (.ref x)] (st) h z bc bs Kr Kx := q_aload_n dX9_now_0 rfl rfl kk
theorem dX9_now_1 : decode (i_b iX9_now) 1 = .ok (.getfield 7, 3) := by decide +kernel
theorem wX9_now_1 {o : Nat} {m : Nat → Int32} (ha : h o = some (.inr (10, q_MF o m))) (kk : QW V iX9_now 4 [a0] (.ref (o + 1) :: st) h z bc bs Kr Kx) : QW V iX9_now 1 [a0] (.ref o :: st) h z bc bs Kr Kx := q_getf (k := 0) dX9_now_1 klX9 rfl (Nat.le_of_ble_eq_true rfl : 0 < 35) k5_213 rfl ha rfl kk
theorem wX9_now_1u {o : Nat} {m : Nat → Int32} (kk : QW V iX9_now 4 [a0] (.ref (o + 1) :: st) (q_up h o (.inr (10, q_MF o m))) z bc bs Kr Kx) : QW V iX9_now 1 [a0] (.ref o :: st) (q_up h o (.inr (10, q_MF o m))) z bc bs Kr Kx := wX9_now_1 q_up_s kk
theorem dX9_now_4 : decode (i_b iX9_now) 4 = .ok (.iconst 0, 1) := by decide +kernel
theorem wX9_now_4  (kk : QW V iX9_now 5 [a0] (.int (0) :: st) h z bc bs Kr Kx) : QW V iX9_now 4 [a0] (st) h z bc bs Kr Kx := q_iconst dX9_now_4 (by decide) kk
theorem dX9_now_5 : decode (i_b iX9_now) 5 = .ok (.laload, 1) := by decide +kernel
theorem wX9_now_5 {a n j : Nat} {f : Nat → Int64} {i : Int32} (ha : h a = some (.inl (2, n, .inr (.inl f)))) (hi : i = nI j) (hj : j < n) (hn : n < 2147483648) (kk : QW V iX9_now 6 [a0] (.long (f j) :: st) h z bc bs Kr Kx) : QW V iX9_now 5 [a0] (.int i :: .ref a :: st) h z bc bs Kr Kx := q_lald dX9_now_5 ha hi hj hn kk
theorem dX9_now_6 : decode (i_b iX9_now) 6 = .ok (.l2i, 1) := by decide +kernel
theorem wX9_now_6 {x : Int64} (kk : QW V iX9_now 7 [a0] (.int (x.toInt32) :: st) h z bc bs Kr Kx) : QW V iX9_now 6 [a0] (.long x :: st) h z bc bs Kr Kx := q_l2i dX9_now_6 kk
theorem dX9_now_7 : decode (i_b iX9_now) 7 = .ok (.ireturn, 1) := by decide +kernel
theorem wX9_now_7 {x : Int32} {P : Int32 → q_H → Option Nat → Prop} (hk : P x h z) : QW V iX9_now 7 [a0] [.int x] h z bc bs (q_Ki P) Kx := q_iret dX9_now_7 rfl rfl ⟨x, rfl, hk⟩
theorem eX9_remember {o : Nat} {P : q_H → Option Nat → Prop} (kk : QW V iX9_remember 0 [some (.ref o), none] [] h z 0 0 (q_Kv P) Kx) : QMv V iX9_remember [.ref o] h z P Kx := q_enter rfl (by decide +kernel) rfl (Nat.le_of_ble_eq_true rfl) kk
theorem dX9_remember_0 : decode (i_b iX9_remember) 0 = .ok (.aload_n 0, 1) := by decide +kernel
theorem wX9_remember_0 {x : Nat} (kk : QW V iX9_remember 1 [some (.ref x), a1] (.ref x :: st) h z bc bs Kr Kx) : QW V iX9_remember 0 [some (.ref x), a1] (st) h z bc bs Kr Kx := q_aload_n dX9_remember_0 rfl rfl kk
theorem dX9_remember_1 : decode (i_b iX9_remember) 1 = .ok (.getfield 178, 3) := by decide +kernel
theorem wX9_remember_1 {o : Nat} {m : Nat → Int32} (ha : h o = some (.inr (10, q_MF o m))) (kk : QW V iX9_remember 4 [a0, a1] (.int (m 2) :: st) h z bc bs Kr Kx) : QW V iX9_remember 1 [a0, a1] (.ref o :: st) h z bc bs Kr Kx := q_getf (k := 2) dX9_remember_1 klX9 rfl (Nat.le_of_ble_eq_true rfl : 2 < 35) k5_215 rfl ha rfl kk
theorem wX9_remember_1u {o : Nat} {m : Nat → Int32} (kk : QW V iX9_remember 4 [a0, a1] (.int (m 2) :: st) (q_up h o (.inr (10, q_MF o m))) z bc bs Kr Kx) : QW V iX9_remember 1 [a0, a1] (.ref o :: st) (q_up h o (.inr (10, q_MF o m))) z bc bs Kr Kx := wX9_remember_1 q_up_s kk
theorem dX9_remember_4 : decode (i_b iX9_remember) 4 = .ok (.bipush 10, 2) := by decide +kernel
theorem wX9_remember_4  (kk : QW V iX9_remember 6 [a0, a1] (.int (10) :: st) h z bc bs Kr Kx) : QW V iX9_remember 4 [a0, a1] (st) h z bc bs Kr Kx := q_bipush dX9_remember_4 (by decide) kk
theorem dX9_remember_6 : decode (i_b iX9_remember) 6 = .ok (.if_icmp .ne 46, 3) := by decide +kernel
theorem wX9_remember_6 {x y : Int32} (kt : ¬ x = y → QW V iX9_remember 52 [a0, a1] (st) h z bc bs Kr Kx) (kf : x = y → QW V iX9_remember 9 [a0, a1] (st) h z bc bs Kr Kx) : QW V iX9_remember 6 [a0, a1] (.int y :: .int x :: st) h z bc bs Kr Kx := q_icmp_ne dX9_remember_6 (by decide) kt kf
theorem dX9_remember_9 : decode (i_b iX9_remember) 9 = .ok (.sipush 386, 3) := by decide +kernel
theorem wX9_remember_9  (kk : QW V iX9_remember 12 [a0, a1] (.int (386) :: st) h z bc bs Kr Kx) : QW V iX9_remember 9 [a0, a1] (st) h z bc bs Kr Kx := q_sipush dX9_remember_9 (by decide) kk
theorem dX9_remember_12 : decode (i_b iX9_remember) 12 = .ok (.istore_n 1, 1) := by decide +kernel
theorem wX9_remember_12 {x : Int32} (kk : QW V iX9_remember 13 [a0, some (.int x)] (st) h z bc bs Kr Kx) (hp : q_n2 a0 = true := by rfl) : QW V iX9_remember 12 [a0, a1] (.int x :: st) h z bc bs Kr Kx := q_istore_n dX9_remember_12 rfl (Nat.le_of_ble_eq_true rfl) hp kk
theorem dX9_remember_13 : decode (i_b iX9_remember) 13 = .ok (.iload_n 1, 1) := by decide +kernel
theorem wX9_remember_13 {x : Int32} (kk : QW V iX9_remember 14 [a0, some (.int x)] (.int x :: st) h z bc bs Kr Kx) : QW V iX9_remember 13 [a0, some (.int x)] (st) h z bc bs Kr Kx := q_iload_n dX9_remember_13 rfl rfl kk
theorem dX9_remember_14 : decode (i_b iX9_remember) 14 = .ok (.sipush 3860, 3) := by decide +kernel
theorem wX9_remember_14  (kk : QW V iX9_remember 17 [a0, a1] (.int (3860) :: st) h z bc bs Kr Kx) : QW V iX9_remember 14 [a0, a1] (st) h z bc bs Kr Kx := q_sipush dX9_remember_14 (by decide) kk
theorem dX9_remember_17 : decode (i_b iX9_remember) 17 = .ok (.if_icmp .ge 25, 3) := by decide +kernel
theorem wX9_remember_17 {x y : Int32} (kt : y ≤ x → QW V iX9_remember 42 [a0, a1] (st) h z bc bs Kr Kx) (kf : ¬ y ≤ x → QW V iX9_remember 20 [a0, a1] (st) h z bc bs Kr Kx) : QW V iX9_remember 17 [a0, a1] (.int y :: .int x :: st) h z bc bs Kr Kx := q_icmp_ge dX9_remember_17 (by decide) kt kf
theorem dX9_remember_20 : decode (i_b iX9_remember) 20 = .ok (.aload_n 0, 1) := by decide +kernel
theorem wX9_remember_20 {x : Nat} (kk : QW V iX9_remember 21 [some (.ref x), a1] (.ref x :: st) h z bc bs Kr Kx) : QW V iX9_remember 20 [some (.ref x), a1] (st) h z bc bs Kr Kx := q_aload_n dX9_remember_20 rfl rfl kk
theorem dX9_remember_21 : decode (i_b iX9_remember) 21 = .ok (.getfield 13, 3) := by decide +kernel
theorem wX9_remember_21 {o : Nat} {m : Nat → Int32} (ha : h o = some (.inr (10, q_MF o m))) (kk : QW V iX9_remember 24 [a0, a1] (.ref (o + 2) :: st) h z bc bs Kr Kx) : QW V iX9_remember 21 [a0, a1] (.ref o :: st) h z bc bs Kr Kx := q_getf (k := 1) dX9_remember_21 klX9 rfl (Nat.le_of_ble_eq_true rfl : 1 < 35) k5_214 rfl ha rfl kk
theorem wX9_remember_21u {o : Nat} {m : Nat → Int32} (kk : QW V iX9_remember 24 [a0, a1] (.ref (o + 2) :: st) (q_up h o (.inr (10, q_MF o m))) z bc bs Kr Kx) : QW V iX9_remember 21 [a0, a1] (.ref o :: st) (q_up h o (.inr (10, q_MF o m))) z bc bs Kr Kx := wX9_remember_21 q_up_s kk
theorem dX9_remember_24 : decode (i_b iX9_remember) 24 = .ok (.iload_n 1, 1) := by decide +kernel
theorem wX9_remember_24 {x : Int32} (kk : QW V iX9_remember 25 [a0, some (.int x)] (.int x :: st) h z bc bs Kr Kx) : QW V iX9_remember 24 [a0, some (.int x)] (st) h z bc bs Kr Kx := q_iload_n dX9_remember_24 rfl rfl kk
theorem dX9_remember_25 : decode (i_b iX9_remember) 25 = .ok (.sipush 386, 3) := by decide +kernel
theorem wX9_remember_25  (kk : QW V iX9_remember 28 [a0, a1] (.int (386) :: st) h z bc bs Kr Kx) : QW V iX9_remember 25 [a0, a1] (st) h z bc bs Kr Kx := q_sipush dX9_remember_25 (by decide) kk
theorem dX9_remember_28 : decode (i_b iX9_remember) 28 = .ok (.isub, 1) := by decide +kernel
theorem wX9_remember_28 {x y : Int32} (kk : QW V iX9_remember 29 [a0, a1] (.int (x - y) :: st) h z bc bs Kr Kx) : QW V iX9_remember 28 [a0, a1] (.int y :: .int x :: st) h z bc bs Kr Kx := q_isub dX9_remember_28 kk
theorem dX9_remember_29 : decode (i_b iX9_remember) 29 = .ok (.aload_n 0, 1) := by decide +kernel
theorem wX9_remember_29 {x : Nat} (kk : QW V iX9_remember 30 [some (.ref x), a1] (.ref x :: st) h z bc bs Kr Kx) : QW V iX9_remember 29 [some (.ref x), a1] (st) h z bc bs Kr Kx := q_aload_n dX9_remember_29 rfl rfl kk
theorem dX9_remember_30 : decode (i_b iX9_remember) 30 = .ok (.getfield 13, 3) := by decide +kernel
theorem wX9_remember_30 {o : Nat} {m : Nat → Int32} (ha : h o = some (.inr (10, q_MF o m))) (kk : QW V iX9_remember 33 [a0, a1] (.ref (o + 2) :: st) h z bc bs Kr Kx) : QW V iX9_remember 30 [a0, a1] (.ref o :: st) h z bc bs Kr Kx := q_getf (k := 1) dX9_remember_30 klX9 rfl (Nat.le_of_ble_eq_true rfl : 1 < 35) k5_214 rfl ha rfl kk
theorem wX9_remember_30u {o : Nat} {m : Nat → Int32} (kk : QW V iX9_remember 33 [a0, a1] (.ref (o + 2) :: st) (q_up h o (.inr (10, q_MF o m))) z bc bs Kr Kx) : QW V iX9_remember 30 [a0, a1] (.ref o :: st) (q_up h o (.inr (10, q_MF o m))) z bc bs Kr Kx := wX9_remember_30 q_up_s kk
theorem dX9_remember_33 : decode (i_b iX9_remember) 33 = .ok (.iload_n 1, 1) := by decide +kernel
theorem wX9_remember_33 {x : Int32} (kk : QW V iX9_remember 34 [a0, some (.int x)] (.int x :: st) h z bc bs Kr Kx) : QW V iX9_remember 33 [a0, some (.int x)] (st) h z bc bs Kr Kx := q_iload_n dX9_remember_33 rfl rfl kk
theorem dX9_remember_34 : decode (i_b iX9_remember) 34 = .ok (.laload, 1) := by decide +kernel
theorem wX9_remember_34 {a n j : Nat} {f : Nat → Int64} {i : Int32} (ha : h a = some (.inl (2, n, .inr (.inl f)))) (hi : i = nI j) (hj : j < n) (hn : n < 2147483648) (kk : QW V iX9_remember 35 [a0, a1] (.long (f j) :: st) h z bc bs Kr Kx) : QW V iX9_remember 34 [a0, a1] (.int i :: .ref a :: st) h z bc bs Kr Kx := q_lald dX9_remember_34 ha hi hj hn kk
theorem dX9_remember_35 : decode (i_b iX9_remember) 35 = .ok (.lastore, 1) := by decide +kernel
theorem wX9_remember_35 {a n j : Nat} {f : Nat → Int64} {i : Int32} {x : Int64} (ha : h a = some (.inl (2, n, .inr (.inl f)))) (hi : i = nI j) (hj : j < n) (hn : n < 2147483648) (kk : QW V iX9_remember 36 [a0, a1] (st) (q_up h a (.inl (2, n, .inr (.inl (vp_updL f j x))))) z bc bs Kr Kx) : QW V iX9_remember 35 [a0, a1] (.long x :: .int i :: .ref a :: st) h z bc bs Kr Kx := q_last dX9_remember_35 ha hi hj hn kk
theorem wX9_remember_35u {a n j : Nat} {f : Nat → Int64} {i : Int32} {x : Int64} (hi : i = nI j) (hj : j < n) (hn : n < 2147483648) (kk : QW V iX9_remember 36 [a0, a1] (st) (q_up h a (.inl (2, n, .inr (.inl (vp_updL f j x))))) z bc bs Kr Kx) : QW V iX9_remember 35 [a0, a1] (.long x :: .int i :: .ref a :: st) (q_up h a (.inl (2, n, .inr (.inl f)))) z bc bs Kr Kx := wX9_remember_35 q_up_s hi hj hn (by rw [q_up_u]; exact kk)
theorem dX9_remember_36 : decode (i_b iX9_remember) 36 = .ok (.iinc 1 1, 3) := by decide +kernel
theorem wX9_remember_36 {x : Int32} (kk : QW V iX9_remember 39 [a0, some (.int (x + (1)))] (st) h z bc bs Kr Kx) (hp : q_n2 a0 = true := by rfl) : QW V iX9_remember 36 [a0, some (.int x)] (st) h z bc bs Kr Kx := q_iinc (v := x + (1)) dX9_remember_36 rfl rfl (Nat.le_of_ble_eq_true rfl) hp kk
theorem dX9_remember_39 : decode (i_b iX9_remember) 39 = .ok (.goto (-26), 3) := by decide +kernel
theorem wX9_remember_39  (kk : QW V iX9_remember 13 [a0, a1] (st) h z bc bs Kr Kx) : QW V iX9_remember 39 [a0, a1] (st) h z bc bs Kr Kx := q_goto dX9_remember_39 (by decide) kk
theorem dX9_remember_42 : decode (i_b iX9_remember) 42 = .ok (.aload_n 0, 1) := by decide +kernel
theorem wX9_remember_42 {x : Nat} (kk : QW V iX9_remember 43 [some (.ref x), a1] (.ref x :: st) h z bc bs Kr Kx) : QW V iX9_remember 42 [some (.ref x), a1] (st) h z bc bs Kr Kx := q_aload_n dX9_remember_42 rfl rfl kk
theorem dX9_remember_43 : decode (i_b iX9_remember) 43 = .ok (.dup, 1) := by decide +kernel
theorem wX9_remember_43 {v : Value} (kk : QW V iX9_remember 44 [a0, a1] (v :: v :: st) h z bc bs Kr Kx) (hv : v.category = 1 := by rfl) : QW V iX9_remember 43 [a0, a1] (v :: st) h z bc bs Kr Kx := q_dup dX9_remember_43 hv kk
theorem dX9_remember_44 : decode (i_b iX9_remember) 44 = .ok (.getfield 178, 3) := by decide +kernel
theorem wX9_remember_44 {o : Nat} {m : Nat → Int32} (ha : h o = some (.inr (10, q_MF o m))) (kk : QW V iX9_remember 47 [a0, a1] (.int (m 2) :: st) h z bc bs Kr Kx) : QW V iX9_remember 44 [a0, a1] (.ref o :: st) h z bc bs Kr Kx := q_getf (k := 2) dX9_remember_44 klX9 rfl (Nat.le_of_ble_eq_true rfl : 2 < 35) k5_215 rfl ha rfl kk
theorem wX9_remember_44u {o : Nat} {m : Nat → Int32} (kk : QW V iX9_remember 47 [a0, a1] (.int (m 2) :: st) (q_up h o (.inr (10, q_MF o m))) z bc bs Kr Kx) : QW V iX9_remember 44 [a0, a1] (.ref o :: st) (q_up h o (.inr (10, q_MF o m))) z bc bs Kr Kx := wX9_remember_44 q_up_s kk
theorem dX9_remember_47 : decode (i_b iX9_remember) 47 = .ok (.iconst 1, 1) := by decide +kernel
theorem wX9_remember_47  (kk : QW V iX9_remember 48 [a0, a1] (.int (1) :: st) h z bc bs Kr Kx) : QW V iX9_remember 47 [a0, a1] (st) h z bc bs Kr Kx := q_iconst dX9_remember_47 (by decide) kk
theorem dX9_remember_48 : decode (i_b iX9_remember) 48 = .ok (.isub, 1) := by decide +kernel
theorem wX9_remember_48 {x y : Int32} (kk : QW V iX9_remember 49 [a0, a1] (.int (x - y) :: st) h z bc bs Kr Kx) : QW V iX9_remember 48 [a0, a1] (.int y :: .int x :: st) h z bc bs Kr Kx := q_isub dX9_remember_48 kk
theorem dX9_remember_49 : decode (i_b iX9_remember) 49 = .ok (.putfield 178, 3) := by decide +kernel
theorem wX9_remember_49 {o : Nat} {m : Nat → Int32} {x : Int32} (ha : h o = some (.inr (10, q_MF o m))) (kk : QW V iX9_remember 52 [a0, a1] (st) (q_up h o (.inr (10, q_MF o (upd m 2 x)))) z bc bs Kr Kx) : QW V iX9_remember 49 [a0, a1] (.int x :: .ref o :: st) h z bc bs Kr Kx := q_putf (k := 2) tyX9 dX9_remember_49 klX9 tyX9_ok nmX9 rfl (Nat.le_of_ble_eq_true rfl : 2 < 35) k5_215 rfl rfl rfl rfl (Nat.le_of_ble_eq_true rfl) ha (by rw [q_MF_2]; exact kk)
theorem wX9_remember_49u {o : Nat} {m : Nat → Int32} {x : Int32} (kk : QW V iX9_remember 52 [a0, a1] (st) (q_up h o (.inr (10, q_MF o (upd m 2 x)))) z bc bs Kr Kx) : QW V iX9_remember 49 [a0, a1] (.int x :: .ref o :: st) (q_up h o (.inr (10, q_MF o m))) z bc bs Kr Kx := wX9_remember_49 q_up_s (by rw [q_up_u]; exact kk)
theorem dX9_remember_52 : decode (i_b iX9_remember) 52 = .ok (.iconst 0, 1) := by decide +kernel
theorem wX9_remember_52  (kk : QW V iX9_remember 53 [a0, a1] (.int (0) :: st) h z bc bs Kr Kx) : QW V iX9_remember 52 [a0, a1] (st) h z bc bs Kr Kx := q_iconst dX9_remember_52 (by decide) kk
theorem dX9_remember_53 : decode (i_b iX9_remember) 53 = .ok (.istore_n 1, 1) := by decide +kernel
theorem wX9_remember_53 {x : Int32} (kk : QW V iX9_remember 54 [a0, some (.int x)] (st) h z bc bs Kr Kx) (hp : q_n2 a0 = true := by rfl) : QW V iX9_remember 53 [a0, a1] (.int x :: st) h z bc bs Kr Kx := q_istore_n dX9_remember_53 rfl (Nat.le_of_ble_eq_true rfl) hp kk
theorem dX9_remember_54 : decode (i_b iX9_remember) 54 = .ok (.iload_n 1, 1) := by decide +kernel
theorem wX9_remember_54 {x : Int32} (kk : QW V iX9_remember 55 [a0, some (.int x)] (.int x :: st) h z bc bs Kr Kx) : QW V iX9_remember 54 [a0, some (.int x)] (st) h z bc bs Kr Kx := q_iload_n dX9_remember_54 rfl rfl kk
theorem dX9_remember_55 : decode (i_b iX9_remember) 55 = .ok (.sipush 386, 3) := by decide +kernel
theorem wX9_remember_55  (kk : QW V iX9_remember 58 [a0, a1] (.int (386) :: st) h z bc bs Kr Kx) : QW V iX9_remember 55 [a0, a1] (st) h z bc bs Kr Kx := q_sipush dX9_remember_55 (by decide) kk
theorem dX9_remember_58 : decode (i_b iX9_remember) 58 = .ok (.if_icmp .ge 30, 3) := by decide +kernel
theorem wX9_remember_58 {x y : Int32} (kt : y ≤ x → QW V iX9_remember 88 [a0, a1] (st) h z bc bs Kr Kx) (kf : ¬ y ≤ x → QW V iX9_remember 61 [a0, a1] (st) h z bc bs Kr Kx) : QW V iX9_remember 58 [a0, a1] (.int y :: .int x :: st) h z bc bs Kr Kx := q_icmp_ge dX9_remember_58 (by decide) kt kf
theorem dX9_remember_61 : decode (i_b iX9_remember) 61 = .ok (.aload_n 0, 1) := by decide +kernel
theorem wX9_remember_61 {x : Nat} (kk : QW V iX9_remember 62 [some (.ref x), a1] (.ref x :: st) h z bc bs Kr Kx) : QW V iX9_remember 61 [some (.ref x), a1] (st) h z bc bs Kr Kx := q_aload_n dX9_remember_61 rfl rfl kk
theorem dX9_remember_62 : decode (i_b iX9_remember) 62 = .ok (.getfield 13, 3) := by decide +kernel
theorem wX9_remember_62 {o : Nat} {m : Nat → Int32} (ha : h o = some (.inr (10, q_MF o m))) (kk : QW V iX9_remember 65 [a0, a1] (.ref (o + 2) :: st) h z bc bs Kr Kx) : QW V iX9_remember 62 [a0, a1] (.ref o :: st) h z bc bs Kr Kx := q_getf (k := 1) dX9_remember_62 klX9 rfl (Nat.le_of_ble_eq_true rfl : 1 < 35) k5_214 rfl ha rfl kk
theorem wX9_remember_62u {o : Nat} {m : Nat → Int32} (kk : QW V iX9_remember 65 [a0, a1] (.ref (o + 2) :: st) (q_up h o (.inr (10, q_MF o m))) z bc bs Kr Kx) : QW V iX9_remember 62 [a0, a1] (.ref o :: st) (q_up h o (.inr (10, q_MF o m))) z bc bs Kr Kx := wX9_remember_62 q_up_s kk
theorem dX9_remember_65 : decode (i_b iX9_remember) 65 = .ok (.sipush 386, 3) := by decide +kernel
theorem wX9_remember_65  (kk : QW V iX9_remember 68 [a0, a1] (.int (386) :: st) h z bc bs Kr Kx) : QW V iX9_remember 65 [a0, a1] (st) h z bc bs Kr Kx := q_sipush dX9_remember_65 (by decide) kk
theorem dX9_remember_68 : decode (i_b iX9_remember) 68 = .ok (.aload_n 0, 1) := by decide +kernel
theorem wX9_remember_68 {x : Nat} (kk : QW V iX9_remember 69 [some (.ref x), a1] (.ref x :: st) h z bc bs Kr Kx) : QW V iX9_remember 68 [some (.ref x), a1] (st) h z bc bs Kr Kx := q_aload_n dX9_remember_68 rfl rfl kk
theorem dX9_remember_69 : decode (i_b iX9_remember) 69 = .ok (.getfield 178, 3) := by decide +kernel
theorem wX9_remember_69 {o : Nat} {m : Nat → Int32} (ha : h o = some (.inr (10, q_MF o m))) (kk : QW V iX9_remember 72 [a0, a1] (.int (m 2) :: st) h z bc bs Kr Kx) : QW V iX9_remember 69 [a0, a1] (.ref o :: st) h z bc bs Kr Kx := q_getf (k := 2) dX9_remember_69 klX9 rfl (Nat.le_of_ble_eq_true rfl : 2 < 35) k5_215 rfl ha rfl kk
theorem wX9_remember_69u {o : Nat} {m : Nat → Int32} (kk : QW V iX9_remember 72 [a0, a1] (.int (m 2) :: st) (q_up h o (.inr (10, q_MF o m))) z bc bs Kr Kx) : QW V iX9_remember 69 [a0, a1] (.ref o :: st) (q_up h o (.inr (10, q_MF o m))) z bc bs Kr Kx := wX9_remember_69 q_up_s kk
theorem dX9_remember_72 : decode (i_b iX9_remember) 72 = .ok (.imul, 1) := by decide +kernel
theorem wX9_remember_72 {x y : Int32} (kk : QW V iX9_remember 73 [a0, a1] (.int (x * y) :: st) h z bc bs Kr Kx) : QW V iX9_remember 72 [a0, a1] (.int y :: .int x :: st) h z bc bs Kr Kx := q_imul dX9_remember_72 kk
theorem dX9_remember_73 : decode (i_b iX9_remember) 73 = .ok (.iload_n 1, 1) := by decide +kernel
theorem wX9_remember_73 {x : Int32} (kk : QW V iX9_remember 74 [a0, some (.int x)] (.int x :: st) h z bc bs Kr Kx) : QW V iX9_remember 73 [a0, some (.int x)] (st) h z bc bs Kr Kx := q_iload_n dX9_remember_73 rfl rfl kk
theorem dX9_remember_74 : decode (i_b iX9_remember) 74 = .ok (.iadd, 1) := by decide +kernel
theorem wX9_remember_74 {x y : Int32} (kk : QW V iX9_remember 75 [a0, a1] (.int (x + y) :: st) h z bc bs Kr Kx) : QW V iX9_remember 74 [a0, a1] (.int y :: .int x :: st) h z bc bs Kr Kx := q_iadd dX9_remember_74 kk
theorem dX9_remember_75 : decode (i_b iX9_remember) 75 = .ok (.aload_n 0, 1) := by decide +kernel
theorem wX9_remember_75 {x : Nat} (kk : QW V iX9_remember 76 [some (.ref x), a1] (.ref x :: st) h z bc bs Kr Kx) : QW V iX9_remember 75 [some (.ref x), a1] (st) h z bc bs Kr Kx := q_aload_n dX9_remember_75 rfl rfl kk
theorem dX9_remember_76 : decode (i_b iX9_remember) 76 = .ok (.getfield 7, 3) := by decide +kernel
theorem wX9_remember_76 {o : Nat} {m : Nat → Int32} (ha : h o = some (.inr (10, q_MF o m))) (kk : QW V iX9_remember 79 [a0, a1] (.ref (o + 1) :: st) h z bc bs Kr Kx) : QW V iX9_remember 76 [a0, a1] (.ref o :: st) h z bc bs Kr Kx := q_getf (k := 0) dX9_remember_76 klX9 rfl (Nat.le_of_ble_eq_true rfl : 0 < 35) k5_213 rfl ha rfl kk
theorem wX9_remember_76u {o : Nat} {m : Nat → Int32} (kk : QW V iX9_remember 79 [a0, a1] (.ref (o + 1) :: st) (q_up h o (.inr (10, q_MF o m))) z bc bs Kr Kx) : QW V iX9_remember 76 [a0, a1] (.ref o :: st) (q_up h o (.inr (10, q_MF o m))) z bc bs Kr Kx := wX9_remember_76 q_up_s kk
theorem dX9_remember_79 : decode (i_b iX9_remember) 79 = .ok (.iload_n 1, 1) := by decide +kernel
theorem wX9_remember_79 {x : Int32} (kk : QW V iX9_remember 80 [a0, some (.int x)] (.int x :: st) h z bc bs Kr Kx) : QW V iX9_remember 79 [a0, some (.int x)] (st) h z bc bs Kr Kx := q_iload_n dX9_remember_79 rfl rfl kk
theorem dX9_remember_80 : decode (i_b iX9_remember) 80 = .ok (.laload, 1) := by decide +kernel
theorem wX9_remember_80 {a n j : Nat} {f : Nat → Int64} {i : Int32} (ha : h a = some (.inl (2, n, .inr (.inl f)))) (hi : i = nI j) (hj : j < n) (hn : n < 2147483648) (kk : QW V iX9_remember 81 [a0, a1] (.long (f j) :: st) h z bc bs Kr Kx) : QW V iX9_remember 80 [a0, a1] (.int i :: .ref a :: st) h z bc bs Kr Kx := q_lald dX9_remember_80 ha hi hj hn kk
theorem dX9_remember_81 : decode (i_b iX9_remember) 81 = .ok (.lastore, 1) := by decide +kernel
theorem wX9_remember_81 {a n j : Nat} {f : Nat → Int64} {i : Int32} {x : Int64} (ha : h a = some (.inl (2, n, .inr (.inl f)))) (hi : i = nI j) (hj : j < n) (hn : n < 2147483648) (kk : QW V iX9_remember 82 [a0, a1] (st) (q_up h a (.inl (2, n, .inr (.inl (vp_updL f j x))))) z bc bs Kr Kx) : QW V iX9_remember 81 [a0, a1] (.long x :: .int i :: .ref a :: st) h z bc bs Kr Kx := q_last dX9_remember_81 ha hi hj hn kk
theorem wX9_remember_81u {a n j : Nat} {f : Nat → Int64} {i : Int32} {x : Int64} (hi : i = nI j) (hj : j < n) (hn : n < 2147483648) (kk : QW V iX9_remember 82 [a0, a1] (st) (q_up h a (.inl (2, n, .inr (.inl (vp_updL f j x))))) z bc bs Kr Kx) : QW V iX9_remember 81 [a0, a1] (.long x :: .int i :: .ref a :: st) (q_up h a (.inl (2, n, .inr (.inl f)))) z bc bs Kr Kx := wX9_remember_81 q_up_s hi hj hn (by rw [q_up_u]; exact kk)
theorem dX9_remember_82 : decode (i_b iX9_remember) 82 = .ok (.iinc 1 1, 3) := by decide +kernel
theorem wX9_remember_82 {x : Int32} (kk : QW V iX9_remember 85 [a0, some (.int (x + (1)))] (st) h z bc bs Kr Kx) (hp : q_n2 a0 = true := by rfl) : QW V iX9_remember 82 [a0, some (.int x)] (st) h z bc bs Kr Kx := q_iinc (v := x + (1)) dX9_remember_82 rfl rfl (Nat.le_of_ble_eq_true rfl) hp kk
theorem dX9_remember_85 : decode (i_b iX9_remember) 85 = .ok (.goto (-31), 3) := by decide +kernel
theorem wX9_remember_85  (kk : QW V iX9_remember 54 [a0, a1] (st) h z bc bs Kr Kx) : QW V iX9_remember 85 [a0, a1] (st) h z bc bs Kr Kx := q_goto dX9_remember_85 (by decide) kk
theorem dX9_remember_88 : decode (i_b iX9_remember) 88 = .ok (.aload_n 0, 1) := by decide +kernel
theorem wX9_remember_88 {x : Nat} (kk : QW V iX9_remember 89 [some (.ref x), a1] (.ref x :: st) h z bc bs Kr Kx) : QW V iX9_remember 88 [some (.ref x), a1] (st) h z bc bs Kr Kx := q_aload_n dX9_remember_88 rfl rfl kk
theorem dX9_remember_89 : decode (i_b iX9_remember) 89 = .ok (.dup, 1) := by decide +kernel
theorem wX9_remember_89 {v : Value} (kk : QW V iX9_remember 90 [a0, a1] (v :: v :: st) h z bc bs Kr Kx) (hv : v.category = 1 := by rfl) : QW V iX9_remember 89 [a0, a1] (v :: st) h z bc bs Kr Kx := q_dup dX9_remember_89 hv kk
theorem dX9_remember_90 : decode (i_b iX9_remember) 90 = .ok (.getfield 178, 3) := by decide +kernel
theorem wX9_remember_90 {o : Nat} {m : Nat → Int32} (ha : h o = some (.inr (10, q_MF o m))) (kk : QW V iX9_remember 93 [a0, a1] (.int (m 2) :: st) h z bc bs Kr Kx) : QW V iX9_remember 90 [a0, a1] (.ref o :: st) h z bc bs Kr Kx := q_getf (k := 2) dX9_remember_90 klX9 rfl (Nat.le_of_ble_eq_true rfl : 2 < 35) k5_215 rfl ha rfl kk
theorem wX9_remember_90u {o : Nat} {m : Nat → Int32} (kk : QW V iX9_remember 93 [a0, a1] (.int (m 2) :: st) (q_up h o (.inr (10, q_MF o m))) z bc bs Kr Kx) : QW V iX9_remember 90 [a0, a1] (.ref o :: st) (q_up h o (.inr (10, q_MF o m))) z bc bs Kr Kx := wX9_remember_90 q_up_s kk
theorem dX9_remember_93 : decode (i_b iX9_remember) 93 = .ok (.iconst 1, 1) := by decide +kernel
theorem wX9_remember_93  (kk : QW V iX9_remember 94 [a0, a1] (.int (1) :: st) h z bc bs Kr Kx) : QW V iX9_remember 93 [a0, a1] (st) h z bc bs Kr Kx := q_iconst dX9_remember_93 (by decide) kk
theorem dX9_remember_94 : decode (i_b iX9_remember) 94 = .ok (.iadd, 1) := by decide +kernel
theorem wX9_remember_94 {x y : Int32} (kk : QW V iX9_remember 95 [a0, a1] (.int (x + y) :: st) h z bc bs Kr Kx) : QW V iX9_remember 94 [a0, a1] (.int y :: .int x :: st) h z bc bs Kr Kx := q_iadd dX9_remember_94 kk
theorem dX9_remember_95 : decode (i_b iX9_remember) 95 = .ok (.putfield 178, 3) := by decide +kernel
theorem wX9_remember_95 {o : Nat} {m : Nat → Int32} {x : Int32} (ha : h o = some (.inr (10, q_MF o m))) (kk : QW V iX9_remember 98 [a0, a1] (st) (q_up h o (.inr (10, q_MF o (upd m 2 x)))) z bc bs Kr Kx) : QW V iX9_remember 95 [a0, a1] (.int x :: .ref o :: st) h z bc bs Kr Kx := q_putf (k := 2) tyX9 dX9_remember_95 klX9 tyX9_ok nmX9 rfl (Nat.le_of_ble_eq_true rfl : 2 < 35) k5_215 rfl rfl rfl rfl (Nat.le_of_ble_eq_true rfl) ha (by rw [q_MF_2]; exact kk)
theorem wX9_remember_95u {o : Nat} {m : Nat → Int32} {x : Int32} (kk : QW V iX9_remember 98 [a0, a1] (st) (q_up h o (.inr (10, q_MF o (upd m 2 x)))) z bc bs Kr Kx) : QW V iX9_remember 95 [a0, a1] (.int x :: .ref o :: st) (q_up h o (.inr (10, q_MF o m))) z bc bs Kr Kx := wX9_remember_95 q_up_s (by rw [q_up_u]; exact kk)
theorem dX9_remember_98 : decode (i_b iX9_remember) 98 = .ok (.return_, 1) := by decide +kernel
theorem wX9_remember_98 {P : q_H → Option Nat → Prop} (hk : P h z) : QW V iX9_remember 98 [a0, a1] [] h z bc bs (q_Kv P) Kx := q_vret dX9_remember_98 rfl ⟨rfl, hk⟩
theorem eX9_undo {o : Nat} {P : Int32 → q_H → Option Nat → Prop} (kk : QW V iX9_undo 0 [some (.ref o), none] [] h z 0 0 (q_Ki P) Kx) : QMi V iX9_undo [.ref o] h z P Kx := q_enter rfl (by decide +kernel) rfl (Nat.le_of_ble_eq_true rfl) kk
theorem dX9_undo_0 : decode (i_b iX9_undo) 0 = .ok (.aload_n 0, 1) := by decide +kernel
theorem wX9_undo_0 {x : Nat} (kk : QW V iX9_undo 1 [some (.ref x), a1] (.ref x :: st) h z bc bs Kr Kx) : QW V iX9_undo 0 [some (.ref x), a1] (st) h z bc bs Kr Kx := q_aload_n dX9_undo_0 rfl rfl kk
theorem dX9_undo_1 : decode (i_b iX9_undo) 1 = .ok (.iconst 1, 1) := by decide +kernel
theorem wX9_undo_1  (kk : QW V iX9_undo 2 [a0, a1] (.int (1) :: st) h z bc bs Kr Kx) : QW V iX9_undo 1 [a0, a1] (st) h z bc bs Kr Kx := q_iconst dX9_undo_1 (by decide) kk
theorem dX9_undo_2 : decode (i_b iX9_undo) 2 = .ok (.invokevirtual 203, 3) := by decide +kernel
theorem wX9_undo_2 {a : Nat} {fs : List Value} {x0 : Int32} (hb : h a = some (.inr (10, fs))) (hm : QMi V iX9_isWrong [.ref a, .int x0] h z (fun r h' z' => QW V iX9_undo 5 [a0, a1] (.int r :: st) h' z' bc bs Kr Kx) Kx) (hW : (st.map fun v => v.category).sum ≤ 8 := by exact Nat.le_of_ble_eq_true rfl) : QW V iX9_undo 2 [a0, a1] (.int x0 :: .ref a :: st) h z bc bs Kr Kx := q_callV (y' := iX9_isWrong) (As := [.int x0]) (rest := st) dX9_undo_2 k6_188 k6_190 ks_54 k1_10 hhX9_isWrong rfl hdX9_isWrong rfl rfl (Nat.le_of_ble_eq_true rfl) (Nat.le_of_ble_eq_true rfl) hW rfl hb (QMi.run hm)
theorem dX9_undo_5 : decode (i_b iX9_undo) 5 = .ok (.ifCond .eq 5, 3) := by decide +kernel
theorem wX9_undo_5 {x : Int32} (kt : x = 0 → QW V iX9_undo 10 [a0, a1] (st) h z bc bs Kr Kx) (kf : ¬ x = 0 → QW V iX9_undo 8 [a0, a1] (st) h z bc bs Kr Kx) : QW V iX9_undo 5 [a0, a1] (.int x :: st) h z bc bs Kr Kx := q_if_eq dX9_undo_5 (by decide) kt kf
theorem dX9_undo_8 : decode (i_b iX9_undo) 8 = .ok (.iconst 0, 1) := by decide +kernel
theorem wX9_undo_8  (kk : QW V iX9_undo 9 [a0, a1] (.int (0) :: st) h z bc bs Kr Kx) : QW V iX9_undo 8 [a0, a1] (st) h z bc bs Kr Kx := q_iconst dX9_undo_8 (by decide) kk
theorem dX9_undo_9 : decode (i_b iX9_undo) 9 = .ok (.ireturn, 1) := by decide +kernel
theorem wX9_undo_9 {x : Int32} {P : Int32 → q_H → Option Nat → Prop} (hk : P x h z) : QW V iX9_undo 9 [a0, a1] [.int x] h z bc bs (q_Ki P) Kx := q_iret dX9_undo_9 rfl rfl ⟨x, rfl, hk⟩
theorem dX9_undo_10 : decode (i_b iX9_undo) 10 = .ok (.aload_n 0, 1) := by decide +kernel
theorem wX9_undo_10 {x : Nat} (kk : QW V iX9_undo 11 [some (.ref x), a1] (.ref x :: st) h z bc bs Kr Kx) : QW V iX9_undo 10 [some (.ref x), a1] (st) h z bc bs Kr Kx := q_aload_n dX9_undo_10 rfl rfl kk
theorem dX9_undo_11 : decode (i_b iX9_undo) 11 = .ok (.getfield 178, 3) := by decide +kernel
theorem wX9_undo_11 {o : Nat} {m : Nat → Int32} (ha : h o = some (.inr (10, q_MF o m))) (kk : QW V iX9_undo 14 [a0, a1] (.int (m 2) :: st) h z bc bs Kr Kx) : QW V iX9_undo 11 [a0, a1] (.ref o :: st) h z bc bs Kr Kx := q_getf (k := 2) dX9_undo_11 klX9 rfl (Nat.le_of_ble_eq_true rfl : 2 < 35) k5_215 rfl ha rfl kk
theorem wX9_undo_11u {o : Nat} {m : Nat → Int32} (kk : QW V iX9_undo 14 [a0, a1] (.int (m 2) :: st) (q_up h o (.inr (10, q_MF o m))) z bc bs Kr Kx) : QW V iX9_undo 11 [a0, a1] (.ref o :: st) (q_up h o (.inr (10, q_MF o m))) z bc bs Kr Kx := wX9_undo_11 q_up_s kk
theorem dX9_undo_14 : decode (i_b iX9_undo) 14 = .ok (.ifCond .ne 6, 3) := by decide +kernel
theorem wX9_undo_14 {x : Int32} (kt : ¬ x = 0 → QW V iX9_undo 20 [a0, a1] (st) h z bc bs Kr Kx) (kf : x = 0 → QW V iX9_undo 17 [a0, a1] (st) h z bc bs Kr Kx) : QW V iX9_undo 14 [a0, a1] (.int x :: st) h z bc bs Kr Kx := q_if_ne dX9_undo_14 (by decide) kt kf
theorem dX9_undo_17 : decode (i_b iX9_undo) 17 = .ok (.bipush (-2), 2) := by decide +kernel
theorem wX9_undo_17  (kk : QW V iX9_undo 19 [a0, a1] (.int (-2) :: st) h z bc bs Kr Kx) : QW V iX9_undo 17 [a0, a1] (st) h z bc bs Kr Kx := q_bipush dX9_undo_17 (by decide) kk
theorem dX9_undo_19 : decode (i_b iX9_undo) 19 = .ok (.ireturn, 1) := by decide +kernel
theorem wX9_undo_19 {x : Int32} {P : Int32 → q_H → Option Nat → Prop} (hk : P x h z) : QW V iX9_undo 19 [a0, a1] [.int x] h z bc bs (q_Ki P) Kx := q_iret dX9_undo_19 rfl rfl ⟨x, rfl, hk⟩
theorem dX9_undo_20 : decode (i_b iX9_undo) 20 = .ok (.aload_n 0, 1) := by decide +kernel
theorem wX9_undo_20 {x : Nat} (kk : QW V iX9_undo 21 [some (.ref x), a1] (.ref x :: st) h z bc bs Kr Kx) : QW V iX9_undo 20 [some (.ref x), a1] (st) h z bc bs Kr Kx := q_aload_n dX9_undo_20 rfl rfl kk
theorem dX9_undo_21 : decode (i_b iX9_undo) 21 = .ok (.dup, 1) := by decide +kernel
theorem wX9_undo_21 {v : Value} (kk : QW V iX9_undo 22 [a0, a1] (v :: v :: st) h z bc bs Kr Kx) (hv : v.category = 1 := by rfl) : QW V iX9_undo 21 [a0, a1] (v :: st) h z bc bs Kr Kx := q_dup dX9_undo_21 hv kk
theorem dX9_undo_22 : decode (i_b iX9_undo) 22 = .ok (.getfield 178, 3) := by decide +kernel
theorem wX9_undo_22 {o : Nat} {m : Nat → Int32} (ha : h o = some (.inr (10, q_MF o m))) (kk : QW V iX9_undo 25 [a0, a1] (.int (m 2) :: st) h z bc bs Kr Kx) : QW V iX9_undo 22 [a0, a1] (.ref o :: st) h z bc bs Kr Kx := q_getf (k := 2) dX9_undo_22 klX9 rfl (Nat.le_of_ble_eq_true rfl : 2 < 35) k5_215 rfl ha rfl kk
theorem wX9_undo_22u {o : Nat} {m : Nat → Int32} (kk : QW V iX9_undo 25 [a0, a1] (.int (m 2) :: st) (q_up h o (.inr (10, q_MF o m))) z bc bs Kr Kx) : QW V iX9_undo 22 [a0, a1] (.ref o :: st) (q_up h o (.inr (10, q_MF o m))) z bc bs Kr Kx := wX9_undo_22 q_up_s kk
theorem dX9_undo_25 : decode (i_b iX9_undo) 25 = .ok (.iconst 1, 1) := by decide +kernel
theorem wX9_undo_25  (kk : QW V iX9_undo 26 [a0, a1] (.int (1) :: st) h z bc bs Kr Kx) : QW V iX9_undo 25 [a0, a1] (st) h z bc bs Kr Kx := q_iconst dX9_undo_25 (by decide) kk
theorem dX9_undo_26 : decode (i_b iX9_undo) 26 = .ok (.isub, 1) := by decide +kernel
theorem wX9_undo_26 {x y : Int32} (kk : QW V iX9_undo 27 [a0, a1] (.int (x - y) :: st) h z bc bs Kr Kx) : QW V iX9_undo 26 [a0, a1] (.int y :: .int x :: st) h z bc bs Kr Kx := q_isub dX9_undo_26 kk
theorem dX9_undo_27 : decode (i_b iX9_undo) 27 = .ok (.putfield 178, 3) := by decide +kernel
theorem wX9_undo_27 {o : Nat} {m : Nat → Int32} {x : Int32} (ha : h o = some (.inr (10, q_MF o m))) (kk : QW V iX9_undo 30 [a0, a1] (st) (q_up h o (.inr (10, q_MF o (upd m 2 x)))) z bc bs Kr Kx) : QW V iX9_undo 27 [a0, a1] (.int x :: .ref o :: st) h z bc bs Kr Kx := q_putf (k := 2) tyX9 dX9_undo_27 klX9 tyX9_ok nmX9 rfl (Nat.le_of_ble_eq_true rfl : 2 < 35) k5_215 rfl rfl rfl rfl (Nat.le_of_ble_eq_true rfl) ha (by rw [q_MF_2]; exact kk)
theorem wX9_undo_27u {o : Nat} {m : Nat → Int32} {x : Int32} (kk : QW V iX9_undo 30 [a0, a1] (st) (q_up h o (.inr (10, q_MF o (upd m 2 x)))) z bc bs Kr Kx) : QW V iX9_undo 27 [a0, a1] (.int x :: .ref o :: st) (q_up h o (.inr (10, q_MF o m))) z bc bs Kr Kx := wX9_undo_27 q_up_s (by rw [q_up_u]; exact kk)
theorem dX9_undo_30 : decode (i_b iX9_undo) 30 = .ok (.iconst 0, 1) := by decide +kernel
theorem wX9_undo_30  (kk : QW V iX9_undo 31 [a0, a1] (.int (0) :: st) h z bc bs Kr Kx) : QW V iX9_undo 30 [a0, a1] (st) h z bc bs Kr Kx := q_iconst dX9_undo_30 (by decide) kk
theorem dX9_undo_31 : decode (i_b iX9_undo) 31 = .ok (.istore_n 1, 1) := by decide +kernel
theorem wX9_undo_31 {x : Int32} (kk : QW V iX9_undo 32 [a0, some (.int x)] (st) h z bc bs Kr Kx) (hp : q_n2 a0 = true := by rfl) : QW V iX9_undo 31 [a0, a1] (.int x :: st) h z bc bs Kr Kx := q_istore_n dX9_undo_31 rfl (Nat.le_of_ble_eq_true rfl) hp kk
theorem dX9_undo_32 : decode (i_b iX9_undo) 32 = .ok (.iload_n 1, 1) := by decide +kernel
theorem wX9_undo_32 {x : Int32} (kk : QW V iX9_undo 33 [a0, some (.int x)] (.int x :: st) h z bc bs Kr Kx) : QW V iX9_undo 32 [a0, some (.int x)] (st) h z bc bs Kr Kx := q_iload_n dX9_undo_32 rfl rfl kk
theorem dX9_undo_33 : decode (i_b iX9_undo) 33 = .ok (.sipush 386, 3) := by decide +kernel
theorem wX9_undo_33  (kk : QW V iX9_undo 36 [a0, a1] (.int (386) :: st) h z bc bs Kr Kx) : QW V iX9_undo 33 [a0, a1] (st) h z bc bs Kr Kx := q_sipush dX9_undo_33 (by decide) kk
theorem dX9_undo_36 : decode (i_b iX9_undo) 36 = .ok (.if_icmp .ge 30, 3) := by decide +kernel
theorem wX9_undo_36 {x y : Int32} (kt : y ≤ x → QW V iX9_undo 66 [a0, a1] (st) h z bc bs Kr Kx) (kf : ¬ y ≤ x → QW V iX9_undo 39 [a0, a1] (st) h z bc bs Kr Kx) : QW V iX9_undo 36 [a0, a1] (.int y :: .int x :: st) h z bc bs Kr Kx := q_icmp_ge dX9_undo_36 (by decide) kt kf
theorem dX9_undo_39 : decode (i_b iX9_undo) 39 = .ok (.aload_n 0, 1) := by decide +kernel
theorem wX9_undo_39 {x : Nat} (kk : QW V iX9_undo 40 [some (.ref x), a1] (.ref x :: st) h z bc bs Kr Kx) : QW V iX9_undo 39 [some (.ref x), a1] (st) h z bc bs Kr Kx := q_aload_n dX9_undo_39 rfl rfl kk
theorem dX9_undo_40 : decode (i_b iX9_undo) 40 = .ok (.getfield 7, 3) := by decide +kernel
theorem wX9_undo_40 {o : Nat} {m : Nat → Int32} (ha : h o = some (.inr (10, q_MF o m))) (kk : QW V iX9_undo 43 [a0, a1] (.ref (o + 1) :: st) h z bc bs Kr Kx) : QW V iX9_undo 40 [a0, a1] (.ref o :: st) h z bc bs Kr Kx := q_getf (k := 0) dX9_undo_40 klX9 rfl (Nat.le_of_ble_eq_true rfl : 0 < 35) k5_213 rfl ha rfl kk
theorem wX9_undo_40u {o : Nat} {m : Nat → Int32} (kk : QW V iX9_undo 43 [a0, a1] (.ref (o + 1) :: st) (q_up h o (.inr (10, q_MF o m))) z bc bs Kr Kx) : QW V iX9_undo 40 [a0, a1] (.ref o :: st) (q_up h o (.inr (10, q_MF o m))) z bc bs Kr Kx := wX9_undo_40 q_up_s kk
theorem dX9_undo_43 : decode (i_b iX9_undo) 43 = .ok (.iload_n 1, 1) := by decide +kernel
theorem wX9_undo_43 {x : Int32} (kk : QW V iX9_undo 44 [a0, some (.int x)] (.int x :: st) h z bc bs Kr Kx) : QW V iX9_undo 43 [a0, some (.int x)] (st) h z bc bs Kr Kx := q_iload_n dX9_undo_43 rfl rfl kk
theorem dX9_undo_44 : decode (i_b iX9_undo) 44 = .ok (.aload_n 0, 1) := by decide +kernel
theorem wX9_undo_44 {x : Nat} (kk : QW V iX9_undo 45 [some (.ref x), a1] (.ref x :: st) h z bc bs Kr Kx) : QW V iX9_undo 44 [some (.ref x), a1] (st) h z bc bs Kr Kx := q_aload_n dX9_undo_44 rfl rfl kk
theorem dX9_undo_45 : decode (i_b iX9_undo) 45 = .ok (.getfield 13, 3) := by decide +kernel
theorem wX9_undo_45 {o : Nat} {m : Nat → Int32} (ha : h o = some (.inr (10, q_MF o m))) (kk : QW V iX9_undo 48 [a0, a1] (.ref (o + 2) :: st) h z bc bs Kr Kx) : QW V iX9_undo 45 [a0, a1] (.ref o :: st) h z bc bs Kr Kx := q_getf (k := 1) dX9_undo_45 klX9 rfl (Nat.le_of_ble_eq_true rfl : 1 < 35) k5_214 rfl ha rfl kk
theorem wX9_undo_45u {o : Nat} {m : Nat → Int32} (kk : QW V iX9_undo 48 [a0, a1] (.ref (o + 2) :: st) (q_up h o (.inr (10, q_MF o m))) z bc bs Kr Kx) : QW V iX9_undo 45 [a0, a1] (.ref o :: st) (q_up h o (.inr (10, q_MF o m))) z bc bs Kr Kx := wX9_undo_45 q_up_s kk
theorem dX9_undo_48 : decode (i_b iX9_undo) 48 = .ok (.sipush 386, 3) := by decide +kernel
theorem wX9_undo_48  (kk : QW V iX9_undo 51 [a0, a1] (.int (386) :: st) h z bc bs Kr Kx) : QW V iX9_undo 48 [a0, a1] (st) h z bc bs Kr Kx := q_sipush dX9_undo_48 (by decide) kk
theorem dX9_undo_51 : decode (i_b iX9_undo) 51 = .ok (.aload_n 0, 1) := by decide +kernel
theorem wX9_undo_51 {x : Nat} (kk : QW V iX9_undo 52 [some (.ref x), a1] (.ref x :: st) h z bc bs Kr Kx) : QW V iX9_undo 51 [some (.ref x), a1] (st) h z bc bs Kr Kx := q_aload_n dX9_undo_51 rfl rfl kk
theorem dX9_undo_52 : decode (i_b iX9_undo) 52 = .ok (.getfield 178, 3) := by decide +kernel
theorem wX9_undo_52 {o : Nat} {m : Nat → Int32} (ha : h o = some (.inr (10, q_MF o m))) (kk : QW V iX9_undo 55 [a0, a1] (.int (m 2) :: st) h z bc bs Kr Kx) : QW V iX9_undo 52 [a0, a1] (.ref o :: st) h z bc bs Kr Kx := q_getf (k := 2) dX9_undo_52 klX9 rfl (Nat.le_of_ble_eq_true rfl : 2 < 35) k5_215 rfl ha rfl kk
theorem wX9_undo_52u {o : Nat} {m : Nat → Int32} (kk : QW V iX9_undo 55 [a0, a1] (.int (m 2) :: st) (q_up h o (.inr (10, q_MF o m))) z bc bs Kr Kx) : QW V iX9_undo 52 [a0, a1] (.ref o :: st) (q_up h o (.inr (10, q_MF o m))) z bc bs Kr Kx := wX9_undo_52 q_up_s kk
theorem dX9_undo_55 : decode (i_b iX9_undo) 55 = .ok (.imul, 1) := by decide +kernel
theorem wX9_undo_55 {x y : Int32} (kk : QW V iX9_undo 56 [a0, a1] (.int (x * y) :: st) h z bc bs Kr Kx) : QW V iX9_undo 55 [a0, a1] (.int y :: .int x :: st) h z bc bs Kr Kx := q_imul dX9_undo_55 kk
theorem dX9_undo_56 : decode (i_b iX9_undo) 56 = .ok (.iload_n 1, 1) := by decide +kernel
theorem wX9_undo_56 {x : Int32} (kk : QW V iX9_undo 57 [a0, some (.int x)] (.int x :: st) h z bc bs Kr Kx) : QW V iX9_undo 56 [a0, some (.int x)] (st) h z bc bs Kr Kx := q_iload_n dX9_undo_56 rfl rfl kk
theorem dX9_undo_57 : decode (i_b iX9_undo) 57 = .ok (.iadd, 1) := by decide +kernel
theorem wX9_undo_57 {x y : Int32} (kk : QW V iX9_undo 58 [a0, a1] (.int (x + y) :: st) h z bc bs Kr Kx) : QW V iX9_undo 57 [a0, a1] (.int y :: .int x :: st) h z bc bs Kr Kx := q_iadd dX9_undo_57 kk
theorem dX9_undo_58 : decode (i_b iX9_undo) 58 = .ok (.laload, 1) := by decide +kernel
theorem wX9_undo_58 {a n j : Nat} {f : Nat → Int64} {i : Int32} (ha : h a = some (.inl (2, n, .inr (.inl f)))) (hi : i = nI j) (hj : j < n) (hn : n < 2147483648) (kk : QW V iX9_undo 59 [a0, a1] (.long (f j) :: st) h z bc bs Kr Kx) : QW V iX9_undo 58 [a0, a1] (.int i :: .ref a :: st) h z bc bs Kr Kx := q_lald dX9_undo_58 ha hi hj hn kk
theorem dX9_undo_59 : decode (i_b iX9_undo) 59 = .ok (.lastore, 1) := by decide +kernel
theorem wX9_undo_59 {a n j : Nat} {f : Nat → Int64} {i : Int32} {x : Int64} (ha : h a = some (.inl (2, n, .inr (.inl f)))) (hi : i = nI j) (hj : j < n) (hn : n < 2147483648) (kk : QW V iX9_undo 60 [a0, a1] (st) (q_up h a (.inl (2, n, .inr (.inl (vp_updL f j x))))) z bc bs Kr Kx) : QW V iX9_undo 59 [a0, a1] (.long x :: .int i :: .ref a :: st) h z bc bs Kr Kx := q_last dX9_undo_59 ha hi hj hn kk
theorem wX9_undo_59u {a n j : Nat} {f : Nat → Int64} {i : Int32} {x : Int64} (hi : i = nI j) (hj : j < n) (hn : n < 2147483648) (kk : QW V iX9_undo 60 [a0, a1] (st) (q_up h a (.inl (2, n, .inr (.inl (vp_updL f j x))))) z bc bs Kr Kx) : QW V iX9_undo 59 [a0, a1] (.long x :: .int i :: .ref a :: st) (q_up h a (.inl (2, n, .inr (.inl f)))) z bc bs Kr Kx := wX9_undo_59 q_up_s hi hj hn (by rw [q_up_u]; exact kk)
theorem dX9_undo_60 : decode (i_b iX9_undo) 60 = .ok (.iinc 1 1, 3) := by decide +kernel
theorem wX9_undo_60 {x : Int32} (kk : QW V iX9_undo 63 [a0, some (.int (x + (1)))] (st) h z bc bs Kr Kx) (hp : q_n2 a0 = true := by rfl) : QW V iX9_undo 60 [a0, some (.int x)] (st) h z bc bs Kr Kx := q_iinc (v := x + (1)) dX9_undo_60 rfl rfl (Nat.le_of_ble_eq_true rfl) hp kk
theorem dX9_undo_63 : decode (i_b iX9_undo) 63 = .ok (.goto (-31), 3) := by decide +kernel
theorem wX9_undo_63  (kk : QW V iX9_undo 32 [a0, a1] (st) h z bc bs Kr Kx) : QW V iX9_undo 63 [a0, a1] (st) h z bc bs Kr Kx := q_goto dX9_undo_63 (by decide) kk
theorem dX9_undo_66 : decode (i_b iX9_undo) 66 = .ok (.aload_n 0, 1) := by decide +kernel
theorem wX9_undo_66 {x : Nat} (kk : QW V iX9_undo 67 [some (.ref x), a1] (.ref x :: st) h z bc bs Kr Kx) : QW V iX9_undo 66 [some (.ref x), a1] (st) h z bc bs Kr Kx := q_aload_n dX9_undo_66 rfl rfl kk
theorem dX9_undo_67 : decode (i_b iX9_undo) 67 = .ok (.getfield 178, 3) := by decide +kernel
theorem wX9_undo_67 {o : Nat} {m : Nat → Int32} (ha : h o = some (.inr (10, q_MF o m))) (kk : QW V iX9_undo 70 [a0, a1] (.int (m 2) :: st) h z bc bs Kr Kx) : QW V iX9_undo 67 [a0, a1] (.ref o :: st) h z bc bs Kr Kx := q_getf (k := 2) dX9_undo_67 klX9 rfl (Nat.le_of_ble_eq_true rfl : 2 < 35) k5_215 rfl ha rfl kk
theorem wX9_undo_67u {o : Nat} {m : Nat → Int32} (kk : QW V iX9_undo 70 [a0, a1] (.int (m 2) :: st) (q_up h o (.inr (10, q_MF o m))) z bc bs Kr Kx) : QW V iX9_undo 67 [a0, a1] (.ref o :: st) (q_up h o (.inr (10, q_MF o m))) z bc bs Kr Kx := wX9_undo_67 q_up_s kk
theorem dX9_undo_70 : decode (i_b iX9_undo) 70 = .ok (.ireturn, 1) := by decide +kernel
theorem wX9_undo_70 {x : Int32} {P : Int32 → q_H → Option Nat → Prop} (hk : P x h z) : QW V iX9_undo 70 [a0, a1] [.int x] h z bc bs (q_Ki P) Kx := q_iret dX9_undo_70 rfl rfl ⟨x, rfl, hk⟩
theorem eX9_putAside {o : Nat} {P : q_H → Option Nat → Prop} (kk : QW V iX9_putAside 0 [some (.ref o), none] [] h z 0 0 (q_Kv P) Kx) : QMv V iX9_putAside [.ref o] h z P Kx := q_enter rfl (by decide +kernel) rfl (Nat.le_of_ble_eq_true rfl) kk
theorem dX9_putAside_0 : decode (i_b iX9_putAside) 0 = .ok (.iconst 0, 1) := by decide +kernel
theorem wX9_putAside_0  (kk : QW V iX9_putAside 1 [a0, a1] (.int (0) :: st) h z bc bs Kr Kx) : QW V iX9_putAside 0 [a0, a1] (st) h z bc bs Kr Kx := q_iconst dX9_putAside_0 (by decide) kk
theorem dX9_putAside_1 : decode (i_b iX9_putAside) 1 = .ok (.istore_n 1, 1) := by decide +kernel
theorem wX9_putAside_1 {x : Int32} (kk : QW V iX9_putAside 2 [a0, some (.int x)] (st) h z bc bs Kr Kx) (hp : q_n2 a0 = true := by rfl) : QW V iX9_putAside 1 [a0, a1] (.int x :: st) h z bc bs Kr Kx := q_istore_n dX9_putAside_1 rfl (Nat.le_of_ble_eq_true rfl) hp kk
theorem dX9_putAside_2 : decode (i_b iX9_putAside) 2 = .ok (.iload_n 1, 1) := by decide +kernel
theorem wX9_putAside_2 {x : Int32} (kk : QW V iX9_putAside 3 [a0, some (.int x)] (.int x :: st) h z bc bs Kr Kx) : QW V iX9_putAside 2 [a0, some (.int x)] (st) h z bc bs Kr Kx := q_iload_n dX9_putAside_2 rfl rfl kk
theorem dX9_putAside_3 : decode (i_b iX9_putAside) 3 = .ok (.sipush 386, 3) := by decide +kernel
theorem wX9_putAside_3  (kk : QW V iX9_putAside 6 [a0, a1] (.int (386) :: st) h z bc bs Kr Kx) : QW V iX9_putAside 3 [a0, a1] (st) h z bc bs Kr Kx := q_sipush dX9_putAside_3 (by decide) kk
theorem dX9_putAside_6 : decode (i_b iX9_putAside) 6 = .ok (.if_icmp .ge 21, 3) := by decide +kernel
theorem wX9_putAside_6 {x y : Int32} (kt : y ≤ x → QW V iX9_putAside 27 [a0, a1] (st) h z bc bs Kr Kx) (kf : ¬ y ≤ x → QW V iX9_putAside 9 [a0, a1] (st) h z bc bs Kr Kx) : QW V iX9_putAside 6 [a0, a1] (.int y :: .int x :: st) h z bc bs Kr Kx := q_icmp_ge dX9_putAside_6 (by decide) kt kf
theorem dX9_putAside_9 : decode (i_b iX9_putAside) 9 = .ok (.aload_n 0, 1) := by decide +kernel
theorem wX9_putAside_9 {x : Nat} (kk : QW V iX9_putAside 10 [some (.ref x), a1] (.ref x :: st) h z bc bs Kr Kx) : QW V iX9_putAside 9 [some (.ref x), a1] (st) h z bc bs Kr Kx := q_aload_n dX9_putAside_9 rfl rfl kk
theorem dX9_putAside_10 : decode (i_b iX9_putAside) 10 = .ok (.getfield 39, 3) := by decide +kernel
theorem wX9_putAside_10 {o : Nat} {m : Nat → Int32} (ha : h o = some (.inr (10, q_MF o m))) (kk : QW V iX9_putAside 13 [a0, a1] (.ref (o + 9) :: st) h z bc bs Kr Kx) : QW V iX9_putAside 10 [a0, a1] (.ref o :: st) h z bc bs Kr Kx := q_getf (k := 29) dX9_putAside_10 klX9 rfl (Nat.le_of_ble_eq_true rfl : 29 < 35) k6_2 rfl ha rfl kk
theorem wX9_putAside_10u {o : Nat} {m : Nat → Int32} (kk : QW V iX9_putAside 13 [a0, a1] (.ref (o + 9) :: st) (q_up h o (.inr (10, q_MF o m))) z bc bs Kr Kx) : QW V iX9_putAside 10 [a0, a1] (.ref o :: st) (q_up h o (.inr (10, q_MF o m))) z bc bs Kr Kx := wX9_putAside_10 q_up_s kk
theorem dX9_putAside_13 : decode (i_b iX9_putAside) 13 = .ok (.iload_n 1, 1) := by decide +kernel
theorem wX9_putAside_13 {x : Int32} (kk : QW V iX9_putAside 14 [a0, some (.int x)] (.int x :: st) h z bc bs Kr Kx) : QW V iX9_putAside 13 [a0, some (.int x)] (st) h z bc bs Kr Kx := q_iload_n dX9_putAside_13 rfl rfl kk
theorem dX9_putAside_14 : decode (i_b iX9_putAside) 14 = .ok (.aload_n 0, 1) := by decide +kernel
theorem wX9_putAside_14 {x : Nat} (kk : QW V iX9_putAside 15 [some (.ref x), a1] (.ref x :: st) h z bc bs Kr Kx) : QW V iX9_putAside 14 [some (.ref x), a1] (st) h z bc bs Kr Kx := q_aload_n dX9_putAside_14 rfl rfl kk
theorem dX9_putAside_15 : decode (i_b iX9_putAside) 15 = .ok (.getfield 7, 3) := by decide +kernel
theorem wX9_putAside_15 {o : Nat} {m : Nat → Int32} (ha : h o = some (.inr (10, q_MF o m))) (kk : QW V iX9_putAside 18 [a0, a1] (.ref (o + 1) :: st) h z bc bs Kr Kx) : QW V iX9_putAside 15 [a0, a1] (.ref o :: st) h z bc bs Kr Kx := q_getf (k := 0) dX9_putAside_15 klX9 rfl (Nat.le_of_ble_eq_true rfl : 0 < 35) k5_213 rfl ha rfl kk
theorem wX9_putAside_15u {o : Nat} {m : Nat → Int32} (kk : QW V iX9_putAside 18 [a0, a1] (.ref (o + 1) :: st) (q_up h o (.inr (10, q_MF o m))) z bc bs Kr Kx) : QW V iX9_putAside 15 [a0, a1] (.ref o :: st) (q_up h o (.inr (10, q_MF o m))) z bc bs Kr Kx := wX9_putAside_15 q_up_s kk
theorem dX9_putAside_18 : decode (i_b iX9_putAside) 18 = .ok (.iload_n 1, 1) := by decide +kernel
theorem wX9_putAside_18 {x : Int32} (kk : QW V iX9_putAside 19 [a0, some (.int x)] (.int x :: st) h z bc bs Kr Kx) : QW V iX9_putAside 18 [a0, some (.int x)] (st) h z bc bs Kr Kx := q_iload_n dX9_putAside_18 rfl rfl kk
theorem dX9_putAside_19 : decode (i_b iX9_putAside) 19 = .ok (.laload, 1) := by decide +kernel
theorem wX9_putAside_19 {a n j : Nat} {f : Nat → Int64} {i : Int32} (ha : h a = some (.inl (2, n, .inr (.inl f)))) (hi : i = nI j) (hj : j < n) (hn : n < 2147483648) (kk : QW V iX9_putAside 20 [a0, a1] (.long (f j) :: st) h z bc bs Kr Kx) : QW V iX9_putAside 19 [a0, a1] (.int i :: .ref a :: st) h z bc bs Kr Kx := q_lald dX9_putAside_19 ha hi hj hn kk
theorem dX9_putAside_20 : decode (i_b iX9_putAside) 20 = .ok (.lastore, 1) := by decide +kernel
theorem wX9_putAside_20 {a n j : Nat} {f : Nat → Int64} {i : Int32} {x : Int64} (ha : h a = some (.inl (2, n, .inr (.inl f)))) (hi : i = nI j) (hj : j < n) (hn : n < 2147483648) (kk : QW V iX9_putAside 21 [a0, a1] (st) (q_up h a (.inl (2, n, .inr (.inl (vp_updL f j x))))) z bc bs Kr Kx) : QW V iX9_putAside 20 [a0, a1] (.long x :: .int i :: .ref a :: st) h z bc bs Kr Kx := q_last dX9_putAside_20 ha hi hj hn kk
theorem wX9_putAside_20u {a n j : Nat} {f : Nat → Int64} {i : Int32} {x : Int64} (hi : i = nI j) (hj : j < n) (hn : n < 2147483648) (kk : QW V iX9_putAside 21 [a0, a1] (st) (q_up h a (.inl (2, n, .inr (.inl (vp_updL f j x))))) z bc bs Kr Kx) : QW V iX9_putAside 20 [a0, a1] (.long x :: .int i :: .ref a :: st) (q_up h a (.inl (2, n, .inr (.inl f)))) z bc bs Kr Kx := wX9_putAside_20 q_up_s hi hj hn (by rw [q_up_u]; exact kk)
theorem dX9_putAside_21 : decode (i_b iX9_putAside) 21 = .ok (.iinc 1 1, 3) := by decide +kernel
theorem wX9_putAside_21 {x : Int32} (kk : QW V iX9_putAside 24 [a0, some (.int (x + (1)))] (st) h z bc bs Kr Kx) (hp : q_n2 a0 = true := by rfl) : QW V iX9_putAside 21 [a0, some (.int x)] (st) h z bc bs Kr Kx := q_iinc (v := x + (1)) dX9_putAside_21 rfl rfl (Nat.le_of_ble_eq_true rfl) hp kk
theorem dX9_putAside_24 : decode (i_b iX9_putAside) 24 = .ok (.goto (-22), 3) := by decide +kernel
theorem wX9_putAside_24  (kk : QW V iX9_putAside 2 [a0, a1] (st) h z bc bs Kr Kx) : QW V iX9_putAside 24 [a0, a1] (st) h z bc bs Kr Kx := q_goto dX9_putAside_24 (by decide) kk
theorem dX9_putAside_27 : decode (i_b iX9_putAside) 27 = .ok (.return_, 1) := by decide +kernel
theorem wX9_putAside_27 {P : q_H → Option Nat → Prop} (hk : P h z) : QW V iX9_putAside 27 [a0, a1] [] h z bc bs (q_Kv P) Kx := q_vret dX9_putAside_27 rfl ⟨rfl, hk⟩
theorem eX9_takeBack {o : Nat} {P : q_H → Option Nat → Prop} (kk : QW V iX9_takeBack 0 [some (.ref o), none] [] h z 0 0 (q_Kv P) Kx) : QMv V iX9_takeBack [.ref o] h z P Kx := q_enter rfl (by decide +kernel) rfl (Nat.le_of_ble_eq_true rfl) kk
theorem dX9_takeBack_0 : decode (i_b iX9_takeBack) 0 = .ok (.iconst 0, 1) := by decide +kernel
theorem wX9_takeBack_0  (kk : QW V iX9_takeBack 1 [a0, a1] (.int (0) :: st) h z bc bs Kr Kx) : QW V iX9_takeBack 0 [a0, a1] (st) h z bc bs Kr Kx := q_iconst dX9_takeBack_0 (by decide) kk
theorem dX9_takeBack_1 : decode (i_b iX9_takeBack) 1 = .ok (.istore_n 1, 1) := by decide +kernel
theorem wX9_takeBack_1 {x : Int32} (kk : QW V iX9_takeBack 2 [a0, some (.int x)] (st) h z bc bs Kr Kx) (hp : q_n2 a0 = true := by rfl) : QW V iX9_takeBack 1 [a0, a1] (.int x :: st) h z bc bs Kr Kx := q_istore_n dX9_takeBack_1 rfl (Nat.le_of_ble_eq_true rfl) hp kk
theorem dX9_takeBack_2 : decode (i_b iX9_takeBack) 2 = .ok (.iload_n 1, 1) := by decide +kernel
theorem wX9_takeBack_2 {x : Int32} (kk : QW V iX9_takeBack 3 [a0, some (.int x)] (.int x :: st) h z bc bs Kr Kx) : QW V iX9_takeBack 2 [a0, some (.int x)] (st) h z bc bs Kr Kx := q_iload_n dX9_takeBack_2 rfl rfl kk
theorem dX9_takeBack_3 : decode (i_b iX9_takeBack) 3 = .ok (.sipush 386, 3) := by decide +kernel
theorem wX9_takeBack_3  (kk : QW V iX9_takeBack 6 [a0, a1] (.int (386) :: st) h z bc bs Kr Kx) : QW V iX9_takeBack 3 [a0, a1] (st) h z bc bs Kr Kx := q_sipush dX9_takeBack_3 (by decide) kk
theorem dX9_takeBack_6 : decode (i_b iX9_takeBack) 6 = .ok (.if_icmp .ge 21, 3) := by decide +kernel
theorem wX9_takeBack_6 {x y : Int32} (kt : y ≤ x → QW V iX9_takeBack 27 [a0, a1] (st) h z bc bs Kr Kx) (kf : ¬ y ≤ x → QW V iX9_takeBack 9 [a0, a1] (st) h z bc bs Kr Kx) : QW V iX9_takeBack 6 [a0, a1] (.int y :: .int x :: st) h z bc bs Kr Kx := q_icmp_ge dX9_takeBack_6 (by decide) kt kf
theorem dX9_takeBack_9 : decode (i_b iX9_takeBack) 9 = .ok (.aload_n 0, 1) := by decide +kernel
theorem wX9_takeBack_9 {x : Nat} (kk : QW V iX9_takeBack 10 [some (.ref x), a1] (.ref x :: st) h z bc bs Kr Kx) : QW V iX9_takeBack 9 [some (.ref x), a1] (st) h z bc bs Kr Kx := q_aload_n dX9_takeBack_9 rfl rfl kk
theorem dX9_takeBack_10 : decode (i_b iX9_takeBack) 10 = .ok (.getfield 7, 3) := by decide +kernel
theorem wX9_takeBack_10 {o : Nat} {m : Nat → Int32} (ha : h o = some (.inr (10, q_MF o m))) (kk : QW V iX9_takeBack 13 [a0, a1] (.ref (o + 1) :: st) h z bc bs Kr Kx) : QW V iX9_takeBack 10 [a0, a1] (.ref o :: st) h z bc bs Kr Kx := q_getf (k := 0) dX9_takeBack_10 klX9 rfl (Nat.le_of_ble_eq_true rfl : 0 < 35) k5_213 rfl ha rfl kk
theorem wX9_takeBack_10u {o : Nat} {m : Nat → Int32} (kk : QW V iX9_takeBack 13 [a0, a1] (.ref (o + 1) :: st) (q_up h o (.inr (10, q_MF o m))) z bc bs Kr Kx) : QW V iX9_takeBack 10 [a0, a1] (.ref o :: st) (q_up h o (.inr (10, q_MF o m))) z bc bs Kr Kx := wX9_takeBack_10 q_up_s kk
theorem dX9_takeBack_13 : decode (i_b iX9_takeBack) 13 = .ok (.iload_n 1, 1) := by decide +kernel
theorem wX9_takeBack_13 {x : Int32} (kk : QW V iX9_takeBack 14 [a0, some (.int x)] (.int x :: st) h z bc bs Kr Kx) : QW V iX9_takeBack 13 [a0, some (.int x)] (st) h z bc bs Kr Kx := q_iload_n dX9_takeBack_13 rfl rfl kk
theorem dX9_takeBack_14 : decode (i_b iX9_takeBack) 14 = .ok (.aload_n 0, 1) := by decide +kernel
theorem wX9_takeBack_14 {x : Nat} (kk : QW V iX9_takeBack 15 [some (.ref x), a1] (.ref x :: st) h z bc bs Kr Kx) : QW V iX9_takeBack 14 [some (.ref x), a1] (st) h z bc bs Kr Kx := q_aload_n dX9_takeBack_14 rfl rfl kk
theorem dX9_takeBack_15 : decode (i_b iX9_takeBack) 15 = .ok (.getfield 39, 3) := by decide +kernel
theorem wX9_takeBack_15 {o : Nat} {m : Nat → Int32} (ha : h o = some (.inr (10, q_MF o m))) (kk : QW V iX9_takeBack 18 [a0, a1] (.ref (o + 9) :: st) h z bc bs Kr Kx) : QW V iX9_takeBack 15 [a0, a1] (.ref o :: st) h z bc bs Kr Kx := q_getf (k := 29) dX9_takeBack_15 klX9 rfl (Nat.le_of_ble_eq_true rfl : 29 < 35) k6_2 rfl ha rfl kk
theorem wX9_takeBack_15u {o : Nat} {m : Nat → Int32} (kk : QW V iX9_takeBack 18 [a0, a1] (.ref (o + 9) :: st) (q_up h o (.inr (10, q_MF o m))) z bc bs Kr Kx) : QW V iX9_takeBack 15 [a0, a1] (.ref o :: st) (q_up h o (.inr (10, q_MF o m))) z bc bs Kr Kx := wX9_takeBack_15 q_up_s kk
theorem dX9_takeBack_18 : decode (i_b iX9_takeBack) 18 = .ok (.iload_n 1, 1) := by decide +kernel
theorem wX9_takeBack_18 {x : Int32} (kk : QW V iX9_takeBack 19 [a0, some (.int x)] (.int x :: st) h z bc bs Kr Kx) : QW V iX9_takeBack 18 [a0, some (.int x)] (st) h z bc bs Kr Kx := q_iload_n dX9_takeBack_18 rfl rfl kk
theorem dX9_takeBack_19 : decode (i_b iX9_takeBack) 19 = .ok (.laload, 1) := by decide +kernel
theorem wX9_takeBack_19 {a n j : Nat} {f : Nat → Int64} {i : Int32} (ha : h a = some (.inl (2, n, .inr (.inl f)))) (hi : i = nI j) (hj : j < n) (hn : n < 2147483648) (kk : QW V iX9_takeBack 20 [a0, a1] (.long (f j) :: st) h z bc bs Kr Kx) : QW V iX9_takeBack 19 [a0, a1] (.int i :: .ref a :: st) h z bc bs Kr Kx := q_lald dX9_takeBack_19 ha hi hj hn kk
theorem dX9_takeBack_20 : decode (i_b iX9_takeBack) 20 = .ok (.lastore, 1) := by decide +kernel
theorem wX9_takeBack_20 {a n j : Nat} {f : Nat → Int64} {i : Int32} {x : Int64} (ha : h a = some (.inl (2, n, .inr (.inl f)))) (hi : i = nI j) (hj : j < n) (hn : n < 2147483648) (kk : QW V iX9_takeBack 21 [a0, a1] (st) (q_up h a (.inl (2, n, .inr (.inl (vp_updL f j x))))) z bc bs Kr Kx) : QW V iX9_takeBack 20 [a0, a1] (.long x :: .int i :: .ref a :: st) h z bc bs Kr Kx := q_last dX9_takeBack_20 ha hi hj hn kk
theorem wX9_takeBack_20u {a n j : Nat} {f : Nat → Int64} {i : Int32} {x : Int64} (hi : i = nI j) (hj : j < n) (hn : n < 2147483648) (kk : QW V iX9_takeBack 21 [a0, a1] (st) (q_up h a (.inl (2, n, .inr (.inl (vp_updL f j x))))) z bc bs Kr Kx) : QW V iX9_takeBack 20 [a0, a1] (.long x :: .int i :: .ref a :: st) (q_up h a (.inl (2, n, .inr (.inl f)))) z bc bs Kr Kx := wX9_takeBack_20 q_up_s hi hj hn (by rw [q_up_u]; exact kk)
theorem dX9_takeBack_21 : decode (i_b iX9_takeBack) 21 = .ok (.iinc 1 1, 3) := by decide +kernel
theorem wX9_takeBack_21 {x : Int32} (kk : QW V iX9_takeBack 24 [a0, some (.int (x + (1)))] (st) h z bc bs Kr Kx) (hp : q_n2 a0 = true := by rfl) : QW V iX9_takeBack 21 [a0, some (.int x)] (st) h z bc bs Kr Kx := q_iinc (v := x + (1)) dX9_takeBack_21 rfl rfl (Nat.le_of_ble_eq_true rfl) hp kk
theorem dX9_takeBack_24 : decode (i_b iX9_takeBack) 24 = .ok (.goto (-22), 3) := by decide +kernel
theorem wX9_takeBack_24  (kk : QW V iX9_takeBack 2 [a0, a1] (st) h z bc bs Kr Kx) : QW V iX9_takeBack 24 [a0, a1] (st) h z bc bs Kr Kx := q_goto dX9_takeBack_24 (by decide) kk
theorem dX9_takeBack_27 : decode (i_b iX9_takeBack) 27 = .ok (.return_, 1) := by decide +kernel
theorem wX9_takeBack_27 {P : q_H → Option Nat → Prop} (hk : P h z) : QW V iX9_takeBack 27 [a0, a1] [] h z bc bs (q_Kv P) Kx := q_vret dX9_takeBack_27 rfl ⟨rfl, hk⟩
theorem eX9_isTeam {o : Nat} {x0 : Int32} {P : Int32 → q_H → Option Nat → Prop} (kk : QW V iX9_isTeam 0 [some (.ref o), some (.int x0)] [] h z 0 0 (q_Ki P) Kx) : QMi V iX9_isTeam [.ref o, .int x0] h z P Kx := q_enter rfl (by decide +kernel) rfl (Nat.le_of_ble_eq_true rfl) kk
theorem dX9_isTeam_0 : decode (i_b iX9_isTeam) 0 = .ok (.iload_n 1, 1) := by decide +kernel
theorem wX9_isTeam_0 {x : Int32} (kk : QW V iX9_isTeam 1 [a0, some (.int x)] (.int x :: st) h z bc bs Kr Kx) : QW V iX9_isTeam 0 [a0, some (.int x)] (st) h z bc bs Kr Kx := q_iload_n dX9_isTeam_0 rfl rfl kk
theorem dX9_isTeam_1 : decode (i_b iX9_isTeam) 1 = .ok (.i2l, 1) := by decide +kernel
theorem wX9_isTeam_1 {x : Int32} (kk : QW V iX9_isTeam 2 [a0, a1] (.long (x.toInt64) :: st) h z bc bs Kr Kx) : QW V iX9_isTeam 1 [a0, a1] (.int x :: st) h z bc bs Kr Kx := q_i2l dX9_isTeam_1 kk
theorem dX9_isTeam_2 : decode (i_b iX9_isTeam) 2 = .ok (.lconst 0, 1) := by decide +kernel
theorem wX9_isTeam_2  (kk : QW V iX9_isTeam 3 [a0, a1] (.long (0) :: st) h z bc bs Kr Kx) : QW V iX9_isTeam 2 [a0, a1] (st) h z bc bs Kr Kx := q_lconst dX9_isTeam_2 (by decide) kk
theorem dX9_isTeam_3 : decode (i_b iX9_isTeam) 3 = .ok (.aload_n 0, 1) := by decide +kernel
theorem wX9_isTeam_3 {x : Nat} (kk : QW V iX9_isTeam 4 [some (.ref x), a1] (.ref x :: st) h z bc bs Kr Kx) : QW V iX9_isTeam 3 [some (.ref x), a1] (st) h z bc bs Kr Kx := q_aload_n dX9_isTeam_3 rfl rfl kk
theorem dX9_isTeam_4 : decode (i_b iX9_isTeam) 4 = .ok (.getfield 196, 3) := by decide +kernel
theorem wX9_isTeam_4 {o : Nat} {m : Nat → Int32} (ha : h o = some (.inr (10, q_MF o m))) (kk : QW V iX9_isTeam 7 [a0, a1] (.int (m 5) :: st) h z bc bs Kr Kx) : QW V iX9_isTeam 4 [a0, a1] (.ref o :: st) h z bc bs Kr Kx := q_getf (k := 5) dX9_isTeam_4 klX9 rfl (Nat.le_of_ble_eq_true rfl : 5 < 35) k5_218 rfl ha rfl kk
theorem wX9_isTeam_4u {o : Nat} {m : Nat → Int32} (kk : QW V iX9_isTeam 7 [a0, a1] (.int (m 5) :: st) (q_up h o (.inr (10, q_MF o m))) z bc bs Kr Kx) : QW V iX9_isTeam 4 [a0, a1] (.ref o :: st) (q_up h o (.inr (10, q_MF o m))) z bc bs Kr Kx := wX9_isTeam_4 q_up_s kk
theorem dX9_isTeam_7 : decode (i_b iX9_isTeam) 7 = .ok (.iconst 1, 1) := by decide +kernel
theorem wX9_isTeam_7  (kk : QW V iX9_isTeam 8 [a0, a1] (.int (1) :: st) h z bc bs Kr Kx) : QW V iX9_isTeam 7 [a0, a1] (st) h z bc bs Kr Kx := q_iconst dX9_isTeam_7 (by decide) kk
theorem dX9_isTeam_8 : decode (i_b iX9_isTeam) 8 = .ok (.isub, 1) := by decide +kernel
theorem wX9_isTeam_8 {x y : Int32} (kk : QW V iX9_isTeam 9 [a0, a1] (.int (x - y) :: st) h z bc bs Kr Kx) : QW V iX9_isTeam 8 [a0, a1] (.int y :: .int x :: st) h z bc bs Kr Kx := q_isub dX9_isTeam_8 kk
theorem dX9_isTeam_9 : decode (i_b iX9_isTeam) 9 = .ok (.i2l, 1) := by decide +kernel
theorem wX9_isTeam_9 {x : Int32} (kk : QW V iX9_isTeam 10 [a0, a1] (.long (x.toInt64) :: st) h z bc bs Kr Kx) : QW V iX9_isTeam 9 [a0, a1] (.int x :: st) h z bc bs Kr Kx := q_i2l dX9_isTeam_9 kk
theorem dX9_isTeam_10 : decode (i_b iX9_isTeam) 10 = .ok (.invokestatic 65, 3) := by decide +kernel
theorem wX9_isTeam_10 {x0 : Int64} {x1 : Int64} {x2 : Int64} (hm : QMi V iX9_isIn [.long x0, .long x1, .long x2] h z (fun r h' z' => QW V iX9_isTeam 13 [a0, a1] (.int r :: st) h' z' bc bs Kr Kx) Kx) (hW : (st.map fun v => v.category).sum ≤ 8 := by exact Nat.le_of_ble_eq_true rfl) : QW V iX9_isTeam 10 [a0, a1] (.long x2 :: .long x1 :: .long x0 :: st) h z bc bs Kr Kx := q_callS (y' := iX9_isIn) (As := [.long x0, .long x1, .long x2]) (rest := st) dX9_isTeam_10 k6_96 k6_97 k1_10 hhX9_isIn rfl hdX9_isIn rfl (Nat.le_of_ble_eq_true rfl) (Nat.le_of_ble_eq_true rfl) hW rfl (QMi.run hm)
theorem dX9_isTeam_13 : decode (i_b iX9_isTeam) 13 = .ok (.ireturn, 1) := by decide +kernel
theorem wX9_isTeam_13 {x : Int32} {P : Int32 → q_H → Option Nat → Prop} (hk : P x h z) (hn : narrow .boolean (.int x) = .int x := by first | rfl | exact q_b_n _) : QW V iX9_isTeam 13 [a0, a1] [.int x] h z bc bs (q_Ki P) Kx := q_iret dX9_isTeam_13 rfl hn ⟨x, rfl, hk⟩
theorem eX9_isPlayer {o : Nat} {x0 : Int32} {P : Int32 → q_H → Option Nat → Prop} (kk : QW V iX9_isPlayer 0 [some (.ref o), some (.int x0)] [] h z 0 0 (q_Ki P) Kx) : QMi V iX9_isPlayer [.ref o, .int x0] h z P Kx := q_enter rfl (by decide +kernel) rfl (Nat.le_of_ble_eq_true rfl) kk
theorem dX9_isPlayer_0 : decode (i_b iX9_isPlayer) 0 = .ok (.iload_n 1, 1) := by decide +kernel
theorem wX9_isPlayer_0 {x : Int32} (kk : QW V iX9_isPlayer 1 [a0, some (.int x)] (.int x :: st) h z bc bs Kr Kx) : QW V iX9_isPlayer 0 [a0, some (.int x)] (st) h z bc bs Kr Kx := q_iload_n dX9_isPlayer_0 rfl rfl kk
theorem dX9_isPlayer_1 : decode (i_b iX9_isPlayer) 1 = .ok (.i2l, 1) := by decide +kernel
theorem wX9_isPlayer_1 {x : Int32} (kk : QW V iX9_isPlayer 2 [a0, a1] (.long (x.toInt64) :: st) h z bc bs Kr Kx) : QW V iX9_isPlayer 1 [a0, a1] (.int x :: st) h z bc bs Kr Kx := q_i2l dX9_isPlayer_1 kk
theorem dX9_isPlayer_2 : decode (i_b iX9_isPlayer) 2 = .ok (.lconst 0, 1) := by decide +kernel
theorem wX9_isPlayer_2  (kk : QW V iX9_isPlayer 3 [a0, a1] (.long (0) :: st) h z bc bs Kr Kx) : QW V iX9_isPlayer 2 [a0, a1] (st) h z bc bs Kr Kx := q_lconst dX9_isPlayer_2 (by decide) kk
theorem dX9_isPlayer_3 : decode (i_b iX9_isPlayer) 3 = .ok (.aload_n 0, 1) := by decide +kernel
theorem wX9_isPlayer_3 {x : Nat} (kk : QW V iX9_isPlayer 4 [some (.ref x), a1] (.ref x :: st) h z bc bs Kr Kx) : QW V iX9_isPlayer 3 [some (.ref x), a1] (st) h z bc bs Kr Kx := q_aload_n dX9_isPlayer_3 rfl rfl kk
theorem dX9_isPlayer_4 : decode (i_b iX9_isPlayer) 4 = .ok (.getfield 198, 3) := by decide +kernel
theorem wX9_isPlayer_4 {o : Nat} {m : Nat → Int32} (ha : h o = some (.inr (10, q_MF o m))) (kk : QW V iX9_isPlayer 7 [a0, a1] (.int (m 6) :: st) h z bc bs Kr Kx) : QW V iX9_isPlayer 4 [a0, a1] (.ref o :: st) h z bc bs Kr Kx := q_getf (k := 6) dX9_isPlayer_4 klX9 rfl (Nat.le_of_ble_eq_true rfl : 6 < 35) k5_219 rfl ha rfl kk
theorem wX9_isPlayer_4u {o : Nat} {m : Nat → Int32} (kk : QW V iX9_isPlayer 7 [a0, a1] (.int (m 6) :: st) (q_up h o (.inr (10, q_MF o m))) z bc bs Kr Kx) : QW V iX9_isPlayer 4 [a0, a1] (.ref o :: st) (q_up h o (.inr (10, q_MF o m))) z bc bs Kr Kx := wX9_isPlayer_4 q_up_s kk
theorem dX9_isPlayer_7 : decode (i_b iX9_isPlayer) 7 = .ok (.iconst 1, 1) := by decide +kernel
theorem wX9_isPlayer_7  (kk : QW V iX9_isPlayer 8 [a0, a1] (.int (1) :: st) h z bc bs Kr Kx) : QW V iX9_isPlayer 7 [a0, a1] (st) h z bc bs Kr Kx := q_iconst dX9_isPlayer_7 (by decide) kk
theorem dX9_isPlayer_8 : decode (i_b iX9_isPlayer) 8 = .ok (.isub, 1) := by decide +kernel
theorem wX9_isPlayer_8 {x y : Int32} (kk : QW V iX9_isPlayer 9 [a0, a1] (.int (x - y) :: st) h z bc bs Kr Kx) : QW V iX9_isPlayer 8 [a0, a1] (.int y :: .int x :: st) h z bc bs Kr Kx := q_isub dX9_isPlayer_8 kk
theorem dX9_isPlayer_9 : decode (i_b iX9_isPlayer) 9 = .ok (.i2l, 1) := by decide +kernel
theorem wX9_isPlayer_9 {x : Int32} (kk : QW V iX9_isPlayer 10 [a0, a1] (.long (x.toInt64) :: st) h z bc bs Kr Kx) : QW V iX9_isPlayer 9 [a0, a1] (.int x :: st) h z bc bs Kr Kx := q_i2l dX9_isPlayer_9 kk
theorem dX9_isPlayer_10 : decode (i_b iX9_isPlayer) 10 = .ok (.invokestatic 65, 3) := by decide +kernel
theorem wX9_isPlayer_10 {x0 : Int64} {x1 : Int64} {x2 : Int64} (hm : QMi V iX9_isIn [.long x0, .long x1, .long x2] h z (fun r h' z' => QW V iX9_isPlayer 13 [a0, a1] (.int r :: st) h' z' bc bs Kr Kx) Kx) (hW : (st.map fun v => v.category).sum ≤ 8 := by exact Nat.le_of_ble_eq_true rfl) : QW V iX9_isPlayer 10 [a0, a1] (.long x2 :: .long x1 :: .long x0 :: st) h z bc bs Kr Kx := q_callS (y' := iX9_isIn) (As := [.long x0, .long x1, .long x2]) (rest := st) dX9_isPlayer_10 k6_96 k6_97 k1_10 hhX9_isIn rfl hdX9_isIn rfl (Nat.le_of_ble_eq_true rfl) (Nat.le_of_ble_eq_true rfl) hW rfl (QMi.run hm)
theorem dX9_isPlayer_13 : decode (i_b iX9_isPlayer) 13 = .ok (.ireturn, 1) := by decide +kernel
theorem wX9_isPlayer_13 {x : Int32} {P : Int32 → q_H → Option Nat → Prop} (hk : P x h z) (hn : narrow .boolean (.int x) = .int x := by first | rfl | exact q_b_n _) : QW V iX9_isPlayer 13 [a0, a1] [.int x] h z bc bs (q_Ki P) Kx := q_iret dX9_isPlayer_13 rfl hn ⟨x, rfl, hk⟩
theorem eX9_isAhead {x0 : Int32} {P : Int32 → q_H → Option Nat → Prop} (kk : QW V iX9_isAhead 0 [some (.int x0)] [] h z 0 0 (q_Ki P) Kx) : QMi V iX9_isAhead [.int x0] h z P Kx := q_enter rfl (by decide +kernel) rfl (Nat.le_of_ble_eq_true rfl) kk
theorem dX9_isAhead_0 : decode (i_b iX9_isAhead) 0 = .ok (.iload_n 0, 1) := by decide +kernel
theorem wX9_isAhead_0 {x : Int32} (kk : QW V iX9_isAhead 1 [some (.int x)] (.int x :: st) h z bc bs Kr Kx) : QW V iX9_isAhead 0 [some (.int x)] (st) h z bc bs Kr Kx := q_iload_n dX9_isAhead_0 rfl rfl kk
theorem dX9_isAhead_1 : decode (i_b iX9_isAhead) 1 = .ok (.i2l, 1) := by decide +kernel
theorem wX9_isAhead_1 {x : Int32} (kk : QW V iX9_isAhead 2 [a0] (.long (x.toInt64) :: st) h z bc bs Kr Kx) : QW V iX9_isAhead 1 [a0] (.int x :: st) h z bc bs Kr Kx := q_i2l dX9_isAhead_1 kk
theorem dX9_isAhead_2 : decode (i_b iX9_isAhead) 2 = .ok (.lconst 0, 1) := by decide +kernel
theorem wX9_isAhead_2  (kk : QW V iX9_isAhead 3 [a0] (.long (0) :: st) h z bc bs Kr Kx) : QW V iX9_isAhead 2 [a0] (st) h z bc bs Kr Kx := q_lconst dX9_isAhead_2 (by decide) kk
theorem dX9_isAhead_3 : decode (i_b iX9_isAhead) 3 = .ok (.ldc2_w 207, 3) := by decide +kernel
theorem wX9_isAhead_3  (kk : QW V iX9_isAhead 6 [a0] (.long (11) :: st) h z bc bs Kr Kx) : QW V iX9_isAhead 3 [a0] (st) h z bc bs Kr Kx := q_ldc2 dX9_isAhead_3 k7_163 kk
theorem dX9_isAhead_6 : decode (i_b iX9_isAhead) 6 = .ok (.invokestatic 65, 3) := by decide +kernel
theorem wX9_isAhead_6 {x0 : Int64} {x1 : Int64} {x2 : Int64} (hm : QMi V iX9_isIn [.long x0, .long x1, .long x2] h z (fun r h' z' => QW V iX9_isAhead 9 [a0] (.int r :: st) h' z' bc bs Kr Kx) Kx) (hW : (st.map fun v => v.category).sum ≤ 8 := by exact Nat.le_of_ble_eq_true rfl) : QW V iX9_isAhead 6 [a0] (.long x2 :: .long x1 :: .long x0 :: st) h z bc bs Kr Kx := q_callS (y' := iX9_isIn) (As := [.long x0, .long x1, .long x2]) (rest := st) dX9_isAhead_6 k6_96 k6_97 k1_10 hhX9_isIn rfl hdX9_isIn rfl (Nat.le_of_ble_eq_true rfl) (Nat.le_of_ble_eq_true rfl) hW rfl (QMi.run hm)
theorem dX9_isAhead_9 : decode (i_b iX9_isAhead) 9 = .ok (.ireturn, 1) := by decide +kernel
theorem wX9_isAhead_9 {x : Int32} {P : Int32 → q_H → Option Nat → Prop} (hk : P x h z) (hn : narrow .boolean (.int x) = .int x := by first | rfl | exact q_b_n _) : QW V iX9_isAhead 9 [a0] [.int x] h z bc bs (q_Ki P) Kx := q_iret dX9_isAhead_9 rfl hn ⟨x, rfl, hk⟩
theorem eX9_hasContract {o : Nat} {x0 : Int32} {P : Int32 → q_H → Option Nat → Prop} (kk : QW V iX9_hasContract 0 [some (.ref o), some (.int x0)] [] h z 0 0 (q_Ki P) Kx) : QMi V iX9_hasContract [.ref o, .int x0] h z P Kx := q_enter rfl (by decide +kernel) rfl (Nat.le_of_ble_eq_true rfl) kk
theorem dX9_hasContract_0 : decode (i_b iX9_hasContract) 0 = .ok (.aload_n 0, 1) := by decide +kernel
theorem wX9_hasContract_0 {x : Nat} (kk : QW V iX9_hasContract 1 [some (.ref x), a1] (.ref x :: st) h z bc bs Kr Kx) : QW V iX9_hasContract 0 [some (.ref x), a1] (st) h z bc bs Kr Kx := q_aload_n dX9_hasContract_0 rfl rfl kk
theorem dX9_hasContract_1 : decode (i_b iX9_hasContract) 1 = .ok (.iload_n 1, 1) := by decide +kernel
theorem wX9_hasContract_1 {x : Int32} (kk : QW V iX9_hasContract 2 [a0, some (.int x)] (.int x :: st) h z bc bs Kr Kx) : QW V iX9_hasContract 1 [a0, some (.int x)] (st) h z bc bs Kr Kx := q_iload_n dX9_hasContract_1 rfl rfl kk
theorem dX9_hasContract_2 : decode (i_b iX9_hasContract) 2 = .ok (.iconst 0, 1) := by decide +kernel
theorem wX9_hasContract_2  (kk : QW V iX9_hasContract 3 [a0, a1] (.int (0) :: st) h z bc bs Kr Kx) : QW V iX9_hasContract 2 [a0, a1] (st) h z bc bs Kr Kx := q_iconst dX9_hasContract_2 (by decide) kk
theorem dX9_hasContract_3 : decode (i_b iX9_hasContract) 3 = .ok (.invokevirtual 209, 3) := by decide +kernel
theorem wX9_hasContract_3 {a : Nat} {fs : List Value} {x0 : Int32} {x1 : Int32} (hb : h a = some (.inr (10, fs))) (hm : QMi V iX9_ofPlayer [.ref a, .int x0, .int x1] h z (fun r h' z' => QW V iX9_hasContract 6 [a0, a1] (.int r :: st) h' z' bc bs Kr Kx) Kx) (hW : (st.map fun v => v.category).sum ≤ 8 := by exact Nat.le_of_ble_eq_true rfl) : QW V iX9_hasContract 3 [a0, a1] (.int x1 :: .int x0 :: .ref a :: st) h z bc bs Kr Kx := q_callV (y' := iX9_ofPlayer) (As := [.int x0, .int x1]) (rest := st) dX9_hasContract_3 k7_3 k7_5 ks_64 k1_10 hhX9_ofPlayer rfl hdX9_ofPlayer rfl rfl (Nat.le_of_ble_eq_true rfl) (Nat.le_of_ble_eq_true rfl) hW rfl hb (QMi.run hm)
theorem dX9_hasContract_6 : decode (i_b iX9_hasContract) 6 = .ok (.iconst (-1), 1) := by decide +kernel
theorem wX9_hasContract_6  (kk : QW V iX9_hasContract 7 [a0, a1] (.int (-1) :: st) h z bc bs Kr Kx) : QW V iX9_hasContract 6 [a0, a1] (st) h z bc bs Kr Kx := q_iconst dX9_hasContract_6 (by decide) kk
theorem dX9_hasContract_7 : decode (i_b iX9_hasContract) 7 = .ok (.if_icmp .eq 7, 3) := by decide +kernel
theorem wX9_hasContract_7 {x y : Int32} (kt : x = y → QW V iX9_hasContract 14 [a0, a1] (st) h z bc bs Kr Kx) (kf : ¬ x = y → QW V iX9_hasContract 10 [a0, a1] (st) h z bc bs Kr Kx) : QW V iX9_hasContract 7 [a0, a1] (.int y :: .int x :: st) h z bc bs Kr Kx := q_icmp_eq dX9_hasContract_7 (by decide) kt kf
theorem dX9_hasContract_10 : decode (i_b iX9_hasContract) 10 = .ok (.iconst 1, 1) := by decide +kernel
theorem wX9_hasContract_10  (kk : QW V iX9_hasContract 11 [a0, a1] (.int (1) :: st) h z bc bs Kr Kx) : QW V iX9_hasContract 10 [a0, a1] (st) h z bc bs Kr Kx := q_iconst dX9_hasContract_10 (by decide) kk
theorem dX9_hasContract_11 : decode (i_b iX9_hasContract) 11 = .ok (.goto 4, 3) := by decide +kernel
theorem wX9_hasContract_11  (kk : QW V iX9_hasContract 15 [a0, a1] (st) h z bc bs Kr Kx) : QW V iX9_hasContract 11 [a0, a1] (st) h z bc bs Kr Kx := q_goto dX9_hasContract_11 (by decide) kk
theorem dX9_hasContract_14 : decode (i_b iX9_hasContract) 14 = .ok (.iconst 0, 1) := by decide +kernel
theorem wX9_hasContract_14  (kk : QW V iX9_hasContract 15 [a0, a1] (.int (0) :: st) h z bc bs Kr Kx) : QW V iX9_hasContract 14 [a0, a1] (st) h z bc bs Kr Kx := q_iconst dX9_hasContract_14 (by decide) kk
theorem dX9_hasContract_15 : decode (i_b iX9_hasContract) 15 = .ok (.ireturn, 1) := by decide +kernel
theorem wX9_hasContract_15 {x : Int32} {P : Int32 → q_H → Option Nat → Prop} (hk : P x h z) (hn : narrow .boolean (.int x) = .int x := by first | rfl | exact q_b_n _) : QW V iX9_hasContract 15 [a0, a1] [.int x] h z bc bs (q_Ki P) Kx := q_iret dX9_hasContract_15 rfl hn ⟨x, rfl, hk⟩
end QX9a
