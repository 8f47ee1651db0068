section QXLL
variable {V : q_En} {st : List Value} {h : q_H} {z : Option Nat} {bc bs : Nat} {Kr : q_KR} {Kx : q_KX} {a0 a1 a2 a3 a4 a5 a6 a7 a8 a9 a10 a11 a12 a13 a14 a15 : Option Value}

theorem dL_law_0 : decode (i_b iL_law) 0 = .ok (.new 8, 3) := by decide +kernel
theorem wL_law_0 {n : Nat} (kk : QW V iL_law 3 [a0, a1, a2, a3, a4, a5, a6, a7, a8] (.ref n :: st) (q_up h n (.inr (9, [.null,.int 0,.int 0,.null,.null,.null,.int 0,.null,.null,.null,.null]))) (some (n + 1)) bc bs Kr Kx) : QW V iL_law 0 [a0, a1, a2, a3, a4, a5, a6, a7, a8] (st) h (some n) (bc + 1) (bs + 11) Kr Kx := q_new tyX8 dL_law_0 k1_25 k1_26 k1_1 klX8 tyX8_ok rfl (by decide) kk
theorem dL_law_3 : decode (i_b iL_law) 3 = .ok (.dup, 1) := by decide +kernel
theorem wL_law_3 {v : Value} (kk : QW V iL_law 4 [a0, a1, a2, a3, a4, a5, a6, a7, a8] (v :: v :: st) h z bc bs Kr Kx) (hv : v.category = 1 := by rfl) : QW V iL_law 3 [a0, a1, a2, a3, a4, a5, a6, a7, a8] (v :: st) h z bc bs Kr Kx := q_dup dL_law_3 hv kk
theorem dL_law_4 : decode (i_b iL_law) 4 = .ok (.invokespecial 140, 3) := by decide +kernel
theorem wL_law_4 {a : Nat}  (hm : QMv V iX8_init [.ref a] h z (fun h' z' => QW V iL_law 7 [a0, a1, a2, a3, a4, a5, a6, a7, a8] (st) h' z' bc bs Kr Kx) (fun _ _ => False)) (hW : (st.map fun v => v.category).sum ≤ 8 := by exact Nat.le_of_ble_eq_true rfl) : QW V iL_law 4 [a0, a1, a2, a3, a4, a5, a6, a7, a8] (.ref a :: st) h z (bc + 740) (bs + 5923) Kr Kx := q_callI (y' := iX8_init) (As := []) (rest := st) dL_law_4 (Or.inl k1_27) k1_28 k1_1 hhX8_init rfl rfl rfl hdX8_init rfl (Nat.le_of_ble_eq_true rfl) (Nat.le_of_ble_eq_true rfl) hW (QMv.run hm)
theorem dL_law_7 : decode (i_b iL_law) 7 = .ok (.astore_n 1, 1) := by decide +kernel
theorem wL_law_7 {x : Nat} (kk : QW V iL_law 8 [a0, some (.ref x), a2, a3, a4, a5, a6, a7, a8] (st) h z bc bs Kr Kx) (hp : q_n2 a0 = true := by rfl) : QW V iL_law 7 [a0, a1, a2, a3, a4, a5, a6, a7, a8] (.ref x :: st) h z bc bs Kr Kx := q_astore_n dL_law_7 rfl (Nat.le_of_ble_eq_true rfl) hp kk
theorem dL_law_8 : decode (i_b iL_law) 8 = .ok (.new 141, 3) := by decide +kernel
theorem wL_law_8 {n : Nat} (kk : QW V iL_law 11 [a0, a1, a2, a3, a4, a5, a6, a7, a8] (.ref n :: st) (q_up h n (.inr (10, [.null,.null,.int 0,.int 0,.int 0,.int 0,.int 0,.int 0,.int 0,.int 0,.int 0,.int 0,.int 0,.null,.null,.null,.int 0,.int 0,.int 0,.int 0,.int 0,.int 0,.int 0,.int 0,.null,.null,.int 0,.null,.int 0,.null,.null,.null,.null,.int 0,.int 0]))) (some (n + 1)) bc bs Kr Kx) : QW V iL_law 8 [a0, a1, a2, a3, a4, a5, a6, a7, a8] (st) h (some n) (bc + 1) (bs + 35) Kr Kx := q_new tyX9 dL_law_8 k5_207 k5_208 k1_10 klX9 tyX9_ok rfl (by decide) kk
theorem dL_law_11 : decode (i_b iL_law) 11 = .ok (.dup, 1) := by decide +kernel
theorem wL_law_11 {v : Value} (kk : QW V iL_law 12 [a0, a1, a2, a3, a4, a5, a6, a7, a8] (v :: v :: st) h z bc bs Kr Kx) (hv : v.category = 1 := by rfl) : QW V iL_law 11 [a0, a1, a2, a3, a4, a5, a6, a7, a8] (v :: st) h z bc bs Kr Kx := q_dup dL_law_11 hv kk
theorem dL_law_12 : decode (i_b iL_law) 12 = .ok (.invokespecial 143, 3) := by decide +kernel
theorem wL_law_12 {a : Nat}  (hm : QMv V iX9_init [.ref a] h z (fun h' z' => QW V iL_law 15 [a0, a1, a2, a3, a4, a5, a6, a7, a8] (st) h' z' bc bs Kr Kx) (fun _ _ => False)) (hW : (st.map fun v => v.category).sum ≤ 8 := by exact Nat.le_of_ble_eq_true rfl) : QW V iL_law 12 [a0, a1, a2, a3, a4, a5, a6, a7, a8] (.ref a :: st) h z (bc + 12) (bs + 5831) Kr Kx := q_callI (y' := iX9_init) (As := []) (rest := st) dL_law_12 (Or.inl k5_209) k5_210 k1_10 hhX9_init rfl rfl rfl hdX9_init rfl (Nat.le_of_ble_eq_true rfl) (Nat.le_of_ble_eq_true rfl) hW (QMv.run hm)
theorem dL_law_15 : decode (i_b iL_law) 15 = .ok (.astore_n 2, 1) := by decide +kernel
theorem wL_law_15 {x : Nat} (kk : QW V iL_law 16 [a0, a1, some (.ref x), a3, a4, a5, a6, a7, a8] (st) h z bc bs Kr Kx) (hp : q_n2 a1 = true := by rfl) : QW V iL_law 15 [a0, a1, a2, a3, a4, a5, a6, a7, a8] (.ref x :: st) h z bc bs Kr Kx := q_astore_n dL_law_15 rfl (Nat.le_of_ble_eq_true rfl) hp kk
theorem dL_law_16 : decode (i_b iL_law) 16 = .ok (.iconst 1, 1) := by decide +kernel
theorem wL_law_16  (kk : QW V iL_law 17 [a0, a1, a2, a3, a4, a5, a6, a7, a8] (.int (1) :: st) h z bc bs Kr Kx) : QW V iL_law 16 [a0, a1, a2, a3, a4, a5, a6, a7, a8] (st) h z bc bs Kr Kx := q_iconst dL_law_16 (by decide) kk
theorem dL_law_17 : decode (i_b iL_law) 17 = .ok (.newarray .long, 2) := by decide +kernel
theorem wL_law_17 {n N : Nat} {i : Int32} (hi : i = nI N) (hN : N < 4096) (kk : QW V iL_law 19 [a0, a1, a2, a3, a4, a5, a6, a7, a8] (.ref n :: st) (q_up h n (.inl (2, N, .inr (.inl fun _ => 0)))) (some (n + 1)) bc bs Kr Kx) : QW V iL_law 17 [a0, a1, a2, a3, a4, a5, a6, a7, a8] (.int i :: st) h (some n) (bc + 1) (bs + N) Kr Kx := q_newarr (t := 2) dL_law_17 k6_79 rfl (fun _ _ q => q) hi hN (by decide) (fun _ => rfl) kk
theorem dL_law_19 : decode (i_b iL_law) 19 = .ok (.astore_n 3, 1) := by decide +kernel
theorem wL_law_19 {x : Nat} (kk : QW V iL_law 20 [a0, a1, a2, some (.ref x), a4, a5, a6, a7, a8] (st) h z bc bs Kr Kx) (hp : q_n2 a2 = true := by rfl) : QW V iL_law 19 [a0, a1, a2, a3, a4, a5, a6, a7, a8] (.ref x :: st) h z bc bs Kr Kx := q_astore_n dL_law_19 rfl (Nat.le_of_ble_eq_true rfl) hp kk
theorem dL_law_20 : decode (i_b iL_law) 20 = .ok (.iconst 1, 1) := by decide +kernel
theorem wL_law_20  (kk : QW V iL_law 21 [a0, a1, a2, a3, a4, a5, a6, a7, a8] (.int (1) :: st) h z bc bs Kr Kx) : QW V iL_law 20 [a0, a1, a2, a3, a4, a5, a6, a7, a8] (st) h z bc bs Kr Kx := q_iconst dL_law_20 (by decide) kk
theorem dL_law_21 : decode (i_b iL_law) 21 = .ok (.newarray .double, 2) := by decide +kernel
theorem wL_law_21 {n N : Nat} {i : Int32} (hi : i = nI N) (hN : N < 4096) (kk : QW V iL_law 23 [a0, a1, a2, a3, a4, a5, a6, a7, a8] (.ref n :: st) (q_up h n (.inl (3, N, .inr (.inr (.inr (.inl fun _ => 0)))))) (some (n + 1)) bc bs Kr Kx) : QW V iL_law 21 [a0, a1, a2, a3, a4, a5, a6, a7, a8] (.int i :: st) h (some n) (bc + 1) (bs + N) Kr Kx := q_newarr (t := 3) dL_law_21 k8_60 rfl (fun _ _ q => q) hi hN (by decide) (fun _ => rfl) kk
theorem dL_law_23 : decode (i_b iL_law) 23 = .ok (.astore 4, 2) := by decide +kernel
theorem wL_law_23 {x : Nat} (kk : QW V iL_law 25 [a0, a1, a2, a3, some (.ref x), a5, a6, a7, a8] (st) h z bc bs Kr Kx) (hp : q_n2 a3 = true := by rfl) : QW V iL_law 23 [a0, a1, a2, a3, a4, a5, a6, a7, a8] (.ref x :: st) h z bc bs Kr Kx := q_astore dL_law_23 (Nat.le_of_ble_eq_true rfl) hp kk
theorem dL_law_25 : decode (i_b iL_law) 25 = .ok (.iconst 0, 1) := by decide +kernel
theorem wL_law_25  (kk : QW V iL_law 26 [a0, a1, a2, a3, a4, a5, a6, a7, a8] (.int (0) :: st) h z bc bs Kr Kx) : QW V iL_law 25 [a0, a1, a2, a3, a4, a5, a6, a7, a8] (st) h z bc bs Kr Kx := q_iconst dL_law_25 (by decide) kk
theorem dL_law_26 : decode (i_b iL_law) 26 = .ok (.istore 5, 2) := by decide +kernel
theorem wL_law_26 {x : Int32} (kk : QW V iL_law 28 [a0, a1, a2, a3, a4, some (.int x), a6, a7, a8] (st) h z bc bs Kr Kx) (hp : q_n2 a4 = true := by rfl) : QW V iL_law 26 [a0, a1, a2, a3, a4, a5, a6, a7, a8] (.int x :: st) h z bc bs Kr Kx := q_istore dL_law_26 (Nat.le_of_ble_eq_true rfl) hp kk
theorem dL_law_28 : decode (i_b iL_law) 28 = .ok (.iload 5, 2) := by decide +kernel
theorem wL_law_28 {x : Int32} (kk : QW V iL_law 30 [a0, a1, a2, a3, a4, some (.int x), a6, a7, a8] (.int x :: st) h z bc bs Kr Kx) : QW V iL_law 28 [a0, a1, a2, a3, a4, some (.int x), a6, a7, a8] (st) h z bc bs Kr Kx := q_iload dL_law_28 rfl kk
theorem dL_law_30 : decode (i_b iL_law) 30 = .ok (.aload_n 0, 1) := by decide +kernel
theorem wL_law_30 {x : Nat} (kk : QW V iL_law 31 [some (.ref x), a1, a2, a3, a4, a5, a6, a7, a8] (.ref x :: st) h z bc bs Kr Kx) : QW V iL_law 30 [some (.ref x), a1, a2, a3, a4, a5, a6, a7, a8] (st) h z bc bs Kr Kx := q_aload_n dL_law_30 rfl rfl kk
theorem dL_law_31 : decode (i_b iL_law) 31 = .ok (.arraylength, 1) := by decide +kernel
theorem wL_law_31  (kk : QW V iL_law 32 [a0, a1, a2, a3, a4, a5, a6, a7, a8] (.int (nI (e_sL V)) :: st) h z bc bs Kr Kx) : QW V iL_law 31 [a0, a1, a2, a3, a4, a5, a6, a7, a8] (.ref (e_sb V) :: st) h z bc bs Kr Kx := q_slen dL_law_31 kk
theorem dL_law_32 : decode (i_b iL_law) 32 = .ok (.bipush 6, 2) := by decide +kernel
theorem wL_law_32  (kk : QW V iL_law 34 [a0, a1, a2, a3, a4, a5, a6, a7, a8] (.int (6) :: st) h z bc bs Kr Kx) : QW V iL_law 32 [a0, a1, a2, a3, a4, a5, a6, a7, a8] (st) h z bc bs Kr Kx := q_bipush dL_law_32 (by decide) kk
theorem dL_law_34 : decode (i_b iL_law) 34 = .ok (.isub, 1) := by decide +kernel
theorem wL_law_34 {x y : Int32} (kk : QW V iL_law 35 [a0, a1, a2, a3, a4, a5, a6, a7, a8] (.int (x - y) :: st) h z bc bs Kr Kx) : QW V iL_law 34 [a0, a1, a2, a3, a4, a5, a6, a7, a8] (.int y :: .int x :: st) h z bc bs Kr Kx := q_isub dL_law_34 kk
theorem dL_law_35 : decode (i_b iL_law) 35 = .ok (.if_icmp .gt 2722, 3) := by decide +kernel
theorem wL_law_35 {x y : Int32} (kt : y < x → QW V iL_law 2757 [a0, a1, a2, a3, a4, a5, a6, a7, a8] (st) h z bc bs Kr Kx) (kf : ¬ y < x → QW V iL_law 38 [a0, a1, a2, a3, a4, a5, a6, a7, a8] (st) h z bc bs Kr Kx) : QW V iL_law 35 [a0, a1, a2, a3, a4, a5, a6, a7, a8] (.int y :: .int x :: st) h z bc bs Kr Kx := q_icmp_gt dL_law_35 (by decide) kt kf
theorem dL_law_38 : decode (i_b iL_law) 38 = .ok (.aload_n 0, 1) := by decide +kernel
theorem wL_law_38 {x : Nat} (kk : QW V iL_law 39 [some (.ref x), a1, a2, a3, a4, a5, a6, a7, a8] (.ref x :: st) h z bc bs Kr Kx) : QW V iL_law 38 [some (.ref x), a1, a2, a3, a4, a5, a6, a7, a8] (st) h z bc bs Kr Kx := q_aload_n dL_law_38 rfl rfl kk
theorem dL_law_39 : decode (i_b iL_law) 39 = .ok (.iload 5, 2) := by decide +kernel
theorem wL_law_39 {x : Int32} (kk : QW V iL_law 41 [a0, a1, a2, a3, a4, some (.int x), a6, a7, a8] (.int x :: st) h z bc bs Kr Kx) : QW V iL_law 39 [a0, a1, a2, a3, a4, some (.int x), a6, a7, a8] (st) h z bc bs Kr Kx := q_iload dL_law_39 rfl kk
theorem dL_law_41 : decode (i_b iL_law) 41 = .ok (.iaload, 1) := by decide +kernel
theorem wL_law_41 {j : Nat} {i : Int32} (hi : i = nI j) (hj : j < e_sL V) (hn : e_sL V < 2147483648) (kk : QW V iL_law 42 [a0, a1, a2, a3, a4, a5, a6, a7, a8] (.int (e_xs V j) :: st) h z bc bs Kr Kx) : QW V iL_law 41 [a0, a1, a2, a3, a4, a5, a6, a7, a8] (.int i :: .ref (e_sb V) :: st) h z bc bs Kr Kx := q_sld dL_law_41 hi hj hn kk
theorem dL_law_42 : decode (i_b iL_law) 42 = .ok (.bipush 63, 2) := by decide +kernel
theorem wL_law_42  (kk : QW V iL_law 44 [a0, a1, a2, a3, a4, a5, a6, a7, a8] (.int (63) :: st) h z bc bs Kr Kx) : QW V iL_law 42 [a0, a1, a2, a3, a4, a5, a6, a7, a8] (st) h z bc bs Kr Kx := q_bipush dL_law_42 (by decide) kk
theorem dL_law_44 : decode (i_b iL_law) 44 = .ok (.iand, 1) := by decide +kernel
theorem wL_law_44 {x y : Int32} (kk : QW V iL_law 45 [a0, a1, a2, a3, a4, a5, a6, a7, a8] (.int (x &&& y) :: st) h z bc bs Kr Kx) : QW V iL_law 44 [a0, a1, a2, a3, a4, a5, a6, a7, a8] (.int y :: .int x :: st) h z bc bs Kr Kx := q_iand dL_law_44 kk
theorem dL_law_45 : decode (i_b iL_law) 45 = .ok (.tableswitch 2706 0 38 #[171, 275, 331, 344, 357, 461, 541, 625, 717, 760, 804, 860, 916, 972, 1040, 1108, 1164, 1219, 1274, 1330, 1386, 1442, 1510, 1578, 1646, 1714, 1770, 1847, 1927, 1995, 2075, 2171, 2255, 2311, 2367, 2459, 2527, 2595, 2662], 171) := by decide +kernel
theorem wL_law_45 {x : Int32} (k0 : x = 0 → QW V iL_law 216 [a0, a1, a2, a3, a4, a5, a6, a7, a8] (st) h z bc bs Kr Kx) (k1 : x = 1 → QW V iL_law 320 [a0, a1, a2, a3, a4, a5, a6, a7, a8] (st) h z bc bs Kr Kx) (k2 : x = 2 → QW V iL_law 376 [a0, a1, a2, a3, a4, a5, a6, a7, a8] (st) h z bc bs Kr Kx) (k3 : x = 3 → QW V iL_law 389 [a0, a1, a2, a3, a4, a5, a6, a7, a8] (st) h z bc bs Kr Kx) (k4 : x = 4 → QW V iL_law 402 [a0, a1, a2, a3, a4, a5, a6, a7, a8] (st) h z bc bs Kr Kx) (k5 : x = 5 → QW V iL_law 506 [a0, a1, a2, a3, a4, a5, a6, a7, a8] (st) h z bc bs Kr Kx) (k6 : x = 6 → QW V iL_law 586 [a0, a1, a2, a3, a4, a5, a6, a7, a8] (st) h z bc bs Kr Kx) (k7 : x = 7 → QW V iL_law 670 [a0, a1, a2, a3, a4, a5, a6, a7, a8] (st) h z bc bs Kr Kx) (k8 : x = 8 → QW V iL_law 762 [a0, a1, a2, a3, a4, a5, a6, a7, a8] (st) h z bc bs Kr Kx) (k9 : x = 9 → QW V iL_law 805 [a0, a1, a2, a3, a4, a5, a6, a7, a8] (st) h z bc bs Kr Kx) (k10 : x = 10 → QW V iL_law 849 [a0, a1, a2, a3, a4, a5, a6, a7, a8] (st) h z bc bs Kr Kx) (k11 : x = 11 → QW V iL_law 905 [a0, a1, a2, a3, a4, a5, a6, a7, a8] (st) h z bc bs Kr Kx) (k12 : x = 12 → QW V iL_law 961 [a0, a1, a2, a3, a4, a5, a6, a7, a8] (st) h z bc bs Kr Kx) (k13 : x = 13 → QW V iL_law 1017 [a0, a1, a2, a3, a4, a5, a6, a7, a8] (st) h z bc bs Kr Kx) (k14 : x = 14 → QW V iL_law 1085 [a0, a1, a2, a3, a4, a5, a6, a7, a8] (st) h z bc bs Kr Kx) (k15 : x = 15 → QW V iL_law 1153 [a0, a1, a2, a3, a4, a5, a6, a7, a8] (st) h z bc bs Kr Kx) (k16 : x = 16 → QW V iL_law 1209 [a0, a1, a2, a3, a4, a5, a6, a7, a8] (st) h z bc bs Kr Kx) (k17 : x = 17 → QW V iL_law 1264 [a0, a1, a2, a3, a4, a5, a6, a7, a8] (st) h z bc bs Kr Kx) (k18 : x = 18 → QW V iL_law 1319 [a0, a1, a2, a3, a4, a5, a6, a7, a8] (st) h z bc bs Kr Kx) (k19 : x = 19 → QW V iL_law 1375 [a0, a1, a2, a3, a4, a5, a6, a7, a8] (st) h z bc bs Kr Kx) (k20 : x = 20 → QW V iL_law 1431 [a0, a1, a2, a3, a4, a5, a6, a7, a8] (st) h z bc bs Kr Kx) (k21 : x = 21 → QW V iL_law 1487 [a0, a1, a2, a3, a4, a5, a6, a7, a8] (st) h z bc bs Kr Kx) (k22 : x = 22 → QW V iL_law 1555 [a0, a1, a2, a3, a4, a5, a6, a7, a8] (st) h z bc bs Kr Kx) (k23 : x = 23 → QW V iL_law 1623 [a0, a1, a2, a3, a4, a5, a6, a7, a8] (st) h z bc bs Kr Kx) (k24 : x = 24 → QW V iL_law 1691 [a0, a1, a2, a3, a4, a5, a6, a7, a8] (st) h z bc bs Kr Kx) (k25 : x = 25 → QW V iL_law 1759 [a0, a1, a2, a3, a4, a5, a6, a7, a8] (st) h z bc bs Kr Kx) (k26 : x = 26 → QW V iL_law 1815 [a0, a1, a2, a3, a4, a5, a6, a7, a8] (st) h z bc bs Kr Kx) (k27 : x = 27 → QW V iL_law 1892 [a0, a1, a2, a3, a4, a5, a6, a7, a8] (st) h z bc bs Kr Kx) (k28 : x = 28 → QW V iL_law 1972 [a0, a1, a2, a3, a4, a5, a6, a7, a8] (st) h z bc bs Kr Kx) (k29 : x = 29 → QW V iL_law 2040 [a0, a1, a2, a3, a4, a5, a6, a7, a8] (st) h z bc bs Kr Kx) (k30 : x = 30 → QW V iL_law 2120 [a0, a1, a2, a3, a4, a5, a6, a7, a8] (st) h z bc bs Kr Kx) (k31 : x = 31 → QW V iL_law 2216 [a0, a1, a2, a3, a4, a5, a6, a7, a8] (st) h z bc bs Kr Kx) (k32 : x = 32 → QW V iL_law 2300 [a0, a1, a2, a3, a4, a5, a6, a7, a8] (st) h z bc bs Kr Kx) (k33 : x = 33 → QW V iL_law 2356 [a0, a1, a2, a3, a4, a5, a6, a7, a8] (st) h z bc bs Kr Kx) (k34 : x = 34 → QW V iL_law 2412 [a0, a1, a2, a3, a4, a5, a6, a7, a8] (st) h z bc bs Kr Kx) (k35 : x = 35 → QW V iL_law 2504 [a0, a1, a2, a3, a4, a5, a6, a7, a8] (st) h z bc bs Kr Kx) (k36 : x = 36 → QW V iL_law 2572 [a0, a1, a2, a3, a4, a5, a6, a7, a8] (st) h z bc bs Kr Kx) (k37 : x = 37 → QW V iL_law 2640 [a0, a1, a2, a3, a4, a5, a6, a7, a8] (st) h z bc bs Kr Kx) (k38 : x = 38 → QW V iL_law 2707 [a0, a1, a2, a3, a4, a5, a6, a7, a8] (st) h z bc bs Kr Kx) (kd : x.toInt < 0 ∨ 38 < x.toInt → QW V iL_law 2751 [a0, a1, a2, a3, a4, a5, a6, a7, a8] (st) h z bc bs Kr Kx) : QW V iL_law 45 [a0, a1, a2, a3, a4, a5, a6, a7, a8] (.int x :: st) h z bc bs Kr Kx := by
  by_cases hlo : x.toInt < 0 ∨ 38 < x.toInt
  · exact q_tabOut dL_law_45 hlo (by decide) (kd hlo)
  · have hcs : x.toInt = 0 ∨ x.toInt = 1 ∨ x.toInt = 2 ∨ x.toInt = 3 ∨ x.toInt = 4 ∨ x.toInt = 5 ∨ x.toInt = 6 ∨ x.toInt = 7 ∨ x.toInt = 8 ∨ x.toInt = 9 ∨ x.toInt = 10 ∨ x.toInt = 11 ∨ x.toInt = 12 ∨ x.toInt = 13 ∨ x.toInt = 14 ∨ x.toInt = 15 ∨ x.toInt = 16 ∨ x.toInt = 17 ∨ x.toInt = 18 ∨ x.toInt = 19 ∨ x.toInt = 20 ∨ x.toInt = 21 ∨ x.toInt = 22 ∨ x.toInt = 23 ∨ x.toInt = 24 ∨ x.toInt = 25 ∨ x.toInt = 26 ∨ x.toInt = 27 ∨ x.toInt = 28 ∨ x.toInt = 29 ∨ x.toInt = 30 ∨ x.toInt = 31 ∨ x.toInt = 32 ∨ x.toInt = 33 ∨ x.toInt = 34 ∨ x.toInt = 35 ∨ x.toInt = 36 ∨ x.toInt = 37 ∨ x.toInt = 38 := by omega
    rcases hcs with hq | hq | hq | hq | hq | hq | hq | hq | hq | hq | hq | hq | hq | hq | hq | hq | hq | hq | hq | hq | hq | hq | hq | hq | hq | hq | hq | hq | hq | hq | hq | hq | hq | hq | hq | hq | hq | hq | hq
    · exact q_tabIn dL_law_45 (by omega) (by omega) (off := 171) (by rw [hq]; rfl) (by decide) (k0 (Int32.toInt_inj.mp (hq.trans (by decide))))
    · exact q_tabIn dL_law_45 (by omega) (by omega) (off := 275) (by rw [hq]; rfl) (by decide) (k1 (Int32.toInt_inj.mp (hq.trans (by decide))))
    · exact q_tabIn dL_law_45 (by omega) (by omega) (off := 331) (by rw [hq]; rfl) (by decide) (k2 (Int32.toInt_inj.mp (hq.trans (by decide))))
    · exact q_tabIn dL_law_45 (by omega) (by omega) (off := 344) (by rw [hq]; rfl) (by decide) (k3 (Int32.toInt_inj.mp (hq.trans (by decide))))
    · exact q_tabIn dL_law_45 (by omega) (by omega) (off := 357) (by rw [hq]; rfl) (by decide) (k4 (Int32.toInt_inj.mp (hq.trans (by decide))))
    · exact q_tabIn dL_law_45 (by omega) (by omega) (off := 461) (by rw [hq]; rfl) (by decide) (k5 (Int32.toInt_inj.mp (hq.trans (by decide))))
    · exact q_tabIn dL_law_45 (by omega) (by omega) (off := 541) (by rw [hq]; rfl) (by decide) (k6 (Int32.toInt_inj.mp (hq.trans (by decide))))
    · exact q_tabIn dL_law_45 (by omega) (by omega) (off := 625) (by rw [hq]; rfl) (by decide) (k7 (Int32.toInt_inj.mp (hq.trans (by decide))))
    · exact q_tabIn dL_law_45 (by omega) (by omega) (off := 717) (by rw [hq]; rfl) (by decide) (k8 (Int32.toInt_inj.mp (hq.trans (by decide))))
    · exact q_tabIn dL_law_45 (by omega) (by omega) (off := 760) (by rw [hq]; rfl) (by decide) (k9 (Int32.toInt_inj.mp (hq.trans (by decide))))
    · exact q_tabIn dL_law_45 (by omega) (by omega) (off := 804) (by rw [hq]; rfl) (by decide) (k10 (Int32.toInt_inj.mp (hq.trans (by decide))))
    · exact q_tabIn dL_law_45 (by omega) (by omega) (off := 860) (by rw [hq]; rfl) (by decide) (k11 (Int32.toInt_inj.mp (hq.trans (by decide))))
    · exact q_tabIn dL_law_45 (by omega) (by omega) (off := 916) (by rw [hq]; rfl) (by decide) (k12 (Int32.toInt_inj.mp (hq.trans (by decide))))
    · exact q_tabIn dL_law_45 (by omega) (by omega) (off := 972) (by rw [hq]; rfl) (by decide) (k13 (Int32.toInt_inj.mp (hq.trans (by decide))))
    · exact q_tabIn dL_law_45 (by omega) (by omega) (off := 1040) (by rw [hq]; rfl) (by decide) (k14 (Int32.toInt_inj.mp (hq.trans (by decide))))
    · exact q_tabIn dL_law_45 (by omega) (by omega) (off := 1108) (by rw [hq]; rfl) (by decide) (k15 (Int32.toInt_inj.mp (hq.trans (by decide))))
    · exact q_tabIn dL_law_45 (by omega) (by omega) (off := 1164) (by rw [hq]; rfl) (by decide) (k16 (Int32.toInt_inj.mp (hq.trans (by decide))))
    · exact q_tabIn dL_law_45 (by omega) (by omega) (off := 1219) (by rw [hq]; rfl) (by decide) (k17 (Int32.toInt_inj.mp (hq.trans (by decide))))
    · exact q_tabIn dL_law_45 (by omega) (by omega) (off := 1274) (by rw [hq]; rfl) (by decide) (k18 (Int32.toInt_inj.mp (hq.trans (by decide))))
    · exact q_tabIn dL_law_45 (by omega) (by omega) (off := 1330) (by rw [hq]; rfl) (by decide) (k19 (Int32.toInt_inj.mp (hq.trans (by decide))))
    · exact q_tabIn dL_law_45 (by omega) (by omega) (off := 1386) (by rw [hq]; rfl) (by decide) (k20 (Int32.toInt_inj.mp (hq.trans (by decide))))
    · exact q_tabIn dL_law_45 (by omega) (by omega) (off := 1442) (by rw [hq]; rfl) (by decide) (k21 (Int32.toInt_inj.mp (hq.trans (by decide))))
    · exact q_tabIn dL_law_45 (by omega) (by omega) (off := 1510) (by rw [hq]; rfl) (by decide) (k22 (Int32.toInt_inj.mp (hq.trans (by decide))))
    · exact q_tabIn dL_law_45 (by omega) (by omega) (off := 1578) (by rw [hq]; rfl) (by decide) (k23 (Int32.toInt_inj.mp (hq.trans (by decide))))
    · exact q_tabIn dL_law_45 (by omega) (by omega) (off := 1646) (by rw [hq]; rfl) (by decide) (k24 (Int32.toInt_inj.mp (hq.trans (by decide))))
    · exact q_tabIn dL_law_45 (by omega) (by omega) (off := 1714) (by rw [hq]; rfl) (by decide) (k25 (Int32.toInt_inj.mp (hq.trans (by decide))))
    · exact q_tabIn dL_law_45 (by omega) (by omega) (off := 1770) (by rw [hq]; rfl) (by decide) (k26 (Int32.toInt_inj.mp (hq.trans (by decide))))
    · exact q_tabIn dL_law_45 (by omega) (by omega) (off := 1847) (by rw [hq]; rfl) (by decide) (k27 (Int32.toInt_inj.mp (hq.trans (by decide))))
    · exact q_tabIn dL_law_45 (by omega) (by omega) (off := 1927) (by rw [hq]; rfl) (by decide) (k28 (Int32.toInt_inj.mp (hq.trans (by decide))))
    · exact q_tabIn dL_law_45 (by omega) (by omega) (off := 1995) (by rw [hq]; rfl) (by decide) (k29 (Int32.toInt_inj.mp (hq.trans (by decide))))
    · exact q_tabIn dL_law_45 (by omega) (by omega) (off := 2075) (by rw [hq]; rfl) (by decide) (k30 (Int32.toInt_inj.mp (hq.trans (by decide))))
    · exact q_tabIn dL_law_45 (by omega) (by omega) (off := 2171) (by rw [hq]; rfl) (by decide) (k31 (Int32.toInt_inj.mp (hq.trans (by decide))))
    · exact q_tabIn dL_law_45 (by omega) (by omega) (off := 2255) (by rw [hq]; rfl) (by decide) (k32 (Int32.toInt_inj.mp (hq.trans (by decide))))
    · exact q_tabIn dL_law_45 (by omega) (by omega) (off := 2311) (by rw [hq]; rfl) (by decide) (k33 (Int32.toInt_inj.mp (hq.trans (by decide))))
    · exact q_tabIn dL_law_45 (by omega) (by omega) (off := 2367) (by rw [hq]; rfl) (by decide) (k34 (Int32.toInt_inj.mp (hq.trans (by decide))))
    · exact q_tabIn dL_law_45 (by omega) (by omega) (off := 2459) (by rw [hq]; rfl) (by decide) (k35 (Int32.toInt_inj.mp (hq.trans (by decide))))
    · exact q_tabIn dL_law_45 (by omega) (by omega) (off := 2527) (by rw [hq]; rfl) (by decide) (k36 (Int32.toInt_inj.mp (hq.trans (by decide))))
    · exact q_tabIn dL_law_45 (by omega) (by omega) (off := 2595) (by rw [hq]; rfl) (by decide) (k37 (Int32.toInt_inj.mp (hq.trans (by decide))))
    · exact q_tabIn dL_law_45 (by omega) (by omega) (off := 2662) (by rw [hq]; rfl) (by decide) (k38 (Int32.toInt_inj.mp (hq.trans (by decide))))
theorem dL_law_216 : decode (i_b iL_law) 216 = .ok (.aload_n 1, 1) := by decide +kernel
theorem wL_law_216 {x : Nat} (kk : QW V iL_law 217 [a0, some (.ref x), a2, a3, a4, a5, a6, a7, a8] (.ref x :: st) h z bc bs Kr Kx) : QW V iL_law 216 [a0, some (.ref x), a2, a3, a4, a5, a6, a7, a8] (st) h z bc bs Kr Kx := q_aload_n dL_law_216 rfl rfl kk
theorem dL_law_217 : decode (i_b iL_law) 217 = .ok (.aload_n 0, 1) := by decide +kernel
theorem wL_law_217 {x : Nat} (kk : QW V iL_law 218 [some (.ref x), a1, a2, a3, a4, a5, a6, a7, a8] (.ref x :: st) h z bc bs Kr Kx) : QW V iL_law 217 [some (.ref x), a1, a2, a3, a4, a5, a6, a7, a8] (st) h z bc bs Kr Kx := q_aload_n dL_law_217 rfl rfl kk
theorem dL_law_218 : decode (i_b iL_law) 218 = .ok (.iload 5, 2) := by decide +kernel
theorem wL_law_218 {x : Int32} (kk : QW V iL_law 220 [a0, a1, a2, a3, a4, some (.int x), a6, a7, a8] (.int x :: st) h z bc bs Kr Kx) : QW V iL_law 218 [a0, a1, a2, a3, a4, some (.int x), a6, a7, a8] (st) h z bc bs Kr Kx := q_iload dL_law_218 rfl kk
theorem dL_law_220 : decode (i_b iL_law) 220 = .ok (.iconst 1, 1) := by decide +kernel
theorem wL_law_220  (kk : QW V iL_law 221 [a0, a1, a2, a3, a4, a5, a6, a7, a8] (.int (1) :: st) h z bc bs Kr Kx) : QW V iL_law 220 [a0, a1, a2, a3, a4, a5, a6, a7, a8] (st) h z bc bs Kr Kx := q_iconst dL_law_220 (by decide) kk
theorem dL_law_221 : decode (i_b iL_law) 221 = .ok (.iadd, 1) := by decide +kernel
theorem wL_law_221 {x y : Int32} (kk : QW V iL_law 222 [a0, a1, a2, a3, a4, a5, a6, a7, a8] (.int (x + y) :: st) h z bc bs Kr Kx) : QW V iL_law 221 [a0, a1, a2, a3, a4, a5, a6, a7, a8] (.int y :: .int x :: st) h z bc bs Kr Kx := q_iadd dL_law_221 kk
theorem dL_law_222 : decode (i_b iL_law) 222 = .ok (.iaload, 1) := by decide +kernel
theorem wL_law_222 {j : Nat} {i : Int32} (hi : i = nI j) (hj : j < e_sL V) (hn : e_sL V < 2147483648) (kk : QW V iL_law 223 [a0, a1, a2, a3, a4, a5, a6, a7, a8] (.int (e_xs V j) :: st) h z bc bs Kr Kx) : QW V iL_law 222 [a0, a1, a2, a3, a4, a5, a6, a7, a8] (.int i :: .ref (e_sb V) :: st) h z bc bs Kr Kx := q_sld dL_law_222 hi hj hn kk
theorem dL_law_223 : decode (i_b iL_law) 223 = .ok (.aload_n 0, 1) := by decide +kernel
theorem wL_law_223 {x : Nat} (kk : QW V iL_law 224 [some (.ref x), a1, a2, a3, a4, a5, a6, a7, a8] (.ref x :: st) h z bc bs Kr Kx) : QW V iL_law 223 [some (.ref x), a1, a2, a3, a4, a5, a6, a7, a8] (st) h z bc bs Kr Kx := q_aload_n dL_law_223 rfl rfl kk
theorem dL_law_224 : decode (i_b iL_law) 224 = .ok (.iload 5, 2) := by decide +kernel
theorem wL_law_224 {x : Int32} (kk : QW V iL_law 226 [a0, a1, a2, a3, a4, some (.int x), a6, a7, a8] (.int x :: st) h z bc bs Kr Kx) : QW V iL_law 224 [a0, a1, a2, a3, a4, some (.int x), a6, a7, a8] (st) h z bc bs Kr Kx := q_iload dL_law_224 rfl kk
theorem dL_law_226 : decode (i_b iL_law) 226 = .ok (.iconst 2, 1) := by decide +kernel
theorem wL_law_226  (kk : QW V iL_law 227 [a0, a1, a2, a3, a4, a5, a6, a7, a8] (.int (2) :: st) h z bc bs Kr Kx) : QW V iL_law 226 [a0, a1, a2, a3, a4, a5, a6, a7, a8] (st) h z bc bs Kr Kx := q_iconst dL_law_226 (by decide) kk
theorem dL_law_227 : decode (i_b iL_law) 227 = .ok (.iadd, 1) := by decide +kernel
theorem wL_law_227 {x y : Int32} (kk : QW V iL_law 228 [a0, a1, a2, a3, a4, a5, a6, a7, a8] (.int (x + y) :: st) h z bc bs Kr Kx) : QW V iL_law 227 [a0, a1, a2, a3, a4, a5, a6, a7, a8] (.int y :: .int x :: st) h z bc bs Kr Kx := q_iadd dL_law_227 kk
theorem dL_law_228 : decode (i_b iL_law) 228 = .ok (.iaload, 1) := by decide +kernel
theorem wL_law_228 {j : Nat} {i : Int32} (hi : i = nI j) (hj : j < e_sL V) (hn : e_sL V < 2147483648) (kk : QW V iL_law 229 [a0, a1, a2, a3, a4, a5, a6, a7, a8] (.int (e_xs V j) :: st) h z bc bs Kr Kx) : QW V iL_law 228 [a0, a1, a2, a3, a4, a5, a6, a7, a8] (.int i :: .ref (e_sb V) :: st) h z bc bs Kr Kx := q_sld dL_law_228 hi hj hn kk
theorem dL_law_229 : decode (i_b iL_law) 229 = .ok (.aload_n 0, 1) := by decide +kernel
theorem wL_law_229 {x : Nat} (kk : QW V iL_law 230 [some (.ref x), a1, a2, a3, a4, a5, a6, a7, a8] (.ref x :: st) h z bc bs Kr Kx) : QW V iL_law 229 [some (.ref x), a1, a2, a3, a4, a5, a6, a7, a8] (st) h z bc bs Kr Kx := q_aload_n dL_law_229 rfl rfl kk
theorem dL_law_230 : decode (i_b iL_law) 230 = .ok (.iload 5, 2) := by decide +kernel
theorem wL_law_230 {x : Int32} (kk : QW V iL_law 232 [a0, a1, a2, a3, a4, some (.int x), a6, a7, a8] (.int x :: st) h z bc bs Kr Kx) : QW V iL_law 230 [a0, a1, a2, a3, a4, some (.int x), a6, a7, a8] (st) h z bc bs Kr Kx := q_iload dL_law_230 rfl kk
theorem dL_law_232 : decode (i_b iL_law) 232 = .ok (.iconst 3, 1) := by decide +kernel
theorem wL_law_232  (kk : QW V iL_law 233 [a0, a1, a2, a3, a4, a5, a6, a7, a8] (.int (3) :: st) h z bc bs Kr Kx) : QW V iL_law 232 [a0, a1, a2, a3, a4, a5, a6, a7, a8] (st) h z bc bs Kr Kx := q_iconst dL_law_232 (by decide) kk
theorem dL_law_233 : decode (i_b iL_law) 233 = .ok (.iadd, 1) := by decide +kernel
theorem wL_law_233 {x y : Int32} (kk : QW V iL_law 234 [a0, a1, a2, a3, a4, a5, a6, a7, a8] (.int (x + y) :: st) h z bc bs Kr Kx) : QW V iL_law 233 [a0, a1, a2, a3, a4, a5, a6, a7, a8] (.int y :: .int x :: st) h z bc bs Kr Kx := q_iadd dL_law_233 kk
theorem dL_law_234 : decode (i_b iL_law) 234 = .ok (.iaload, 1) := by decide +kernel
theorem wL_law_234 {j : Nat} {i : Int32} (hi : i = nI j) (hj : j < e_sL V) (hn : e_sL V < 2147483648) (kk : QW V iL_law 235 [a0, a1, a2, a3, a4, a5, a6, a7, a8] (.int (e_xs V j) :: st) h z bc bs Kr Kx) : QW V iL_law 234 [a0, a1, a2, a3, a4, a5, a6, a7, a8] (.int i :: .ref (e_sb V) :: st) h z bc bs Kr Kx := q_sld dL_law_234 hi hj hn kk
theorem dL_law_235 : decode (i_b iL_law) 235 = .ok (.aload_n 0, 1) := by decide +kernel
theorem wL_law_235 {x : Nat} (kk : QW V iL_law 236 [some (.ref x), a1, a2, a3, a4, a5, a6, a7, a8] (.ref x :: st) h z bc bs Kr Kx) : QW V iL_law 235 [some (.ref x), a1, a2, a3, a4, a5, a6, a7, a8] (st) h z bc bs Kr Kx := q_aload_n dL_law_235 rfl rfl kk
theorem dL_law_236 : decode (i_b iL_law) 236 = .ok (.iload 5, 2) := by decide +kernel
theorem wL_law_236 {x : Int32} (kk : QW V iL_law 238 [a0, a1, a2, a3, a4, some (.int x), a6, a7, a8] (.int x :: st) h z bc bs Kr Kx) : QW V iL_law 236 [a0, a1, a2, a3, a4, some (.int x), a6, a7, a8] (st) h z bc bs Kr Kx := q_iload dL_law_236 rfl kk
theorem dL_law_238 : decode (i_b iL_law) 238 = .ok (.iconst 4, 1) := by decide +kernel
theorem wL_law_238  (kk : QW V iL_law 239 [a0, a1, a2, a3, a4, a5, a6, a7, a8] (.int (4) :: st) h z bc bs Kr Kx) : QW V iL_law 238 [a0, a1, a2, a3, a4, a5, a6, a7, a8] (st) h z bc bs Kr Kx := q_iconst dL_law_238 (by decide) kk
theorem dL_law_239 : decode (i_b iL_law) 239 = .ok (.iadd, 1) := by decide +kernel
theorem wL_law_239 {x y : Int32} (kk : QW V iL_law 240 [a0, a1, a2, a3, a4, a5, a6, a7, a8] (.int (x + y) :: st) h z bc bs Kr Kx) : QW V iL_law 239 [a0, a1, a2, a3, a4, a5, a6, a7, a8] (.int y :: .int x :: st) h z bc bs Kr Kx := q_iadd dL_law_239 kk
theorem dL_law_240 : decode (i_b iL_law) 240 = .ok (.iaload, 1) := by decide +kernel
theorem wL_law_240 {j : Nat} {i : Int32} (hi : i = nI j) (hj : j < e_sL V) (hn : e_sL V < 2147483648) (kk : QW V iL_law 241 [a0, a1, a2, a3, a4, a5, a6, a7, a8] (.int (e_xs V j) :: st) h z bc bs Kr Kx) : QW V iL_law 240 [a0, a1, a2, a3, a4, a5, a6, a7, a8] (.int i :: .ref (e_sb V) :: st) h z bc bs Kr Kx := q_sld dL_law_240 hi hj hn kk
theorem dL_law_241 : decode (i_b iL_law) 241 = .ok (.aload_n 0, 1) := by decide +kernel
theorem wL_law_241 {x : Nat} (kk : QW V iL_law 242 [some (.ref x), a1, a2, a3, a4, a5, a6, a7, a8] (.ref x :: st) h z bc bs Kr Kx) : QW V iL_law 241 [some (.ref x), a1, a2, a3, a4, a5, a6, a7, a8] (st) h z bc bs Kr Kx := q_aload_n dL_law_241 rfl rfl kk
theorem dL_law_242 : decode (i_b iL_law) 242 = .ok (.iload 5, 2) := by decide +kernel
theorem wL_law_242 {x : Int32} (kk : QW V iL_law 244 [a0, a1, a2, a3, a4, some (.int x), a6, a7, a8] (.int x :: st) h z bc bs Kr Kx) : QW V iL_law 242 [a0, a1, a2, a3, a4, some (.int x), a6, a7, a8] (st) h z bc bs Kr Kx := q_iload dL_law_242 rfl kk
theorem dL_law_244 : decode (i_b iL_law) 244 = .ok (.iconst 5, 1) := by decide +kernel
theorem wL_law_244  (kk : QW V iL_law 245 [a0, a1, a2, a3, a4, a5, a6, a7, a8] (.int (5) :: st) h z bc bs Kr Kx) : QW V iL_law 244 [a0, a1, a2, a3, a4, a5, a6, a7, a8] (st) h z bc bs Kr Kx := q_iconst dL_law_244 (by decide) kk
theorem dL_law_245 : decode (i_b iL_law) 245 = .ok (.iadd, 1) := by decide +kernel
theorem wL_law_245 {x y : Int32} (kk : QW V iL_law 246 [a0, a1, a2, a3, a4, a5, a6, a7, a8] (.int (x + y) :: st) h z bc bs Kr Kx) : QW V iL_law 245 [a0, a1, a2, a3, a4, a5, a6, a7, a8] (.int y :: .int x :: st) h z bc bs Kr Kx := q_iadd dL_law_245 kk
theorem dL_law_246 : decode (i_b iL_law) 246 = .ok (.iaload, 1) := by decide +kernel
theorem wL_law_246 {j : Nat} {i : Int32} (hi : i = nI j) (hj : j < e_sL V) (hn : e_sL V < 2147483648) (kk : QW V iL_law 247 [a0, a1, a2, a3, a4, a5, a6, a7, a8] (.int (e_xs V j) :: st) h z bc bs Kr Kx) : QW V iL_law 246 [a0, a1, a2, a3, a4, a5, a6, a7, a8] (.int i :: .ref (e_sb V) :: st) h z bc bs Kr Kx := q_sld dL_law_246 hi hj hn kk
theorem dL_law_247 : decode (i_b iL_law) 247 = .ok (.aload_n 3, 1) := by decide +kernel
theorem wL_law_247 {x : Nat} (kk : QW V iL_law 248 [a0, a1, a2, some (.ref x), a4, a5, a6, a7, a8] (.ref x :: st) h z bc bs Kr Kx) : QW V iL_law 247 [a0, a1, a2, some (.ref x), a4, a5, a6, a7, a8] (st) h z bc bs Kr Kx := q_aload_n dL_law_247 rfl rfl kk
theorem dL_law_248 : decode (i_b iL_law) 248 = .ok (.invokestatic 144, 3) := by decide +kernel
theorem wL_law_248 {x0 : Nat} {x1 : Int32} {x2 : Int32} {x3 : Int32} {x4 : Int32} {x5 : Int32} {x6 : Nat} (hm : QMi V iL_append [.ref x0, .int x1, .int x2, .int x3, .int x4, .int x5, .ref x6] h z (fun r h' z' => QW V iL_law 251 [a0, a1, a2, a3, a4, a5, a6, a7, a8] (.int r :: st) h' z' bc bs Kr Kx) Kx) (hW : (st.map fun v => v.category).sum ≤ 8 := by exact Nat.le_of_ble_eq_true rfl) : QW V iL_law 248 [a0, a1, a2, a3, a4, a5, a6, a7, a8] (.ref x6 :: .int x5 :: .int x4 :: .int x3 :: .int x2 :: .int x1 :: .ref x0 :: st) h z (bc + 1) (bs + 6) Kr Kx := q_callSX (y' := iL_append) (As := [.ref x0, .int x1, .int x2, .int x3, .int x4, .int x5, .ref x6]) (rest := st) dL_law_248 k3_16 k3_17 k1_0 hhL_append (by decide) hdL_append rfl (Nat.le_of_ble_eq_true rfl) (Nat.le_of_ble_eq_true rfl) hW rfl (QMi.run hm)
theorem dL_law_251 : decode (i_b iL_law) 251 = .ok (.istore 6, 2) := by decide +kernel
theorem wL_law_251 {x : Int32} (kk : QW V iL_law 253 [a0, a1, a2, a3, a4, a5, some (.int x), a7, a8] (st) h z bc bs Kr Kx) (hp : q_n2 a5 = true := by rfl) : QW V iL_law 251 [a0, a1, a2, a3, a4, a5, a6, a7, a8] (.int x :: st) h z bc bs Kr Kx := q_istore dL_law_251 (Nat.le_of_ble_eq_true rfl) hp kk
theorem dL_law_253 : decode (i_b iL_law) 253 = .ok (.aload_n 2, 1) := by decide +kernel
theorem wL_law_253 {x : Nat} (kk : QW V iL_law 254 [a0, a1, some (.ref x), a3, a4, a5, a6, a7, a8] (.ref x :: st) h z bc bs Kr Kx) : QW V iL_law 253 [a0, a1, some (.ref x), a3, a4, a5, a6, a7, a8] (st) h z bc bs Kr Kx := q_aload_n dL_law_253 rfl rfl kk
theorem dL_law_254 : decode (i_b iL_law) 254 = .ok (.aload_n 0, 1) := by decide +kernel
theorem wL_law_254 {x : Nat} (kk : QW V iL_law 255 [some (.ref x), a1, a2, a3, a4, a5, a6, a7, a8] (.ref x :: st) h z bc bs Kr Kx) : QW V iL_law 254 [some (.ref x), a1, a2, a3, a4, a5, a6, a7, a8] (st) h z bc bs Kr Kx := q_aload_n dL_law_254 rfl rfl kk
theorem dL_law_255 : decode (i_b iL_law) 255 = .ok (.iload 5, 2) := by decide +kernel
theorem wL_law_255 {x : Int32} (kk : QW V iL_law 257 [a0, a1, a2, a3, a4, some (.int x), a6, a7, a8] (.int x :: st) h z bc bs Kr Kx) : QW V iL_law 255 [a0, a1, a2, a3, a4, some (.int x), a6, a7, a8] (st) h z bc bs Kr Kx := q_iload dL_law_255 rfl kk
theorem dL_law_257 : decode (i_b iL_law) 257 = .ok (.iconst 1, 1) := by decide +kernel
theorem wL_law_257  (kk : QW V iL_law 258 [a0, a1, a2, a3, a4, a5, a6, a7, a8] (.int (1) :: st) h z bc bs Kr Kx) : QW V iL_law 257 [a0, a1, a2, a3, a4, a5, a6, a7, a8] (st) h z bc bs Kr Kx := q_iconst dL_law_257 (by decide) kk
theorem dL_law_258 : decode (i_b iL_law) 258 = .ok (.iadd, 1) := by decide +kernel
theorem wL_law_258 {x y : Int32} (kk : QW V iL_law 259 [a0, a1, a2, a3, a4, a5, a6, a7, a8] (.int (x + y) :: st) h z bc bs Kr Kx) : QW V iL_law 258 [a0, a1, a2, a3, a4, a5, a6, a7, a8] (.int y :: .int x :: st) h z bc bs Kr Kx := q_iadd dL_law_258 kk
theorem dL_law_259 : decode (i_b iL_law) 259 = .ok (.iaload, 1) := by decide +kernel
theorem wL_law_259 {j : Nat} {i : Int32} (hi : i = nI j) (hj : j < e_sL V) (hn : e_sL V < 2147483648) (kk : QW V iL_law 260 [a0, a1, a2, a3, a4, a5, a6, a7, a8] (.int (e_xs V j) :: st) h z bc bs Kr Kx) : QW V iL_law 259 [a0, a1, a2, a3, a4, a5, a6, a7, a8] (.int i :: .ref (e_sb V) :: st) h z bc bs Kr Kx := q_sld dL_law_259 hi hj hn kk
theorem dL_law_260 : decode (i_b iL_law) 260 = .ok (.aload_n 0, 1) := by decide +kernel
theorem wL_law_260 {x : Nat} (kk : QW V iL_law 261 [some (.ref x), a1, a2, a3, a4, a5, a6, a7, a8] (.ref x :: st) h z bc bs Kr Kx) : QW V iL_law 260 [some (.ref x), a1, a2, a3, a4, a5, a6, a7, a8] (st) h z bc bs Kr Kx := q_aload_n dL_law_260 rfl rfl kk
theorem dL_law_261 : decode (i_b iL_law) 261 = .ok (.iload 5, 2) := by decide +kernel
theorem wL_law_261 {x : Int32} (kk : QW V iL_law 263 [a0, a1, a2, a3, a4, some (.int x), a6, a7, a8] (.int x :: st) h z bc bs Kr Kx) : QW V iL_law 261 [a0, a1, a2, a3, a4, some (.int x), a6, a7, a8] (st) h z bc bs Kr Kx := q_iload dL_law_261 rfl kk
theorem dL_law_263 : decode (i_b iL_law) 263 = .ok (.iconst 2, 1) := by decide +kernel
theorem wL_law_263  (kk : QW V iL_law 264 [a0, a1, a2, a3, a4, a5, a6, a7, a8] (.int (2) :: st) h z bc bs Kr Kx) : QW V iL_law 263 [a0, a1, a2, a3, a4, a5, a6, a7, a8] (st) h z bc bs Kr Kx := q_iconst dL_law_263 (by decide) kk
theorem dL_law_264 : decode (i_b iL_law) 264 = .ok (.iadd, 1) := by decide +kernel
theorem wL_law_264 {x y : Int32} (kk : QW V iL_law 265 [a0, a1, a2, a3, a4, a5, a6, a7, a8] (.int (x + y) :: st) h z bc bs Kr Kx) : QW V iL_law 264 [a0, a1, a2, a3, a4, a5, a6, a7, a8] (.int y :: .int x :: st) h z bc bs Kr Kx := q_iadd dL_law_264 kk
theorem dL_law_265 : decode (i_b iL_law) 265 = .ok (.iaload, 1) := by decide +kernel
theorem wL_law_265 {j : Nat} {i : Int32} (hi : i = nI j) (hj : j < e_sL V) (hn : e_sL V < 2147483648) (kk : QW V iL_law 266 [a0, a1, a2, a3, a4, a5, a6, a7, a8] (.int (e_xs V j) :: st) h z bc bs Kr Kx) : QW V iL_law 265 [a0, a1, a2, a3, a4, a5, a6, a7, a8] (.int i :: .ref (e_sb V) :: st) h z bc bs Kr Kx := q_sld dL_law_265 hi hj hn kk
theorem dL_law_266 : decode (i_b iL_law) 266 = .ok (.aload_n 0, 1) := by decide +kernel
theorem wL_law_266 {x : Nat} (kk : QW V iL_law 267 [some (.ref x), a1, a2, a3, a4, a5, a6, a7, a8] (.ref x :: st) h z bc bs Kr Kx) : QW V iL_law 266 [some (.ref x), a1, a2, a3, a4, a5, a6, a7, a8] (st) h z bc bs Kr Kx := q_aload_n dL_law_266 rfl rfl kk
theorem dL_law_267 : decode (i_b iL_law) 267 = .ok (.iload 5, 2) := by decide +kernel
theorem wL_law_267 {x : Int32} (kk : QW V iL_law 269 [a0, a1, a2, a3, a4, some (.int x), a6, a7, a8] (.int x :: st) h z bc bs Kr Kx) : QW V iL_law 267 [a0, a1, a2, a3, a4, some (.int x), a6, a7, a8] (st) h z bc bs Kr Kx := q_iload dL_law_267 rfl kk
theorem dL_law_269 : decode (i_b iL_law) 269 = .ok (.iconst 3, 1) := by decide +kernel
theorem wL_law_269  (kk : QW V iL_law 270 [a0, a1, a2, a3, a4, a5, a6, a7, a8] (.int (3) :: st) h z bc bs Kr Kx) : QW V iL_law 269 [a0, a1, a2, a3, a4, a5, a6, a7, a8] (st) h z bc bs Kr Kx := q_iconst dL_law_269 (by decide) kk
theorem dL_law_270 : decode (i_b iL_law) 270 = .ok (.iadd, 1) := by decide +kernel
theorem wL_law_270 {x y : Int32} (kk : QW V iL_law 271 [a0, a1, a2, a3, a4, a5, a6, a7, a8] (.int (x + y) :: st) h z bc bs Kr Kx) : QW V iL_law 270 [a0, a1, a2, a3, a4, a5, a6, a7, a8] (.int y :: .int x :: st) h z bc bs Kr Kx := q_iadd dL_law_270 kk
theorem dL_law_271 : decode (i_b iL_law) 271 = .ok (.iaload, 1) := by decide +kernel
theorem wL_law_271 {j : Nat} {i : Int32} (hi : i = nI j) (hj : j < e_sL V) (hn : e_sL V < 2147483648) (kk : QW V iL_law 272 [a0, a1, a2, a3, a4, a5, a6, a7, a8] (.int (e_xs V j) :: st) h z bc bs Kr Kx) : QW V iL_law 271 [a0, a1, a2, a3, a4, a5, a6, a7, a8] (.int i :: .ref (e_sb V) :: st) h z bc bs Kr Kx := q_sld dL_law_271 hi hj hn kk
theorem dL_law_272 : decode (i_b iL_law) 272 = .ok (.aload_n 0, 1) := by decide +kernel
theorem wL_law_272 {x : Nat} (kk : QW V iL_law 273 [some (.ref x), a1, a2, a3, a4, a5, a6, a7, a8] (.ref x :: st) h z bc bs Kr Kx) : QW V iL_law 272 [some (.ref x), a1, a2, a3, a4, a5, a6, a7, a8] (st) h z bc bs Kr Kx := q_aload_n dL_law_272 rfl rfl kk
theorem dL_law_273 : decode (i_b iL_law) 273 = .ok (.iload 5, 2) := by decide +kernel
theorem wL_law_273 {x : Int32} (kk : QW V iL_law 275 [a0, a1, a2, a3, a4, some (.int x), a6, a7, a8] (.int x :: st) h z bc bs Kr Kx) : QW V iL_law 273 [a0, a1, a2, a3, a4, some (.int x), a6, a7, a8] (st) h z bc bs Kr Kx := q_iload dL_law_273 rfl kk
theorem dL_law_275 : decode (i_b iL_law) 275 = .ok (.iconst 4, 1) := by decide +kernel
theorem wL_law_275  (kk : QW V iL_law 276 [a0, a1, a2, a3, a4, a5, a6, a7, a8] (.int (4) :: st) h z bc bs Kr Kx) : QW V iL_law 275 [a0, a1, a2, a3, a4, a5, a6, a7, a8] (st) h z bc bs Kr Kx := q_iconst dL_law_275 (by decide) kk
theorem dL_law_276 : decode (i_b iL_law) 276 = .ok (.iadd, 1) := by decide +kernel
theorem wL_law_276 {x y : Int32} (kk : QW V iL_law 277 [a0, a1, a2, a3, a4, a5, a6, a7, a8] (.int (x + y) :: st) h z bc bs Kr Kx) : QW V iL_law 276 [a0, a1, a2, a3, a4, a5, a6, a7, a8] (.int y :: .int x :: st) h z bc bs Kr Kx := q_iadd dL_law_276 kk
theorem dL_law_277 : decode (i_b iL_law) 277 = .ok (.iaload, 1) := by decide +kernel
theorem wL_law_277 {j : Nat} {i : Int32} (hi : i = nI j) (hj : j < e_sL V) (hn : e_sL V < 2147483648) (kk : QW V iL_law 278 [a0, a1, a2, a3, a4, a5, a6, a7, a8] (.int (e_xs V j) :: st) h z bc bs Kr Kx) : QW V iL_law 277 [a0, a1, a2, a3, a4, a5, a6, a7, a8] (.int i :: .ref (e_sb V) :: st) h z bc bs Kr Kx := q_sld dL_law_277 hi hj hn kk
theorem dL_law_278 : decode (i_b iL_law) 278 = .ok (.aload_n 0, 1) := by decide +kernel
theorem wL_law_278 {x : Nat} (kk : QW V iL_law 279 [some (.ref x), a1, a2, a3, a4, a5, a6, a7, a8] (.ref x :: st) h z bc bs Kr Kx) : QW V iL_law 278 [some (.ref x), a1, a2, a3, a4, a5, a6, a7, a8] (st) h z bc bs Kr Kx := q_aload_n dL_law_278 rfl rfl kk
theorem dL_law_279 : decode (i_b iL_law) 279 = .ok (.iload 5, 2) := by decide +kernel
theorem wL_law_279 {x : Int32} (kk : QW V iL_law 281 [a0, a1, a2, a3, a4, some (.int x), a6, a7, a8] (.int x :: st) h z bc bs Kr Kx) : QW V iL_law 279 [a0, a1, a2, a3, a4, some (.int x), a6, a7, a8] (st) h z bc bs Kr Kx := q_iload dL_law_279 rfl kk
theorem dL_law_281 : decode (i_b iL_law) 281 = .ok (.iconst 5, 1) := by decide +kernel
theorem wL_law_281  (kk : QW V iL_law 282 [a0, a1, a2, a3, a4, a5, a6, a7, a8] (.int (5) :: st) h z bc bs Kr Kx) : QW V iL_law 281 [a0, a1, a2, a3, a4, a5, a6, a7, a8] (st) h z bc bs Kr Kx := q_iconst dL_law_281 (by decide) kk
theorem dL_law_282 : decode (i_b iL_law) 282 = .ok (.iadd, 1) := by decide +kernel
theorem wL_law_282 {x y : Int32} (kk : QW V iL_law 283 [a0, a1, a2, a3, a4, a5, a6, a7, a8] (.int (x + y) :: st) h z bc bs Kr Kx) : QW V iL_law 282 [a0, a1, a2, a3, a4, a5, a6, a7, a8] (.int y :: .int x :: st) h z bc bs Kr Kx := q_iadd dL_law_282 kk
theorem dL_law_283 : decode (i_b iL_law) 283 = .ok (.iaload, 1) := by decide +kernel
theorem wL_law_283 {j : Nat} {i : Int32} (hi : i = nI j) (hj : j < e_sL V) (hn : e_sL V < 2147483648) (kk : QW V iL_law 284 [a0, a1, a2, a3, a4, a5, a6, a7, a8] (.int (e_xs V j) :: st) h z bc bs Kr Kx) : QW V iL_law 283 [a0, a1, a2, a3, a4, a5, a6, a7, a8] (.int i :: .ref (e_sb V) :: st) h z bc bs Kr Kx := q_sld dL_law_283 hi hj hn kk
theorem dL_law_284 : decode (i_b iL_law) 284 = .ok (.invokevirtual 149, 3) := by decide +kernel
theorem wL_law_284 {a : Nat} {fs : List Value} {x0 : Int32} {x1 : Int32} {x2 : Int32} {x3 : Int32} {x4 : Int32} (hb : h a = some (.inr (10, fs))) (hm : QMi V iX9_append [.ref a, .int x0, .int x1, .int x2, .int x3, .int x4] h z (fun r h' z' => QW V iL_law 287 [a0, a1, a2, a3, a4, a5, a6, a7, a8] (.int r :: st) h' z' bc bs Kr Kx) Kx) (hW : (st.map fun v => v.category).sum ≤ 8 := by exact Nat.le_of_ble_eq_true rfl) : QW V iL_law 284 [a0, a1, a2, a3, a4, a5, a6, a7, a8] (.int x4 :: .int x3 :: .int x2 :: .int x1 :: .int x0 :: .ref a :: st) h z bc bs Kr Kx := q_callV (y' := iX9_append) (As := [.int x0, .int x1, .int x2, .int x3, .int x4]) (rest := st) dL_law_284 k6_84 k6_85 k6_86 k1_10 hhX9_append rfl hdX9_append rfl rfl (Nat.le_of_ble_eq_true rfl) (Nat.le_of_ble_eq_true rfl) hW rfl hb (QMi.run hm)
theorem dL_law_287 : decode (i_b iL_law) 287 = .ok (.istore 7, 2) := by decide +kernel
theorem wL_law_287 {x : Int32} (kk : QW V iL_law 289 [a0, a1, a2, a3, a4, a5, a6, some (.int x), a8] (st) h z bc bs Kr Kx) (hp : q_n2 a6 = true := by rfl) : QW V iL_law 287 [a0, a1, a2, a3, a4, a5, a6, a7, a8] (.int x :: st) h z bc bs Kr Kx := q_istore dL_law_287 (Nat.le_of_ble_eq_true rfl) hp kk
theorem dL_law_289 : decode (i_b iL_law) 289 = .ok (.aload_n 2, 1) := by decide +kernel
theorem wL_law_289 {x : Nat} (kk : QW V iL_law 290 [a0, a1, some (.ref x), a3, a4, a5, a6, a7, a8] (.ref x :: st) h z bc bs Kr Kx) : QW V iL_law 289 [a0, a1, some (.ref x), a3, a4, a5, a6, a7, a8] (st) h z bc bs Kr Kx := q_aload_n dL_law_289 rfl rfl kk
theorem dL_law_290 : decode (i_b iL_law) 290 = .ok (.invokevirtual 150, 3) := by decide +kernel
theorem wL_law_290 {a : Nat} {fs : List Value}  (hb : h a = some (.inr (10, fs))) (hm : QMi V iX9_thrown [.ref a] h z (fun r h' z' => QW V iL_law 293 [a0, a1, a2, a3, a4, a5, a6, a7, a8] (.int r :: st) h' z' bc bs Kr Kx) Kx) (hW : (st.map fun v => v.category).sum ≤ 8 := by exact Nat.le_of_ble_eq_true rfl) : QW V iL_law 290 [a0, a1, a2, a3, a4, a5, a6, a7, a8] (.ref a :: st) h z bc bs Kr Kx := q_callV (y' := iX9_thrown) (As := []) (rest := st) dL_law_290 k6_80 k6_81 k6_82 k1_10 hhX9_thrown rfl hdX9_thrown rfl rfl (Nat.le_of_ble_eq_true rfl) (Nat.le_of_ble_eq_true rfl) hW rfl hb (QMi.run hm)
theorem dL_law_293 : decode (i_b iL_law) 293 = .ok (.iload 6, 2) := by decide +kernel
theorem wL_law_293 {x : Int32} (kk : QW V iL_law 295 [a0, a1, a2, a3, a4, a5, some (.int x), a7, a8] (.int x :: st) h z bc bs Kr Kx) : QW V iL_law 293 [a0, a1, a2, a3, a4, a5, some (.int x), a7, a8] (st) h z bc bs Kr Kx := q_iload dL_law_293 rfl kk
theorem dL_law_295 : decode (i_b iL_law) 295 = .ok (.if_icmp .eq 5, 3) := by decide +kernel
theorem wL_law_295 {x y : Int32} (kt : x = y → QW V iL_law 300 [a0, a1, a2, a3, a4, a5, a6, a7, a8] (st) h z bc bs Kr Kx) (kf : ¬ x = y → QW V iL_law 298 [a0, a1, a2, a3, a4, a5, a6, a7, a8] (st) h z bc bs Kr Kx) : QW V iL_law 295 [a0, a1, a2, a3, a4, a5, a6, a7, a8] (.int y :: .int x :: st) h z bc bs Kr Kx := q_icmp_eq dL_law_295 (by decide) kt kf
theorem dL_law_298 : decode (i_b iL_law) 298 = .ok (.iconst 0, 1) := by decide +kernel
theorem wL_law_298  (kk : QW V iL_law 299 [a0, a1, a2, a3, a4, a5, a6, a7, a8] (.int (0) :: st) h z bc bs Kr Kx) : QW V iL_law 298 [a0, a1, a2, a3, a4, a5, a6, a7, a8] (st) h z bc bs Kr Kx := q_iconst dL_law_298 (by decide) kk
theorem dL_law_299 : decode (i_b iL_law) 299 = .ok (.ireturn, 1) := by decide +kernel
theorem wL_law_299 {x : Int32} {P : Int32 → q_H → Option Nat → Prop} (hk : P x h z) (hn : narrow .boolean (.int x) = .int x := by first | rfl | exact q_b_n _) : QW V iL_law 299 [a0, a1, a2, a3, a4, a5, a6, a7, a8] [.int x] h z bc bs (q_Ki P) Kx := q_iret dL_law_299 rfl hn ⟨x, rfl, hk⟩
theorem dL_law_300 : decode (i_b iL_law) 300 = .ok (.iload 6, 2) := by decide +kernel
theorem wL_law_300 {x : Int32} (kk : QW V iL_law 302 [a0, a1, a2, a3, a4, a5, some (.int x), a7, a8] (.int x :: st) h z bc bs Kr Kx) : QW V iL_law 300 [a0, a1, a2, a3, a4, a5, some (.int x), a7, a8] (st) h z bc bs Kr Kx := q_iload dL_law_300 rfl kk
theorem dL_law_302 : decode (i_b iL_law) 302 = .ok (.ifCond .ne 15, 3) := by decide +kernel
theorem wL_law_302 {x : Int32} (kt : ¬ x = 0 → QW V iL_law 317 [a0, a1, a2, a3, a4, a5, a6, a7, a8] (st) h z bc bs Kr Kx) (kf : x = 0 → QW V iL_law 305 [a0, a1, a2, a3, a4, a5, a6, a7, a8] (st) h z bc bs Kr Kx) : QW V iL_law 302 [a0, a1, a2, a3, a4, a5, a6, a7, a8] (.int x :: st) h z bc bs Kr Kx := q_if_ne dL_law_302 (by decide) kt kf
theorem dL_law_305 : decode (i_b iL_law) 305 = .ok (.aload_n 3, 1) := by decide +kernel
theorem wL_law_305 {x : Nat} (kk : QW V iL_law 306 [a0, a1, a2, some (.ref x), a4, a5, a6, a7, a8] (.ref x :: st) h z bc bs Kr Kx) : QW V iL_law 305 [a0, a1, a2, some (.ref x), a4, a5, a6, a7, a8] (st) h z bc bs Kr Kx := q_aload_n dL_law_305 rfl rfl kk
theorem dL_law_306 : decode (i_b iL_law) 306 = .ok (.iconst 0, 1) := by decide +kernel
theorem wL_law_306  (kk : QW V iL_law 307 [a0, a1, a2, a3, a4, a5, a6, a7, a8] (.int (0) :: st) h z bc bs Kr Kx) : QW V iL_law 306 [a0, a1, a2, a3, a4, a5, a6, a7, a8] (st) h z bc bs Kr Kx := q_iconst dL_law_306 (by decide) kk
theorem dL_law_307 : decode (i_b iL_law) 307 = .ok (.laload, 1) := by decide +kernel
theorem wL_law_307 {a n j : Nat} {f : Nat → Int64} {i : Int32} (ha : h a = some (.inl (2, n, .inr (.inl f)))) (hi : i = nI j) (hj : j < n) (hn : n < 2147483648) (kk : QW V iL_law 308 [a0, a1, a2, a3, a4, a5, a6, a7, a8] (.long (f j) :: st) h z bc bs Kr Kx) : QW V iL_law 307 [a0, a1, a2, a3, a4, a5, a6, a7, a8] (.int i :: .ref a :: st) h z bc bs Kr Kx := q_lald dL_law_307 ha hi hj hn kk
theorem dL_law_308 : decode (i_b iL_law) 308 = .ok (.iload 7, 2) := by decide +kernel
theorem wL_law_308 {x : Int32} (kk : QW V iL_law 310 [a0, a1, a2, a3, a4, a5, a6, some (.int x), a8] (.int x :: st) h z bc bs Kr Kx) : QW V iL_law 308 [a0, a1, a2, a3, a4, a5, a6, some (.int x), a8] (st) h z bc bs Kr Kx := q_iload dL_law_308 rfl kk
theorem dL_law_310 : decode (i_b iL_law) 310 = .ok (.i2l, 1) := by decide +kernel
theorem wL_law_310 {x : Int32} (kk : QW V iL_law 311 [a0, a1, a2, a3, a4, a5, a6, a7, a8] (.long (x.toInt64) :: st) h z bc bs Kr Kx) : QW V iL_law 310 [a0, a1, a2, a3, a4, a5, a6, a7, a8] (.int x :: st) h z bc bs Kr Kx := q_i2l dL_law_310 kk
theorem dL_law_311 : decode (i_b iL_law) 311 = .ok (.lcmp, 1) := by decide +kernel
theorem dL_law_312 : decode (i_b iL_law) 312 = .ok (.ifCond .eq 5, 3) := by decide +kernel
theorem wL_law_311 {x y : Int64} (kt : x = y → QW V iL_law 317 [a0, a1, a2, a3, a4, a5, a6, a7, a8] (st) h z bc bs Kr Kx) (kf : ¬ x = y → QW V iL_law 315 [a0, a1, a2, a3, a4, a5, a6, a7, a8] (st) h z bc bs Kr Kx) : QW V iL_law 311 [a0, a1, a2, a3, a4, a5, a6, a7, a8] (.long y :: .long x :: st) h z bc bs Kr Kx := q_lcmp dL_law_311 (q_if_eq dL_law_312 (by decide) (fun q => kt ((q_lc_eq x y).mp q)) (fun q => kf (q_lcn_eq q)))
theorem dL_law_315 : decode (i_b iL_law) 315 = .ok (.iconst 0, 1) := by decide +kernel
theorem wL_law_315  (kk : QW V iL_law 316 [a0, a1, a2, a3, a4, a5, a6, a7, a8] (.int (0) :: st) h z bc bs Kr Kx) : QW V iL_law 315 [a0, a1, a2, a3, a4, a5, a6, a7, a8] (st) h z bc bs Kr Kx := q_iconst dL_law_315 (by decide) kk
theorem dL_law_316 : decode (i_b iL_law) 316 = .ok (.ireturn, 1) := by decide +kernel
theorem wL_law_316 {x : Int32} {P : Int32 → q_H → Option Nat → Prop} (hk : P x h z) (hn : narrow .boolean (.int x) = .int x := by first | rfl | exact q_b_n _) : QW V iL_law 316 [a0, a1, a2, a3, a4, a5, a6, a7, a8] [.int x] h z bc bs (q_Ki P) Kx := q_iret dL_law_316 rfl hn ⟨x, rfl, hk⟩
theorem dL_law_317 : decode (i_b iL_law) 317 = .ok (.goto 2434, 3) := by decide +kernel
theorem wL_law_317  (kk : QW V iL_law 2751 [a0, a1, a2, a3, a4, a5, a6, a7, a8] (st) h z bc bs Kr Kx) : QW V iL_law 317 [a0, a1, a2, a3, a4, a5, a6, a7, a8] (st) h z bc bs Kr Kx := q_goto dL_law_317 (by decide) kk
theorem dL_law_320 : decode (i_b iL_law) 320 = .ok (.aload_n 1, 1) := by decide +kernel
theorem wL_law_320 {x : Nat} (kk : QW V iL_law 321 [a0, some (.ref x), a2, a3, a4, a5, a6, a7, a8] (.ref x :: st) h z bc bs Kr Kx) : QW V iL_law 320 [a0, some (.ref x), a2, a3, a4, a5, a6, a7, a8] (st) h z bc bs Kr Kx := q_aload_n dL_law_320 rfl rfl kk
theorem dL_law_321 : decode (i_b iL_law) 321 = .ok (.aload_n 0, 1) := by decide +kernel
theorem wL_law_321 {x : Nat} (kk : QW V iL_law 322 [some (.ref x), a1, a2, a3, a4, a5, a6, a7, a8] (.ref x :: st) h z bc bs Kr Kx) : QW V iL_law 321 [some (.ref x), a1, a2, a3, a4, a5, a6, a7, a8] (st) h z bc bs Kr Kx := q_aload_n dL_law_321 rfl rfl kk
theorem dL_law_322 : decode (i_b iL_law) 322 = .ok (.iload 5, 2) := by decide +kernel
theorem wL_law_322 {x : Int32} (kk : QW V iL_law 324 [a0, a1, a2, a3, a4, some (.int x), a6, a7, a8] (.int x :: st) h z bc bs Kr Kx) : QW V iL_law 322 [a0, a1, a2, a3, a4, some (.int x), a6, a7, a8] (st) h z bc bs Kr Kx := q_iload dL_law_322 rfl kk
theorem dL_law_324 : decode (i_b iL_law) 324 = .ok (.iconst 1, 1) := by decide +kernel
theorem wL_law_324  (kk : QW V iL_law 325 [a0, a1, a2, a3, a4, a5, a6, a7, a8] (.int (1) :: st) h z bc bs Kr Kx) : QW V iL_law 324 [a0, a1, a2, a3, a4, a5, a6, a7, a8] (st) h z bc bs Kr Kx := q_iconst dL_law_324 (by decide) kk
theorem dL_law_325 : decode (i_b iL_law) 325 = .ok (.iadd, 1) := by decide +kernel
theorem wL_law_325 {x y : Int32} (kk : QW V iL_law 326 [a0, a1, a2, a3, a4, a5, a6, a7, a8] (.int (x + y) :: st) h z bc bs Kr Kx) : QW V iL_law 325 [a0, a1, a2, a3, a4, a5, a6, a7, a8] (.int y :: .int x :: st) h z bc bs Kr Kx := q_iadd dL_law_325 kk
theorem dL_law_326 : decode (i_b iL_law) 326 = .ok (.iaload, 1) := by decide +kernel
theorem wL_law_326 {j : Nat} {i : Int32} (hi : i = nI j) (hj : j < e_sL V) (hn : e_sL V < 2147483648) (kk : QW V iL_law 327 [a0, a1, a2, a3, a4, a5, a6, a7, a8] (.int (e_xs V j) :: st) h z bc bs Kr Kx) : QW V iL_law 326 [a0, a1, a2, a3, a4, a5, a6, a7, a8] (.int i :: .ref (e_sb V) :: st) h z bc bs Kr Kx := q_sld dL_law_326 hi hj hn kk
theorem dL_law_327 : decode (i_b iL_law) 327 = .ok (.aload_n 3, 1) := by decide +kernel
theorem wL_law_327 {x : Nat} (kk : QW V iL_law 328 [a0, a1, a2, some (.ref x), a4, a5, a6, a7, a8] (.ref x :: st) h z bc bs Kr Kx) : QW V iL_law 327 [a0, a1, a2, some (.ref x), a4, a5, a6, a7, a8] (st) h z bc bs Kr Kx := q_aload_n dL_law_327 rfl rfl kk
theorem dL_law_328 : decode (i_b iL_law) 328 = .ok (.invokestatic 153, 3) := by decide +kernel
theorem wL_law_328 {x0 : Nat} {x1 : Int32} {x2 : Nat} (hm : QMi V iL_truncate [.ref x0, .int x1, .ref x2] h z (fun r h' z' => QW V iL_law 331 [a0, a1, a2, a3, a4, a5, a6, a7, a8] (.int r :: st) h' z' bc bs Kr Kx) Kx) (hW : (st.map fun v => v.category).sum ≤ 8 := by exact Nat.le_of_ble_eq_true rfl) : QW V iL_law 328 [a0, a1, a2, a3, a4, a5, a6, a7, a8] (.ref x2 :: .int x1 :: .ref x0 :: st) h z (bc + 1) (bs + 6) Kr Kx := q_callSX (y' := iL_truncate) (As := [.ref x0, .int x1, .ref x2]) (rest := st) dL_law_328 k3_96 k3_97 k1_0 hhL_truncate (by decide) hdL_truncate rfl (Nat.le_of_ble_eq_true rfl) (Nat.le_of_ble_eq_true rfl) hW rfl (QMi.run hm)
theorem dL_law_331 : decode (i_b iL_law) 331 = .ok (.istore 6, 2) := by decide +kernel
theorem wL_law_331 {x : Int32} (kk : QW V iL_law 333 [a0, a1, a2, a3, a4, a5, some (.int x), a7, a8] (st) h z bc bs Kr Kx) (hp : q_n2 a5 = true := by rfl) : QW V iL_law 331 [a0, a1, a2, a3, a4, a5, a6, a7, a8] (.int x :: st) h z bc bs Kr Kx := q_istore dL_law_331 (Nat.le_of_ble_eq_true rfl) hp kk
theorem dL_law_333 : decode (i_b iL_law) 333 = .ok (.aload_n 2, 1) := by decide +kernel
theorem wL_law_333 {x : Nat} (kk : QW V iL_law 334 [a0, a1, some (.ref x), a3, a4, a5, a6, a7, a8] (.ref x :: st) h z bc bs Kr Kx) : QW V iL_law 333 [a0, a1, some (.ref x), a3, a4, a5, a6, a7, a8] (st) h z bc bs Kr Kx := q_aload_n dL_law_333 rfl rfl kk
theorem dL_law_334 : decode (i_b iL_law) 334 = .ok (.aload_n 0, 1) := by decide +kernel
theorem wL_law_334 {x : Nat} (kk : QW V iL_law 335 [some (.ref x), a1, a2, a3, a4, a5, a6, a7, a8] (.ref x :: st) h z bc bs Kr Kx) : QW V iL_law 334 [some (.ref x), a1, a2, a3, a4, a5, a6, a7, a8] (st) h z bc bs Kr Kx := q_aload_n dL_law_334 rfl rfl kk
theorem dL_law_335 : decode (i_b iL_law) 335 = .ok (.iload 5, 2) := by decide +kernel
theorem wL_law_335 {x : Int32} (kk : QW V iL_law 337 [a0, a1, a2, a3, a4, some (.int x), a6, a7, a8] (.int x :: st) h z bc bs Kr Kx) : QW V iL_law 335 [a0, a1, a2, a3, a4, some (.int x), a6, a7, a8] (st) h z bc bs Kr Kx := q_iload dL_law_335 rfl kk
theorem dL_law_337 : decode (i_b iL_law) 337 = .ok (.iconst 1, 1) := by decide +kernel
theorem wL_law_337  (kk : QW V iL_law 338 [a0, a1, a2, a3, a4, a5, a6, a7, a8] (.int (1) :: st) h z bc bs Kr Kx) : QW V iL_law 337 [a0, a1, a2, a3, a4, a5, a6, a7, a8] (st) h z bc bs Kr Kx := q_iconst dL_law_337 (by decide) kk
theorem dL_law_338 : decode (i_b iL_law) 338 = .ok (.iadd, 1) := by decide +kernel
theorem wL_law_338 {x y : Int32} (kk : QW V iL_law 339 [a0, a1, a2, a3, a4, a5, a6, a7, a8] (.int (x + y) :: st) h z bc bs Kr Kx) : QW V iL_law 338 [a0, a1, a2, a3, a4, a5, a6, a7, a8] (.int y :: .int x :: st) h z bc bs Kr Kx := q_iadd dL_law_338 kk
theorem dL_law_339 : decode (i_b iL_law) 339 = .ok (.iaload, 1) := by decide +kernel
theorem wL_law_339 {j : Nat} {i : Int32} (hi : i = nI j) (hj : j < e_sL V) (hn : e_sL V < 2147483648) (kk : QW V iL_law 340 [a0, a1, a2, a3, a4, a5, a6, a7, a8] (.int (e_xs V j) :: st) h z bc bs Kr Kx) : QW V iL_law 339 [a0, a1, a2, a3, a4, a5, a6, a7, a8] (.int i :: .ref (e_sb V) :: st) h z bc bs Kr Kx := q_sld dL_law_339 hi hj hn kk
theorem dL_law_340 : decode (i_b iL_law) 340 = .ok (.invokevirtual 156, 3) := by decide +kernel
theorem wL_law_340 {a : Nat} {fs : List Value} {x0 : Int32} (hb : h a = some (.inr (10, fs))) (hm : QMi V iX9_truncate [.ref a, .int x0] h z (fun r h' z' => QW V iL_law 343 [a0, a1, a2, a3, a4, a5, a6, a7, a8] (.int r :: st) h' z' bc bs Kr Kx) Kx) (hW : (st.map fun v => v.category).sum ≤ 8 := by exact Nat.le_of_ble_eq_true rfl) : QW V iL_law 340 [a0, a1, a2, a3, a4, a5, a6, a7, a8] (.int x0 :: .ref a :: st) h z bc bs Kr Kx := q_callV (y' := iX9_truncate) (As := [.int x0]) (rest := st) dL_law_340 k6_92 k6_93 k6_94 k1_10 hhX9_truncate rfl hdX9_truncate rfl rfl (Nat.le_of_ble_eq_true rfl) (Nat.le_of_ble_eq_true rfl) hW rfl hb (QMi.run hm)
theorem dL_law_343 : decode (i_b iL_law) 343 = .ok (.istore 7, 2) := by decide +kernel
theorem wL_law_343 {x : Int32} (kk : QW V iL_law 345 [a0, a1, a2, a3, a4, a5, a6, some (.int x), a8] (st) h z bc bs Kr Kx) (hp : q_n2 a6 = true := by rfl) : QW V iL_law 343 [a0, a1, a2, a3, a4, a5, a6, a7, a8] (.int x :: st) h z bc bs Kr Kx := q_istore dL_law_343 (Nat.le_of_ble_eq_true rfl) hp kk
theorem dL_law_345 : decode (i_b iL_law) 345 = .ok (.aload_n 2, 1) := by decide +kernel
theorem wL_law_345 {x : Nat} (kk : QW V iL_law 346 [a0, a1, some (.ref x), a3, a4, a5, a6, a7, a8] (.ref x :: st) h z bc bs Kr Kx) : QW V iL_law 345 [a0, a1, some (.ref x), a3, a4, a5, a6, a7, a8] (st) h z bc bs Kr Kx := q_aload_n dL_law_345 rfl rfl kk
theorem dL_law_346 : decode (i_b iL_law) 346 = .ok (.invokevirtual 150, 3) := by decide +kernel
theorem wL_law_346 {a : Nat} {fs : List Value}  (hb : h a = some (.inr (10, fs))) (hm : QMi V iX9_thrown [.ref a] h z (fun r h' z' => QW V iL_law 349 [a0, a1, a2, a3, a4, a5, a6, a7, a8] (.int r :: st) h' z' bc bs Kr Kx) Kx) (hW : (st.map fun v => v.category).sum ≤ 8 := by exact Nat.le_of_ble_eq_true rfl) : QW V iL_law 346 [a0, a1, a2, a3, a4, a5, a6, a7, a8] (.ref a :: st) h z bc bs Kr Kx := q_callV (y' := iX9_thrown) (As := []) (rest := st) dL_law_346 k6_80 k6_81 k6_82 k1_10 hhX9_thrown rfl hdX9_thrown rfl rfl (Nat.le_of_ble_eq_true rfl) (Nat.le_of_ble_eq_true rfl) hW rfl hb (QMi.run hm)
theorem dL_law_349 : decode (i_b iL_law) 349 = .ok (.iload 6, 2) := by decide +kernel
theorem wL_law_349 {x : Int32} (kk : QW V iL_law 351 [a0, a1, a2, a3, a4, a5, some (.int x), a7, a8] (.int x :: st) h z bc bs Kr Kx) : QW V iL_law 349 [a0, a1, a2, a3, a4, a5, some (.int x), a7, a8] (st) h z bc bs Kr Kx := q_iload dL_law_349 rfl kk
theorem dL_law_351 : decode (i_b iL_law) 351 = .ok (.if_icmp .eq 5, 3) := by decide +kernel
theorem wL_law_351 {x y : Int32} (kt : x = y → QW V iL_law 356 [a0, a1, a2, a3, a4, a5, a6, a7, a8] (st) h z bc bs Kr Kx) (kf : ¬ x = y → QW V iL_law 354 [a0, a1, a2, a3, a4, a5, a6, a7, a8] (st) h z bc bs Kr Kx) : QW V iL_law 351 [a0, a1, a2, a3, a4, a5, a6, a7, a8] (.int y :: .int x :: st) h z bc bs Kr Kx := q_icmp_eq dL_law_351 (by decide) kt kf
theorem dL_law_354 : decode (i_b iL_law) 354 = .ok (.iconst 0, 1) := by decide +kernel
theorem wL_law_354  (kk : QW V iL_law 355 [a0, a1, a2, a3, a4, a5, a6, a7, a8] (.int (0) :: st) h z bc bs Kr Kx) : QW V iL_law 354 [a0, a1, a2, a3, a4, a5, a6, a7, a8] (st) h z bc bs Kr Kx := q_iconst dL_law_354 (by decide) kk
theorem dL_law_355 : decode (i_b iL_law) 355 = .ok (.ireturn, 1) := by decide +kernel
theorem wL_law_355 {x : Int32} {P : Int32 → q_H → Option Nat → Prop} (hk : P x h z) (hn : narrow .boolean (.int x) = .int x := by first | rfl | exact q_b_n _) : QW V iL_law 355 [a0, a1, a2, a3, a4, a5, a6, a7, a8] [.int x] h z bc bs (q_Ki P) Kx := q_iret dL_law_355 rfl hn ⟨x, rfl, hk⟩
theorem dL_law_356 : decode (i_b iL_law) 356 = .ok (.iload 6, 2) := by decide +kernel
theorem wL_law_356 {x : Int32} (kk : QW V iL_law 358 [a0, a1, a2, a3, a4, a5, some (.int x), a7, a8] (.int x :: st) h z bc bs Kr Kx) : QW V iL_law 356 [a0, a1, a2, a3, a4, a5, some (.int x), a7, a8] (st) h z bc bs Kr Kx := q_iload dL_law_356 rfl kk
theorem dL_law_358 : decode (i_b iL_law) 358 = .ok (.ifCond .ne 15, 3) := by decide +kernel
theorem wL_law_358 {x : Int32} (kt : ¬ x = 0 → QW V iL_law 373 [a0, a1, a2, a3, a4, a5, a6, a7, a8] (st) h z bc bs Kr Kx) (kf : x = 0 → QW V iL_law 361 [a0, a1, a2, a3, a4, a5, a6, a7, a8] (st) h z bc bs Kr Kx) : QW V iL_law 358 [a0, a1, a2, a3, a4, a5, a6, a7, a8] (.int x :: st) h z bc bs Kr Kx := q_if_ne dL_law_358 (by decide) kt kf
theorem dL_law_361 : decode (i_b iL_law) 361 = .ok (.aload_n 3, 1) := by decide +kernel
theorem wL_law_361 {x : Nat} (kk : QW V iL_law 362 [a0, a1, a2, some (.ref x), a4, a5, a6, a7, a8] (.ref x :: st) h z bc bs Kr Kx) : QW V iL_law 361 [a0, a1, a2, some (.ref x), a4, a5, a6, a7, a8] (st) h z bc bs Kr Kx := q_aload_n dL_law_361 rfl rfl kk
theorem dL_law_362 : decode (i_b iL_law) 362 = .ok (.iconst 0, 1) := by decide +kernel
theorem wL_law_362  (kk : QW V iL_law 363 [a0, a1, a2, a3, a4, a5, a6, a7, a8] (.int (0) :: st) h z bc bs Kr Kx) : QW V iL_law 362 [a0, a1, a2, a3, a4, a5, a6, a7, a8] (st) h z bc bs Kr Kx := q_iconst dL_law_362 (by decide) kk
theorem dL_law_363 : decode (i_b iL_law) 363 = .ok (.laload, 1) := by decide +kernel
theorem wL_law_363 {a n j : Nat} {f : Nat → Int64} {i : Int32} (ha : h a = some (.inl (2, n, .inr (.inl f)))) (hi : i = nI j) (hj : j < n) (hn : n < 2147483648) (kk : QW V iL_law 364 [a0, a1, a2, a3, a4, a5, a6, a7, a8] (.long (f j) :: st) h z bc bs Kr Kx) : QW V iL_law 363 [a0, a1, a2, a3, a4, a5, a6, a7, a8] (.int i :: .ref a :: st) h z bc bs Kr Kx := q_lald dL_law_363 ha hi hj hn kk
theorem dL_law_364 : decode (i_b iL_law) 364 = .ok (.iload 7, 2) := by decide +kernel
theorem wL_law_364 {x : Int32} (kk : QW V iL_law 366 [a0, a1, a2, a3, a4, a5, a6, some (.int x), a8] (.int x :: st) h z bc bs Kr Kx) : QW V iL_law 364 [a0, a1, a2, a3, a4, a5, a6, some (.int x), a8] (st) h z bc bs Kr Kx := q_iload dL_law_364 rfl kk
theorem dL_law_366 : decode (i_b iL_law) 366 = .ok (.i2l, 1) := by decide +kernel
theorem wL_law_366 {x : Int32} (kk : QW V iL_law 367 [a0, a1, a2, a3, a4, a5, a6, a7, a8] (.long (x.toInt64) :: st) h z bc bs Kr Kx) : QW V iL_law 366 [a0, a1, a2, a3, a4, a5, a6, a7, a8] (.int x :: st) h z bc bs Kr Kx := q_i2l dL_law_366 kk
theorem dL_law_367 : decode (i_b iL_law) 367 = .ok (.lcmp, 1) := by decide +kernel
theorem dL_law_368 : decode (i_b iL_law) 368 = .ok (.ifCond .eq 5, 3) := by decide +kernel
theorem wL_law_367 {x y : Int64} (kt : x = y → QW V iL_law 373 [a0, a1, a2, a3, a4, a5, a6, a7, a8] (st) h z bc bs Kr Kx) (kf : ¬ x = y → QW V iL_law 371 [a0, a1, a2, a3, a4, a5, a6, a7, a8] (st) h z bc bs Kr Kx) : QW V iL_law 367 [a0, a1, a2, a3, a4, a5, a6, a7, a8] (.long y :: .long x :: st) h z bc bs Kr Kx := q_lcmp dL_law_367 (q_if_eq dL_law_368 (by decide) (fun q => kt ((q_lc_eq x y).mp q)) (fun q => kf (q_lcn_eq q)))
theorem dL_law_371 : decode (i_b iL_law) 371 = .ok (.iconst 0, 1) := by decide +kernel
theorem wL_law_371  (kk : QW V iL_law 372 [a0, a1, a2, a3, a4, a5, a6, a7, a8] (.int (0) :: st) h z bc bs Kr Kx) : QW V iL_law 371 [a0, a1, a2, a3, a4, a5, a6, a7, a8] (st) h z bc bs Kr Kx := q_iconst dL_law_371 (by decide) kk
theorem dL_law_372 : decode (i_b iL_law) 372 = .ok (.ireturn, 1) := by decide +kernel
theorem wL_law_372 {x : Int32} {P : Int32 → q_H → Option Nat → Prop} (hk : P x h z) (hn : narrow .boolean (.int x) = .int x := by first | rfl | exact q_b_n _) : QW V iL_law 372 [a0, a1, a2, a3, a4, a5, a6, a7, a8] [.int x] h z bc bs (q_Ki P) Kx := q_iret dL_law_372 rfl hn ⟨x, rfl, hk⟩
theorem dL_law_373 : decode (i_b iL_law) 373 = .ok (.goto 2378, 3) := by decide +kernel
theorem wL_law_373  (kk : QW V iL_law 2751 [a0, a1, a2, a3, a4, a5, a6, a7, a8] (st) h z bc bs Kr Kx) : QW V iL_law 373 [a0, a1, a2, a3, a4, a5, a6, a7, a8] (st) h z bc bs Kr Kx := q_goto dL_law_373 (by decide) kk
theorem dL_law_376 : decode (i_b iL_law) 376 = .ok (.aload_n 1, 1) := by decide +kernel
theorem wL_law_376 {x : Nat} (kk : QW V iL_law 377 [a0, some (.ref x), a2, a3, a4, a5, a6, a7, a8] (.ref x :: st) h z bc bs Kr Kx) : QW V iL_law 376 [a0, some (.ref x), a2, a3, a4, a5, a6, a7, a8] (st) h z bc bs Kr Kx := q_aload_n dL_law_376 rfl rfl kk
theorem dL_law_377 : decode (i_b iL_law) 377 = .ok (.invokevirtual 157, 3) := by decide +kernel
theorem wL_law_377 {a : Nat} {fs : List Value}  (hb : h a = some (.inr (9, fs))) (hm : QMi V iX8_load [.ref a] h z (fun r h' z' => QW V iL_law 380 [a0, a1, a2, a3, a4, a5, a6, a7, a8] (.int r :: st) h' z' bc bs Kr Kx) Kx) (hW : (st.map fun v => v.category).sum ≤ 8 := by exact Nat.le_of_ble_eq_true rfl) : QW V iL_law 377 [a0, a1, a2, a3, a4, a5, a6, a7, a8] (.ref a :: st) h z bc bs Kr Kx := q_callV (y' := iX8_load) (As := []) (rest := st) dL_law_377 k2_68 k2_69 k2_70 k1_1 hhX8_load rfl hdX8_load rfl rfl (Nat.le_of_ble_eq_true rfl) (Nat.le_of_ble_eq_true rfl) hW rfl hb (QMi.run hm)
theorem dL_law_380 : decode (i_b iL_law) 380 = .ok (.aload_n 2, 1) := by decide +kernel
theorem wL_law_380 {x : Nat} (kk : QW V iL_law 381 [a0, a1, some (.ref x), a3, a4, a5, a6, a7, a8] (.ref x :: st) h z bc bs Kr Kx) : QW V iL_law 380 [a0, a1, some (.ref x), a3, a4, a5, a6, a7, a8] (st) h z bc bs Kr Kx := q_aload_n dL_law_380 rfl rfl kk
theorem dL_law_381 : decode (i_b iL_law) 381 = .ok (.invokevirtual 160, 3) := by decide +kernel
theorem wL_law_381 {a : Nat} {fs : List Value}  (hb : h a = some (.inr (10, fs))) (hm : QMi V iX9_load [.ref a] h z (fun r h' z' => QW V iL_law 384 [a0, a1, a2, a3, a4, a5, a6, a7, a8] (.int r :: st) h' z' bc bs Kr Kx) Kx) (hW : (st.map fun v => v.category).sum ≤ 8 := by exact Nat.le_of_ble_eq_true rfl) : QW V iL_law 381 [a0, a1, a2, a3, a4, a5, a6, a7, a8] (.ref a :: st) h z bc bs Kr Kx := q_callV (y' := iX9_load) (As := []) (rest := st) dL_law_381 k6_99 k6_100 k6_101 k1_10 hhX9_load rfl hdX9_load rfl rfl (Nat.le_of_ble_eq_true rfl) (Nat.le_of_ble_eq_true rfl) hW rfl hb (QMi.run hm)
theorem dL_law_384 : decode (i_b iL_law) 384 = .ok (.if_icmp .eq 2367, 3) := by decide +kernel
theorem wL_law_384 {x y : Int32} (kt : x = y → QW V iL_law 2751 [a0, a1, a2, a3, a4, a5, a6, a7, a8] (st) h z bc bs Kr Kx) (kf : ¬ x = y → QW V iL_law 387 [a0, a1, a2, a3, a4, a5, a6, a7, a8] (st) h z bc bs Kr Kx) : QW V iL_law 384 [a0, a1, a2, a3, a4, a5, a6, a7, a8] (.int y :: .int x :: st) h z bc bs Kr Kx := q_icmp_eq dL_law_384 (by decide) kt kf
theorem dL_law_387 : decode (i_b iL_law) 387 = .ok (.iconst 0, 1) := by decide +kernel
theorem wL_law_387  (kk : QW V iL_law 388 [a0, a1, a2, a3, a4, a5, a6, a7, a8] (.int (0) :: st) h z bc bs Kr Kx) : QW V iL_law 387 [a0, a1, a2, a3, a4, a5, a6, a7, a8] (st) h z bc bs Kr Kx := q_iconst dL_law_387 (by decide) kk
theorem dL_law_388 : decode (i_b iL_law) 388 = .ok (.ireturn, 1) := by decide +kernel
theorem wL_law_388 {x : Int32} {P : Int32 → q_H → Option Nat → Prop} (hk : P x h z) (hn : narrow .boolean (.int x) = .int x := by first | rfl | exact q_b_n _) : QW V iL_law 388 [a0, a1, a2, a3, a4, a5, a6, a7, a8] [.int x] h z bc bs (q_Ki P) Kx := q_iret dL_law_388 rfl hn ⟨x, rfl, hk⟩
theorem dL_law_389 : decode (i_b iL_law) 389 = .ok (.aload_n 1, 1) := by decide +kernel
theorem wL_law_389 {x : Nat} (kk : QW V iL_law 390 [a0, some (.ref x), a2, a3, a4, a5, a6, a7, a8] (.ref x :: st) h z bc bs Kr Kx) : QW V iL_law 389 [a0, some (.ref x), a2, a3, a4, a5, a6, a7, a8] (st) h z bc bs Kr Kx := q_aload_n dL_law_389 rfl rfl kk
theorem dL_law_390 : decode (i_b iL_law) 390 = .ok (.invokevirtual 161, 3) := by decide +kernel
theorem wL_law_390 {a : Nat} {fs : List Value}  (hb : h a = some (.inr (9, fs))) (hm : QMi V iX8_errorPosition [.ref a] h z (fun r h' z' => QW V iL_law 393 [a0, a1, a2, a3, a4, a5, a6, a7, a8] (.int r :: st) h' z' bc bs Kr Kx) Kx) (hW : (st.map fun v => v.category).sum ≤ 8 := by exact Nat.le_of_ble_eq_true rfl) : QW V iL_law 390 [a0, a1, a2, a3, a4, a5, a6, a7, a8] (.ref a :: st) h z bc bs Kr Kx := q_callV (y' := iX8_errorPosition) (As := []) (rest := st) dL_law_390 k3_12 k3_13 k3_14 k1_1 hhX8_errorPosition rfl hdX8_errorPosition rfl rfl (Nat.le_of_ble_eq_true rfl) (Nat.le_of_ble_eq_true rfl) hW rfl hb (QMi.run hm)
theorem dL_law_393 : decode (i_b iL_law) 393 = .ok (.aload_n 2, 1) := by decide +kernel
theorem wL_law_393 {x : Nat} (kk : QW V iL_law 394 [a0, a1, some (.ref x), a3, a4, a5, a6, a7, a8] (.ref x :: st) h z bc bs Kr Kx) : QW V iL_law 393 [a0, a1, some (.ref x), a3, a4, a5, a6, a7, a8] (st) h z bc bs Kr Kx := q_aload_n dL_law_393 rfl rfl kk
theorem dL_law_394 : decode (i_b iL_law) 394 = .ok (.invokevirtual 164, 3) := by decide +kernel
theorem wL_law_394 {a : Nat} {fs : List Value}  (hb : h a = some (.inr (10, fs))) (hm : QMi V iX9_errorPosition [.ref a] h z (fun r h' z' => QW V iL_law 397 [a0, a1, a2, a3, a4, a5, a6, a7, a8] (.int r :: st) h' z' bc bs Kr Kx) Kx) (hW : (st.map fun v => v.category).sum ≤ 8 := by exact Nat.le_of_ble_eq_true rfl) : QW V iL_law 394 [a0, a1, a2, a3, a4, a5, a6, a7, a8] (.ref a :: st) h z bc bs Kr Kx := q_callV (y' := iX9_errorPosition) (As := []) (rest := st) dL_law_394 k6_180 k6_181 k6_182 k1_10 hhX9_errorPosition rfl hdX9_errorPosition rfl rfl (Nat.le_of_ble_eq_true rfl) (Nat.le_of_ble_eq_true rfl) hW rfl hb (QMi.run hm)
theorem dL_law_397 : decode (i_b iL_law) 397 = .ok (.if_icmp .eq 2354, 3) := by decide +kernel
theorem wL_law_397 {x y : Int32} (kt : x = y → QW V iL_law 2751 [a0, a1, a2, a3, a4, a5, a6, a7, a8] (st) h z bc bs Kr Kx) (kf : ¬ x = y → QW V iL_law 400 [a0, a1, a2, a3, a4, a5, a6, a7, a8] (st) h z bc bs Kr Kx) : QW V iL_law 397 [a0, a1, a2, a3, a4, a5, a6, a7, a8] (.int y :: .int x :: st) h z bc bs Kr Kx := q_icmp_eq dL_law_397 (by decide) kt kf
theorem dL_law_400 : decode (i_b iL_law) 400 = .ok (.iconst 0, 1) := by decide +kernel
theorem wL_law_400  (kk : QW V iL_law 401 [a0, a1, a2, a3, a4, a5, a6, a7, a8] (.int (0) :: st) h z bc bs Kr Kx) : QW V iL_law 400 [a0, a1, a2, a3, a4, a5, a6, a7, a8] (st) h z bc bs Kr Kx := q_iconst dL_law_400 (by decide) kk
theorem dL_law_401 : decode (i_b iL_law) 401 = .ok (.ireturn, 1) := by decide +kernel
theorem wL_law_401 {x : Int32} {P : Int32 → q_H → Option Nat → Prop} (hk : P x h z) (hn : narrow .boolean (.int x) = .int x := by first | rfl | exact q_b_n _) : QW V iL_law 401 [a0, a1, a2, a3, a4, a5, a6, a7, a8] [.int x] h z bc bs (q_Ki P) Kx := q_iret dL_law_401 rfl hn ⟨x, rfl, hk⟩
theorem dL_law_402 : decode (i_b iL_law) 402 = .ok (.aload_n 1, 1) := by decide +kernel
theorem wL_law_402 {x : Nat} (kk : QW V iL_law 403 [a0, some (.ref x), a2, a3, a4, a5, a6, a7, a8] (.ref x :: st) h z bc bs Kr Kx) : QW V iL_law 402 [a0, some (.ref x), a2, a3, a4, a5, a6, a7, a8] (st) h z bc bs Kr Kx := q_aload_n dL_law_402 rfl rfl kk
theorem dL_law_403 : decode (i_b iL_law) 403 = .ok (.aload_n 0, 1) := by decide +kernel
theorem wL_law_403 {x : Nat} (kk : QW V iL_law 404 [some (.ref x), a1, a2, a3, a4, a5, a6, a7, a8] (.ref x :: st) h z bc bs Kr Kx) : QW V iL_law 403 [some (.ref x), a1, a2, a3, a4, a5, a6, a7, a8] (st) h z bc bs Kr Kx := q_aload_n dL_law_403 rfl rfl kk
theorem dL_law_404 : decode (i_b iL_law) 404 = .ok (.iload 5, 2) := by decide +kernel
theorem wL_law_404 {x : Int32} (kk : QW V iL_law 406 [a0, a1, a2, a3, a4, some (.int x), a6, a7, a8] (.int x :: st) h z bc bs Kr Kx) : QW V iL_law 404 [a0, a1, a2, a3, a4, some (.int x), a6, a7, a8] (st) h z bc bs Kr Kx := q_iload dL_law_404 rfl kk
theorem dL_law_406 : decode (i_b iL_law) 406 = .ok (.iconst 1, 1) := by decide +kernel
theorem wL_law_406  (kk : QW V iL_law 407 [a0, a1, a2, a3, a4, a5, a6, a7, a8] (.int (1) :: st) h z bc bs Kr Kx) : QW V iL_law 406 [a0, a1, a2, a3, a4, a5, a6, a7, a8] (st) h z bc bs Kr Kx := q_iconst dL_law_406 (by decide) kk
theorem dL_law_407 : decode (i_b iL_law) 407 = .ok (.iadd, 1) := by decide +kernel
theorem wL_law_407 {x y : Int32} (kk : QW V iL_law 408 [a0, a1, a2, a3, a4, a5, a6, a7, a8] (.int (x + y) :: st) h z bc bs Kr Kx) : QW V iL_law 407 [a0, a1, a2, a3, a4, a5, a6, a7, a8] (.int y :: .int x :: st) h z bc bs Kr Kx := q_iadd dL_law_407 kk
theorem dL_law_408 : decode (i_b iL_law) 408 = .ok (.iaload, 1) := by decide +kernel
theorem wL_law_408 {j : Nat} {i : Int32} (hi : i = nI j) (hj : j < e_sL V) (hn : e_sL V < 2147483648) (kk : QW V iL_law 409 [a0, a1, a2, a3, a4, a5, a6, a7, a8] (.int (e_xs V j) :: st) h z bc bs Kr Kx) : QW V iL_law 408 [a0, a1, a2, a3, a4, a5, a6, a7, a8] (.int i :: .ref (e_sb V) :: st) h z bc bs Kr Kx := q_sld dL_law_408 hi hj hn kk
theorem dL_law_409 : decode (i_b iL_law) 409 = .ok (.aload_n 0, 1) := by decide +kernel
theorem wL_law_409 {x : Nat} (kk : QW V iL_law 410 [some (.ref x), a1, a2, a3, a4, a5, a6, a7, a8] (.ref x :: st) h z bc bs Kr Kx) : QW V iL_law 409 [some (.ref x), a1, a2, a3, a4, a5, a6, a7, a8] (st) h z bc bs Kr Kx := q_aload_n dL_law_409 rfl rfl kk
theorem dL_law_410 : decode (i_b iL_law) 410 = .ok (.iload 5, 2) := by decide +kernel
theorem wL_law_410 {x : Int32} (kk : QW V iL_law 412 [a0, a1, a2, a3, a4, some (.int x), a6, a7, a8] (.int x :: st) h z bc bs Kr Kx) : QW V iL_law 410 [a0, a1, a2, a3, a4, some (.int x), a6, a7, a8] (st) h z bc bs Kr Kx := q_iload dL_law_410 rfl kk
theorem dL_law_412 : decode (i_b iL_law) 412 = .ok (.iconst 2, 1) := by decide +kernel
theorem wL_law_412  (kk : QW V iL_law 413 [a0, a1, a2, a3, a4, a5, a6, a7, a8] (.int (2) :: st) h z bc bs Kr Kx) : QW V iL_law 412 [a0, a1, a2, a3, a4, a5, a6, a7, a8] (st) h z bc bs Kr Kx := q_iconst dL_law_412 (by decide) kk
theorem dL_law_413 : decode (i_b iL_law) 413 = .ok (.iadd, 1) := by decide +kernel
theorem wL_law_413 {x y : Int32} (kk : QW V iL_law 414 [a0, a1, a2, a3, a4, a5, a6, a7, a8] (.int (x + y) :: st) h z bc bs Kr Kx) : QW V iL_law 413 [a0, a1, a2, a3, a4, a5, a6, a7, a8] (.int y :: .int x :: st) h z bc bs Kr Kx := q_iadd dL_law_413 kk
theorem dL_law_414 : decode (i_b iL_law) 414 = .ok (.iaload, 1) := by decide +kernel
theorem wL_law_414 {j : Nat} {i : Int32} (hi : i = nI j) (hj : j < e_sL V) (hn : e_sL V < 2147483648) (kk : QW V iL_law 415 [a0, a1, a2, a3, a4, a5, a6, a7, a8] (.int (e_xs V j) :: st) h z bc bs Kr Kx) : QW V iL_law 414 [a0, a1, a2, a3, a4, a5, a6, a7, a8] (.int i :: .ref (e_sb V) :: st) h z bc bs Kr Kx := q_sld dL_law_414 hi hj hn kk
theorem dL_law_415 : decode (i_b iL_law) 415 = .ok (.aload_n 0, 1) := by decide +kernel
theorem wL_law_415 {x : Nat} (kk : QW V iL_law 416 [some (.ref x), a1, a2, a3, a4, a5, a6, a7, a8] (.ref x :: st) h z bc bs Kr Kx) : QW V iL_law 415 [some (.ref x), a1, a2, a3, a4, a5, a6, a7, a8] (st) h z bc bs Kr Kx := q_aload_n dL_law_415 rfl rfl kk
theorem dL_law_416 : decode (i_b iL_law) 416 = .ok (.iload 5, 2) := by decide +kernel
theorem wL_law_416 {x : Int32} (kk : QW V iL_law 418 [a0, a1, a2, a3, a4, some (.int x), a6, a7, a8] (.int x :: st) h z bc bs Kr Kx) : QW V iL_law 416 [a0, a1, a2, a3, a4, some (.int x), a6, a7, a8] (st) h z bc bs Kr Kx := q_iload dL_law_416 rfl kk
theorem dL_law_418 : decode (i_b iL_law) 418 = .ok (.iconst 3, 1) := by decide +kernel
theorem wL_law_418  (kk : QW V iL_law 419 [a0, a1, a2, a3, a4, a5, a6, a7, a8] (.int (3) :: st) h z bc bs Kr Kx) : QW V iL_law 418 [a0, a1, a2, a3, a4, a5, a6, a7, a8] (st) h z bc bs Kr Kx := q_iconst dL_law_418 (by decide) kk
theorem dL_law_419 : decode (i_b iL_law) 419 = .ok (.iadd, 1) := by decide +kernel
theorem wL_law_419 {x y : Int32} (kk : QW V iL_law 420 [a0, a1, a2, a3, a4, a5, a6, a7, a8] (.int (x + y) :: st) h z bc bs Kr Kx) : QW V iL_law 419 [a0, a1, a2, a3, a4, a5, a6, a7, a8] (.int y :: .int x :: st) h z bc bs Kr Kx := q_iadd dL_law_419 kk
theorem dL_law_420 : decode (i_b iL_law) 420 = .ok (.iaload, 1) := by decide +kernel
theorem wL_law_420 {j : Nat} {i : Int32} (hi : i = nI j) (hj : j < e_sL V) (hn : e_sL V < 2147483648) (kk : QW V iL_law 421 [a0, a1, a2, a3, a4, a5, a6, a7, a8] (.int (e_xs V j) :: st) h z bc bs Kr Kx) : QW V iL_law 420 [a0, a1, a2, a3, a4, a5, a6, a7, a8] (.int i :: .ref (e_sb V) :: st) h z bc bs Kr Kx := q_sld dL_law_420 hi hj hn kk
theorem dL_law_421 : decode (i_b iL_law) 421 = .ok (.aload_n 0, 1) := by decide +kernel
theorem wL_law_421 {x : Nat} (kk : QW V iL_law 422 [some (.ref x), a1, a2, a3, a4, a5, a6, a7, a8] (.ref x :: st) h z bc bs Kr Kx) : QW V iL_law 421 [some (.ref x), a1, a2, a3, a4, a5, a6, a7, a8] (st) h z bc bs Kr Kx := q_aload_n dL_law_421 rfl rfl kk
theorem dL_law_422 : decode (i_b iL_law) 422 = .ok (.iload 5, 2) := by decide +kernel
theorem wL_law_422 {x : Int32} (kk : QW V iL_law 424 [a0, a1, a2, a3, a4, some (.int x), a6, a7, a8] (.int x :: st) h z bc bs Kr Kx) : QW V iL_law 422 [a0, a1, a2, a3, a4, some (.int x), a6, a7, a8] (st) h z bc bs Kr Kx := q_iload dL_law_422 rfl kk
theorem dL_law_424 : decode (i_b iL_law) 424 = .ok (.iconst 4, 1) := by decide +kernel
theorem wL_law_424  (kk : QW V iL_law 425 [a0, a1, a2, a3, a4, a5, a6, a7, a8] (.int (4) :: st) h z bc bs Kr Kx) : QW V iL_law 424 [a0, a1, a2, a3, a4, a5, a6, a7, a8] (st) h z bc bs Kr Kx := q_iconst dL_law_424 (by decide) kk
theorem dL_law_425 : decode (i_b iL_law) 425 = .ok (.iadd, 1) := by decide +kernel
theorem wL_law_425 {x y : Int32} (kk : QW V iL_law 426 [a0, a1, a2, a3, a4, a5, a6, a7, a8] (.int (x + y) :: st) h z bc bs Kr Kx) : QW V iL_law 425 [a0, a1, a2, a3, a4, a5, a6, a7, a8] (.int y :: .int x :: st) h z bc bs Kr Kx := q_iadd dL_law_425 kk
theorem dL_law_426 : decode (i_b iL_law) 426 = .ok (.iaload, 1) := by decide +kernel
theorem wL_law_426 {j : Nat} {i : Int32} (hi : i = nI j) (hj : j < e_sL V) (hn : e_sL V < 2147483648) (kk : QW V iL_law 427 [a0, a1, a2, a3, a4, a5, a6, a7, a8] (.int (e_xs V j) :: st) h z bc bs Kr Kx) : QW V iL_law 426 [a0, a1, a2, a3, a4, a5, a6, a7, a8] (.int i :: .ref (e_sb V) :: st) h z bc bs Kr Kx := q_sld dL_law_426 hi hj hn kk
theorem dL_law_427 : decode (i_b iL_law) 427 = .ok (.aload_n 0, 1) := by decide +kernel
theorem wL_law_427 {x : Nat} (kk : QW V iL_law 428 [some (.ref x), a1, a2, a3, a4, a5, a6, a7, a8] (.ref x :: st) h z bc bs Kr Kx) : QW V iL_law 427 [some (.ref x), a1, a2, a3, a4, a5, a6, a7, a8] (st) h z bc bs Kr Kx := q_aload_n dL_law_427 rfl rfl kk
theorem dL_law_428 : decode (i_b iL_law) 428 = .ok (.iload 5, 2) := by decide +kernel
theorem wL_law_428 {x : Int32} (kk : QW V iL_law 430 [a0, a1, a2, a3, a4, some (.int x), a6, a7, a8] (.int x :: st) h z bc bs Kr Kx) : QW V iL_law 428 [a0, a1, a2, a3, a4, some (.int x), a6, a7, a8] (st) h z bc bs Kr Kx := q_iload dL_law_428 rfl kk
theorem dL_law_430 : decode (i_b iL_law) 430 = .ok (.iconst 5, 1) := by decide +kernel
theorem wL_law_430  (kk : QW V iL_law 431 [a0, a1, a2, a3, a4, a5, a6, a7, a8] (.int (5) :: st) h z bc bs Kr Kx) : QW V iL_law 430 [a0, a1, a2, a3, a4, a5, a6, a7, a8] (st) h z bc bs Kr Kx := q_iconst dL_law_430 (by decide) kk
theorem dL_law_431 : decode (i_b iL_law) 431 = .ok (.iadd, 1) := by decide +kernel
theorem wL_law_431 {x y : Int32} (kk : QW V iL_law 432 [a0, a1, a2, a3, a4, a5, a6, a7, a8] (.int (x + y) :: st) h z bc bs Kr Kx) : QW V iL_law 431 [a0, a1, a2, a3, a4, a5, a6, a7, a8] (.int y :: .int x :: st) h z bc bs Kr Kx := q_iadd dL_law_431 kk
theorem dL_law_432 : decode (i_b iL_law) 432 = .ok (.iaload, 1) := by decide +kernel
theorem wL_law_432 {j : Nat} {i : Int32} (hi : i = nI j) (hj : j < e_sL V) (hn : e_sL V < 2147483648) (kk : QW V iL_law 433 [a0, a1, a2, a3, a4, a5, a6, a7, a8] (.int (e_xs V j) :: st) h z bc bs Kr Kx) : QW V iL_law 432 [a0, a1, a2, a3, a4, a5, a6, a7, a8] (.int i :: .ref (e_sb V) :: st) h z bc bs Kr Kx := q_sld dL_law_432 hi hj hn kk
theorem dL_law_433 : decode (i_b iL_law) 433 = .ok (.aload_n 3, 1) := by decide +kernel
theorem wL_law_433 {x : Nat} (kk : QW V iL_law 434 [a0, a1, a2, some (.ref x), a4, a5, a6, a7, a8] (.ref x :: st) h z bc bs Kr Kx) : QW V iL_law 433 [a0, a1, a2, some (.ref x), a4, a5, a6, a7, a8] (st) h z bc bs Kr Kx := q_aload_n dL_law_433 rfl rfl kk
theorem dL_law_434 : decode (i_b iL_law) 434 = .ok (.invokestatic 165, 3) := by decide +kernel
theorem wL_law_434 {x0 : Nat} {x1 : Int32} {x2 : Int32} {x3 : Int32} {x4 : Int32} {x5 : Int32} {x6 : Nat} (hm : QMi V iL_makeOffer [.ref x0, .int x1, .int x2, .int x3, .int x4, .int x5, .ref x6] h z (fun r h' z' => QW V iL_law 437 [a0, a1, a2, a3, a4, a5, a6, a7, a8] (.int r :: st) h' z' bc bs Kr Kx) Kx) (hW : (st.map fun v => v.category).sum ≤ 8 := by exact Nat.le_of_ble_eq_true rfl) : QW V iL_law 434 [a0, a1, a2, a3, a4, a5, a6, a7, a8] (.ref x6 :: .int x5 :: .int x4 :: .int x3 :: .int x2 :: .int x1 :: .ref x0 :: st) h z (bc + 6) (bs + 36) Kr Kx := q_callSX (y' := iL_makeOffer) (As := [.ref x0, .int x1, .int x2, .int x3, .int x4, .int x5, .ref x6]) (rest := st) dL_law_434 k3_123 k3_124 k1_0 hhL_makeOffer (by decide) hdL_makeOffer rfl (Nat.le_of_ble_eq_true rfl) (Nat.le_of_ble_eq_true rfl) hW rfl (QMi.run hm)
theorem dL_law_437 : decode (i_b iL_law) 437 = .ok (.istore 6, 2) := by decide +kernel
theorem wL_law_437 {x : Int32} (kk : QW V iL_law 439 [a0, a1, a2, a3, a4, a5, some (.int x), a7, a8] (st) h z bc bs Kr Kx) (hp : q_n2 a5 = true := by rfl) : QW V iL_law 437 [a0, a1, a2, a3, a4, a5, a6, a7, a8] (.int x :: st) h z bc bs Kr Kx := q_istore dL_law_437 (Nat.le_of_ble_eq_true rfl) hp kk
theorem dL_law_439 : decode (i_b iL_law) 439 = .ok (.aload_n 2, 1) := by decide +kernel
theorem wL_law_439 {x : Nat} (kk : QW V iL_law 440 [a0, a1, some (.ref x), a3, a4, a5, a6, a7, a8] (.ref x :: st) h z bc bs Kr Kx) : QW V iL_law 439 [a0, a1, some (.ref x), a3, a4, a5, a6, a7, a8] (st) h z bc bs Kr Kx := q_aload_n dL_law_439 rfl rfl kk
theorem dL_law_440 : decode (i_b iL_law) 440 = .ok (.aload_n 0, 1) := by decide +kernel
theorem wL_law_440 {x : Nat} (kk : QW V iL_law 441 [some (.ref x), a1, a2, a3, a4, a5, a6, a7, a8] (.ref x :: st) h z bc bs Kr Kx) : QW V iL_law 440 [some (.ref x), a1, a2, a3, a4, a5, a6, a7, a8] (st) h z bc bs Kr Kx := q_aload_n dL_law_440 rfl rfl kk
theorem dL_law_441 : decode (i_b iL_law) 441 = .ok (.iload 5, 2) := by decide +kernel
theorem wL_law_441 {x : Int32} (kk : QW V iL_law 443 [a0, a1, a2, a3, a4, some (.int x), a6, a7, a8] (.int x :: st) h z bc bs Kr Kx) : QW V iL_law 441 [a0, a1, a2, a3, a4, some (.int x), a6, a7, a8] (st) h z bc bs Kr Kx := q_iload dL_law_441 rfl kk
theorem dL_law_443 : decode (i_b iL_law) 443 = .ok (.iconst 1, 1) := by decide +kernel
theorem wL_law_443  (kk : QW V iL_law 444 [a0, a1, a2, a3, a4, a5, a6, a7, a8] (.int (1) :: st) h z bc bs Kr Kx) : QW V iL_law 443 [a0, a1, a2, a3, a4, a5, a6, a7, a8] (st) h z bc bs Kr Kx := q_iconst dL_law_443 (by decide) kk
theorem dL_law_444 : decode (i_b iL_law) 444 = .ok (.iadd, 1) := by decide +kernel
theorem wL_law_444 {x y : Int32} (kk : QW V iL_law 445 [a0, a1, a2, a3, a4, a5, a6, a7, a8] (.int (x + y) :: st) h z bc bs Kr Kx) : QW V iL_law 444 [a0, a1, a2, a3, a4, a5, a6, a7, a8] (.int y :: .int x :: st) h z bc bs Kr Kx := q_iadd dL_law_444 kk
theorem dL_law_445 : decode (i_b iL_law) 445 = .ok (.iaload, 1) := by decide +kernel
theorem wL_law_445 {j : Nat} {i : Int32} (hi : i = nI j) (hj : j < e_sL V) (hn : e_sL V < 2147483648) (kk : QW V iL_law 446 [a0, a1, a2, a3, a4, a5, a6, a7, a8] (.int (e_xs V j) :: st) h z bc bs Kr Kx) : QW V iL_law 445 [a0, a1, a2, a3, a4, a5, a6, a7, a8] (.int i :: .ref (e_sb V) :: st) h z bc bs Kr Kx := q_sld dL_law_445 hi hj hn kk
theorem dL_law_446 : decode (i_b iL_law) 446 = .ok (.aload_n 0, 1) := by decide +kernel
theorem wL_law_446 {x : Nat} (kk : QW V iL_law 447 [some (.ref x), a1, a2, a3, a4, a5, a6, a7, a8] (.ref x :: st) h z bc bs Kr Kx) : QW V iL_law 446 [some (.ref x), a1, a2, a3, a4, a5, a6, a7, a8] (st) h z bc bs Kr Kx := q_aload_n dL_law_446 rfl rfl kk
theorem dL_law_447 : decode (i_b iL_law) 447 = .ok (.iload 5, 2) := by decide +kernel
theorem wL_law_447 {x : Int32} (kk : QW V iL_law 449 [a0, a1, a2, a3, a4, some (.int x), a6, a7, a8] (.int x :: st) h z bc bs Kr Kx) : QW V iL_law 447 [a0, a1, a2, a3, a4, some (.int x), a6, a7, a8] (st) h z bc bs Kr Kx := q_iload dL_law_447 rfl kk
theorem dL_law_449 : decode (i_b iL_law) 449 = .ok (.iconst 2, 1) := by decide +kernel
theorem wL_law_449  (kk : QW V iL_law 450 [a0, a1, a2, a3, a4, a5, a6, a7, a8] (.int (2) :: st) h z bc bs Kr Kx) : QW V iL_law 449 [a0, a1, a2, a3, a4, a5, a6, a7, a8] (st) h z bc bs Kr Kx := q_iconst dL_law_449 (by decide) kk
theorem dL_law_450 : decode (i_b iL_law) 450 = .ok (.iadd, 1) := by decide +kernel
theorem wL_law_450 {x y : Int32} (kk : QW V iL_law 451 [a0, a1, a2, a3, a4, a5, a6, a7, a8] (.int (x + y) :: st) h z bc bs Kr Kx) : QW V iL_law 450 [a0, a1, a2, a3, a4, a5, a6, a7, a8] (.int y :: .int x :: st) h z bc bs Kr Kx := q_iadd dL_law_450 kk
theorem dL_law_451 : decode (i_b iL_law) 451 = .ok (.iaload, 1) := by decide +kernel
theorem wL_law_451 {j : Nat} {i : Int32} (hi : i = nI j) (hj : j < e_sL V) (hn : e_sL V < 2147483648) (kk : QW V iL_law 452 [a0, a1, a2, a3, a4, a5, a6, a7, a8] (.int (e_xs V j) :: st) h z bc bs Kr Kx) : QW V iL_law 451 [a0, a1, a2, a3, a4, a5, a6, a7, a8] (.int i :: .ref (e_sb V) :: st) h z bc bs Kr Kx := q_sld dL_law_451 hi hj hn kk
theorem dL_law_452 : decode (i_b iL_law) 452 = .ok (.aload_n 0, 1) := by decide +kernel
theorem wL_law_452 {x : Nat} (kk : QW V iL_law 453 [some (.ref x), a1, a2, a3, a4, a5, a6, a7, a8] (.ref x :: st) h z bc bs Kr Kx) : QW V iL_law 452 [some (.ref x), a1, a2, a3, a4, a5, a6, a7, a8] (st) h z bc bs Kr Kx := q_aload_n dL_law_452 rfl rfl kk
theorem dL_law_453 : decode (i_b iL_law) 453 = .ok (.iload 5, 2) := by decide +kernel
theorem wL_law_453 {x : Int32} (kk : QW V iL_law 455 [a0, a1, a2, a3, a4, some (.int x), a6, a7, a8] (.int x :: st) h z bc bs Kr Kx) : QW V iL_law 453 [a0, a1, a2, a3, a4, some (.int x), a6, a7, a8] (st) h z bc bs Kr Kx := q_iload dL_law_453 rfl kk
theorem dL_law_455 : decode (i_b iL_law) 455 = .ok (.iconst 3, 1) := by decide +kernel
theorem wL_law_455  (kk : QW V iL_law 456 [a0, a1, a2, a3, a4, a5, a6, a7, a8] (.int (3) :: st) h z bc bs Kr Kx) : QW V iL_law 455 [a0, a1, a2, a3, a4, a5, a6, a7, a8] (st) h z bc bs Kr Kx := q_iconst dL_law_455 (by decide) kk
theorem dL_law_456 : decode (i_b iL_law) 456 = .ok (.iadd, 1) := by decide +kernel
theorem wL_law_456 {x y : Int32} (kk : QW V iL_law 457 [a0, a1, a2, a3, a4, a5, a6, a7, a8] (.int (x + y) :: st) h z bc bs Kr Kx) : QW V iL_law 456 [a0, a1, a2, a3, a4, a5, a6, a7, a8] (.int y :: .int x :: st) h z bc bs Kr Kx := q_iadd dL_law_456 kk
theorem dL_law_457 : decode (i_b iL_law) 457 = .ok (.iaload, 1) := by decide +kernel
theorem wL_law_457 {j : Nat} {i : Int32} (hi : i = nI j) (hj : j < e_sL V) (hn : e_sL V < 2147483648) (kk : QW V iL_law 458 [a0, a1, a2, a3, a4, a5, a6, a7, a8] (.int (e_xs V j) :: st) h z bc bs Kr Kx) : QW V iL_law 457 [a0, a1, a2, a3, a4, a5, a6, a7, a8] (.int i :: .ref (e_sb V) :: st) h z bc bs Kr Kx := q_sld dL_law_457 hi hj hn kk
theorem dL_law_458 : decode (i_b iL_law) 458 = .ok (.aload_n 0, 1) := by decide +kernel
theorem wL_law_458 {x : Nat} (kk : QW V iL_law 459 [some (.ref x), a1, a2, a3, a4, a5, a6, a7, a8] (.ref x :: st) h z bc bs Kr Kx) : QW V iL_law 458 [some (.ref x), a1, a2, a3, a4, a5, a6, a7, a8] (st) h z bc bs Kr Kx := q_aload_n dL_law_458 rfl rfl kk
theorem dL_law_459 : decode (i_b iL_law) 459 = .ok (.iload 5, 2) := by decide +kernel
theorem wL_law_459 {x : Int32} (kk : QW V iL_law 461 [a0, a1, a2, a3, a4, some (.int x), a6, a7, a8] (.int x :: st) h z bc bs Kr Kx) : QW V iL_law 459 [a0, a1, a2, a3, a4, some (.int x), a6, a7, a8] (st) h z bc bs Kr Kx := q_iload dL_law_459 rfl kk
theorem dL_law_461 : decode (i_b iL_law) 461 = .ok (.iconst 4, 1) := by decide +kernel
theorem wL_law_461  (kk : QW V iL_law 462 [a0, a1, a2, a3, a4, a5, a6, a7, a8] (.int (4) :: st) h z bc bs Kr Kx) : QW V iL_law 461 [a0, a1, a2, a3, a4, a5, a6, a7, a8] (st) h z bc bs Kr Kx := q_iconst dL_law_461 (by decide) kk
theorem dL_law_462 : decode (i_b iL_law) 462 = .ok (.iadd, 1) := by decide +kernel
theorem wL_law_462 {x y : Int32} (kk : QW V iL_law 463 [a0, a1, a2, a3, a4, a5, a6, a7, a8] (.int (x + y) :: st) h z bc bs Kr Kx) : QW V iL_law 462 [a0, a1, a2, a3, a4, a5, a6, a7, a8] (.int y :: .int x :: st) h z bc bs Kr Kx := q_iadd dL_law_462 kk
theorem dL_law_463 : decode (i_b iL_law) 463 = .ok (.iaload, 1) := by decide +kernel
theorem wL_law_463 {j : Nat} {i : Int32} (hi : i = nI j) (hj : j < e_sL V) (hn : e_sL V < 2147483648) (kk : QW V iL_law 464 [a0, a1, a2, a3, a4, a5, a6, a7, a8] (.int (e_xs V j) :: st) h z bc bs Kr Kx) : QW V iL_law 463 [a0, a1, a2, a3, a4, a5, a6, a7, a8] (.int i :: .ref (e_sb V) :: st) h z bc bs Kr Kx := q_sld dL_law_463 hi hj hn kk
theorem dL_law_464 : decode (i_b iL_law) 464 = .ok (.aload_n 0, 1) := by decide +kernel
theorem wL_law_464 {x : Nat} (kk : QW V iL_law 465 [some (.ref x), a1, a2, a3, a4, a5, a6, a7, a8] (.ref x :: st) h z bc bs Kr Kx) : QW V iL_law 464 [some (.ref x), a1, a2, a3, a4, a5, a6, a7, a8] (st) h z bc bs Kr Kx := q_aload_n dL_law_464 rfl rfl kk
theorem dL_law_465 : decode (i_b iL_law) 465 = .ok (.iload 5, 2) := by decide +kernel
theorem wL_law_465 {x : Int32} (kk : QW V iL_law 467 [a0, a1, a2, a3, a4, some (.int x), a6, a7, a8] (.int x :: st) h z bc bs Kr Kx) : QW V iL_law 465 [a0, a1, a2, a3, a4, some (.int x), a6, a7, a8] (st) h z bc bs Kr Kx := q_iload dL_law_465 rfl kk
theorem dL_law_467 : decode (i_b iL_law) 467 = .ok (.iconst 5, 1) := by decide +kernel
theorem wL_law_467  (kk : QW V iL_law 468 [a0, a1, a2, a3, a4, a5, a6, a7, a8] (.int (5) :: st) h z bc bs Kr Kx) : QW V iL_law 467 [a0, a1, a2, a3, a4, a5, a6, a7, a8] (st) h z bc bs Kr Kx := q_iconst dL_law_467 (by decide) kk
theorem dL_law_468 : decode (i_b iL_law) 468 = .ok (.iadd, 1) := by decide +kernel
theorem wL_law_468 {x y : Int32} (kk : QW V iL_law 469 [a0, a1, a2, a3, a4, a5, a6, a7, a8] (.int (x + y) :: st) h z bc bs Kr Kx) : QW V iL_law 468 [a0, a1, a2, a3, a4, a5, a6, a7, a8] (.int y :: .int x :: st) h z bc bs Kr Kx := q_iadd dL_law_468 kk
theorem dL_law_469 : decode (i_b iL_law) 469 = .ok (.iaload, 1) := by decide +kernel
theorem wL_law_469 {j : Nat} {i : Int32} (hi : i = nI j) (hj : j < e_sL V) (hn : e_sL V < 2147483648) (kk : QW V iL_law 470 [a0, a1, a2, a3, a4, a5, a6, a7, a8] (.int (e_xs V j) :: st) h z bc bs Kr Kx) : QW V iL_law 469 [a0, a1, a2, a3, a4, a5, a6, a7, a8] (.int i :: .ref (e_sb V) :: st) h z bc bs Kr Kx := q_sld dL_law_469 hi hj hn kk
theorem dL_law_470 : decode (i_b iL_law) 470 = .ok (.invokevirtual 167, 3) := by decide +kernel
theorem wL_law_470 {a : Nat} {fs : List Value} {x0 : Int32} {x1 : Int32} {x2 : Int32} {x3 : Int32} {x4 : Int32} (hb : h a = some (.inr (10, fs))) (hm : QMi V iX9_makeOffer [.ref a, .int x0, .int x1, .int x2, .int x3, .int x4] h z (fun r h' z' => QW V iL_law 473 [a0, a1, a2, a3, a4, a5, a6, a7, a8] (.int r :: st) h' z' bc bs Kr Kx) Kx) (hW : (st.map fun v => v.category).sum ≤ 8 := by exact Nat.le_of_ble_eq_true rfl) : QW V iL_law 470 [a0, a1, a2, a3, a4, a5, a6, a7, a8] (.int x4 :: .int x3 :: .int x2 :: .int x1 :: .int x0 :: .ref a :: st) h z bc bs Kr Kx := q_callV (y' := iX9_makeOffer) (As := [.int x0, .int x1, .int x2, .int x3, .int x4]) (rest := st) dL_law_470 k6_192 k6_193 k6_194 k1_10 hhX9_makeOffer rfl hdX9_makeOffer rfl rfl (Nat.le_of_ble_eq_true rfl) (Nat.le_of_ble_eq_true rfl) hW rfl hb (QMi.run hm)
theorem dL_law_473 : decode (i_b iL_law) 473 = .ok (.istore 7, 2) := by decide +kernel
theorem wL_law_473 {x : Int32} (kk : QW V iL_law 475 [a0, a1, a2, a3, a4, a5, a6, some (.int x), a8] (st) h z bc bs Kr Kx) (hp : q_n2 a6 = true := by rfl) : QW V iL_law 473 [a0, a1, a2, a3, a4, a5, a6, a7, a8] (.int x :: st) h z bc bs Kr Kx := q_istore dL_law_473 (Nat.le_of_ble_eq_true rfl) hp kk
theorem dL_law_475 : decode (i_b iL_law) 475 = .ok (.aload_n 2, 1) := by decide +kernel
theorem wL_law_475 {x : Nat} (kk : QW V iL_law 476 [a0, a1, some (.ref x), a3, a4, a5, a6, a7, a8] (.ref x :: st) h z bc bs Kr Kx) : QW V iL_law 475 [a0, a1, some (.ref x), a3, a4, a5, a6, a7, a8] (st) h z bc bs Kr Kx := q_aload_n dL_law_475 rfl rfl kk
theorem dL_law_476 : decode (i_b iL_law) 476 = .ok (.invokevirtual 150, 3) := by decide +kernel
theorem wL_law_476 {a : Nat} {fs : List Value}  (hb : h a = some (.inr (10, fs))) (hm : QMi V iX9_thrown [.ref a] h z (fun r h' z' => QW V iL_law 479 [a0, a1, a2, a3, a4, a5, a6, a7, a8] (.int r :: st) h' z' bc bs Kr Kx) Kx) (hW : (st.map fun v => v.category).sum ≤ 8 := by exact Nat.le_of_ble_eq_true rfl) : QW V iL_law 476 [a0, a1, a2, a3, a4, a5, a6, a7, a8] (.ref a :: st) h z bc bs Kr Kx := q_callV (y' := iX9_thrown) (As := []) (rest := st) dL_law_476 k6_80 k6_81 k6_82 k1_10 hhX9_thrown rfl hdX9_thrown rfl rfl (Nat.le_of_ble_eq_true rfl) (Nat.le_of_ble_eq_true rfl) hW rfl hb (QMi.run hm)
theorem dL_law_479 : decode (i_b iL_law) 479 = .ok (.iload 6, 2) := by decide +kernel
theorem wL_law_479 {x : Int32} (kk : QW V iL_law 481 [a0, a1, a2, a3, a4, a5, some (.int x), a7, a8] (.int x :: st) h z bc bs Kr Kx) : QW V iL_law 479 [a0, a1, a2, a3, a4, a5, some (.int x), a7, a8] (st) h z bc bs Kr Kx := q_iload dL_law_479 rfl kk
theorem dL_law_481 : decode (i_b iL_law) 481 = .ok (.if_icmp .eq 5, 3) := by decide +kernel
theorem wL_law_481 {x y : Int32} (kt : x = y → QW V iL_law 486 [a0, a1, a2, a3, a4, a5, a6, a7, a8] (st) h z bc bs Kr Kx) (kf : ¬ x = y → QW V iL_law 484 [a0, a1, a2, a3, a4, a5, a6, a7, a8] (st) h z bc bs Kr Kx) : QW V iL_law 481 [a0, a1, a2, a3, a4, a5, a6, a7, a8] (.int y :: .int x :: st) h z bc bs Kr Kx := q_icmp_eq dL_law_481 (by decide) kt kf
theorem dL_law_484 : decode (i_b iL_law) 484 = .ok (.iconst 0, 1) := by decide +kernel
theorem wL_law_484  (kk : QW V iL_law 485 [a0, a1, a2, a3, a4, a5, a6, a7, a8] (.int (0) :: st) h z bc bs Kr Kx) : QW V iL_law 484 [a0, a1, a2, a3, a4, a5, a6, a7, a8] (st) h z bc bs Kr Kx := q_iconst dL_law_484 (by decide) kk
theorem dL_law_485 : decode (i_b iL_law) 485 = .ok (.ireturn, 1) := by decide +kernel
theorem wL_law_485 {x : Int32} {P : Int32 → q_H → Option Nat → Prop} (hk : P x h z) (hn : narrow .boolean (.int x) = .int x := by first | rfl | exact q_b_n _) : QW V iL_law 485 [a0, a1, a2, a3, a4, a5, a6, a7, a8] [.int x] h z bc bs (q_Ki P) Kx := q_iret dL_law_485 rfl hn ⟨x, rfl, hk⟩
theorem dL_law_486 : decode (i_b iL_law) 486 = .ok (.iload 6, 2) := by decide +kernel
theorem wL_law_486 {x : Int32} (kk : QW V iL_law 488 [a0, a1, a2, a3, a4, a5, some (.int x), a7, a8] (.int x :: st) h z bc bs Kr Kx) : QW V iL_law 486 [a0, a1, a2, a3, a4, a5, some (.int x), a7, a8] (st) h z bc bs Kr Kx := q_iload dL_law_486 rfl kk
theorem dL_law_488 : decode (i_b iL_law) 488 = .ok (.ifCond .ne 15, 3) := by decide +kernel
theorem wL_law_488 {x : Int32} (kt : ¬ x = 0 → QW V iL_law 503 [a0, a1, a2, a3, a4, a5, a6, a7, a8] (st) h z bc bs Kr Kx) (kf : x = 0 → QW V iL_law 491 [a0, a1, a2, a3, a4, a5, a6, a7, a8] (st) h z bc bs Kr Kx) : QW V iL_law 488 [a0, a1, a2, a3, a4, a5, a6, a7, a8] (.int x :: st) h z bc bs Kr Kx := q_if_ne dL_law_488 (by decide) kt kf
theorem dL_law_491 : decode (i_b iL_law) 491 = .ok (.aload_n 3, 1) := by decide +kernel
theorem wL_law_491 {x : Nat} (kk : QW V iL_law 492 [a0, a1, a2, some (.ref x), a4, a5, a6, a7, a8] (.ref x :: st) h z bc bs Kr Kx) : QW V iL_law 491 [a0, a1, a2, some (.ref x), a4, a5, a6, a7, a8] (st) h z bc bs Kr Kx := q_aload_n dL_law_491 rfl rfl kk
theorem dL_law_492 : decode (i_b iL_law) 492 = .ok (.iconst 0, 1) := by decide +kernel
theorem wL_law_492  (kk : QW V iL_law 493 [a0, a1, a2, a3, a4, a5, a6, a7, a8] (.int (0) :: st) h z bc bs Kr Kx) : QW V iL_law 492 [a0, a1, a2, a3, a4, a5, a6, a7, a8] (st) h z bc bs Kr Kx := q_iconst dL_law_492 (by decide) kk
theorem dL_law_493 : decode (i_b iL_law) 493 = .ok (.laload, 1) := by decide +kernel
theorem wL_law_493 {a n j : Nat} {f : Nat → Int64} {i : Int32} (ha : h a = some (.inl (2, n, .inr (.inl f)))) (hi : i = nI j) (hj : j < n) (hn : n < 2147483648) (kk : QW V iL_law 494 [a0, a1, a2, a3, a4, a5, a6, a7, a8] (.long (f j) :: st) h z bc bs Kr Kx) : QW V iL_law 493 [a0, a1, a2, a3, a4, a5, a6, a7, a8] (.int i :: .ref a :: st) h z bc bs Kr Kx := q_lald dL_law_493 ha hi hj hn kk
theorem dL_law_494 : decode (i_b iL_law) 494 = .ok (.iload 7, 2) := by decide +kernel
theorem wL_law_494 {x : Int32} (kk : QW V iL_law 496 [a0, a1, a2, a3, a4, a5, a6, some (.int x), a8] (.int x :: st) h z bc bs Kr Kx) : QW V iL_law 494 [a0, a1, a2, a3, a4, a5, a6, some (.int x), a8] (st) h z bc bs Kr Kx := q_iload dL_law_494 rfl kk
theorem dL_law_496 : decode (i_b iL_law) 496 = .ok (.i2l, 1) := by decide +kernel
theorem wL_law_496 {x : Int32} (kk : QW V iL_law 497 [a0, a1, a2, a3, a4, a5, a6, a7, a8] (.long (x.toInt64) :: st) h z bc bs Kr Kx) : QW V iL_law 496 [a0, a1, a2, a3, a4, a5, a6, a7, a8] (.int x :: st) h z bc bs Kr Kx := q_i2l dL_law_496 kk
theorem dL_law_497 : decode (i_b iL_law) 497 = .ok (.lcmp, 1) := by decide +kernel
theorem dL_law_498 : decode (i_b iL_law) 498 = .ok (.ifCond .eq 5, 3) := by decide +kernel
theorem wL_law_497 {x y : Int64} (kt : x = y → QW V iL_law 503 [a0, a1, a2, a3, a4, a5, a6, a7, a8] (st) h z bc bs Kr Kx) (kf : ¬ x = y → QW V iL_law 501 [a0, a1, a2, a3, a4, a5, a6, a7, a8] (st) h z bc bs Kr Kx) : QW V iL_law 497 [a0, a1, a2, a3, a4, a5, a6, a7, a8] (.long y :: .long x :: st) h z bc bs Kr Kx := q_lcmp dL_law_497 (q_if_eq dL_law_498 (by decide) (fun q => kt ((q_lc_eq x y).mp q)) (fun q => kf (q_lcn_eq q)))
theorem dL_law_501 : decode (i_b iL_law) 501 = .ok (.iconst 0, 1) := by decide +kernel
theorem wL_law_501  (kk : QW V iL_law 502 [a0, a1, a2, a3, a4, a5, a6, a7, a8] (.int (0) :: st) h z bc bs Kr Kx) : QW V iL_law 501 [a0, a1, a2, a3, a4, a5, a6, a7, a8] (st) h z bc bs Kr Kx := q_iconst dL_law_501 (by decide) kk
theorem dL_law_502 : decode (i_b iL_law) 502 = .ok (.ireturn, 1) := by decide +kernel
theorem wL_law_502 {x : Int32} {P : Int32 → q_H → Option Nat → Prop} (hk : P x h z) (hn : narrow .boolean (.int x) = .int x := by first | rfl | exact q_b_n _) : QW V iL_law 502 [a0, a1, a2, a3, a4, a5, a6, a7, a8] [.int x] h z bc bs (q_Ki P) Kx := q_iret dL_law_502 rfl hn ⟨x, rfl, hk⟩
theorem dL_law_503 : decode (i_b iL_law) 503 = .ok (.goto 2248, 3) := by decide +kernel
theorem wL_law_503  (kk : QW V iL_law 2751 [a0, a1, a2, a3, a4, a5, a6, a7, a8] (st) h z bc bs Kr Kx) : QW V iL_law 503 [a0, a1, a2, a3, a4, a5, a6, a7, a8] (st) h z bc bs Kr Kx := q_goto dL_law_503 (by decide) kk
theorem dL_law_506 : decode (i_b iL_law) 506 = .ok (.aload_n 1, 1) := by decide +kernel
theorem wL_law_506 {x : Nat} (kk : QW V iL_law 507 [a0, some (.ref x), a2, a3, a4, a5, a6, a7, a8] (.ref x :: st) h z bc bs Kr Kx) : QW V iL_law 506 [a0, some (.ref x), a2, a3, a4, a5, a6, a7, a8] (st) h z bc bs Kr Kx := q_aload_n dL_law_506 rfl rfl kk
theorem dL_law_507 : decode (i_b iL_law) 507 = .ok (.aload_n 0, 1) := by decide +kernel
theorem wL_law_507 {x : Nat} (kk : QW V iL_law 508 [some (.ref x), a1, a2, a3, a4, a5, a6, a7, a8] (.ref x :: st) h z bc bs Kr Kx) : QW V iL_law 507 [some (.ref x), a1, a2, a3, a4, a5, a6, a7, a8] (st) h z bc bs Kr Kx := q_aload_n dL_law_507 rfl rfl kk
theorem dL_law_508 : decode (i_b iL_law) 508 = .ok (.iload 5, 2) := by decide +kernel
theorem wL_law_508 {x : Int32} (kk : QW V iL_law 510 [a0, a1, a2, a3, a4, some (.int x), a6, a7, a8] (.int x :: st) h z bc bs Kr Kx) : QW V iL_law 508 [a0, a1, a2, a3, a4, some (.int x), a6, a7, a8] (st) h z bc bs Kr Kx := q_iload dL_law_508 rfl kk
theorem dL_law_510 : decode (i_b iL_law) 510 = .ok (.iconst 1, 1) := by decide +kernel
theorem wL_law_510  (kk : QW V iL_law 511 [a0, a1, a2, a3, a4, a5, a6, a7, a8] (.int (1) :: st) h z bc bs Kr Kx) : QW V iL_law 510 [a0, a1, a2, a3, a4, a5, a6, a7, a8] (st) h z bc bs Kr Kx := q_iconst dL_law_510 (by decide) kk
theorem dL_law_511 : decode (i_b iL_law) 511 = .ok (.iadd, 1) := by decide +kernel
theorem wL_law_511 {x y : Int32} (kk : QW V iL_law 512 [a0, a1, a2, a3, a4, a5, a6, a7, a8] (.int (x + y) :: st) h z bc bs Kr Kx) : QW V iL_law 511 [a0, a1, a2, a3, a4, a5, a6, a7, a8] (.int y :: .int x :: st) h z bc bs Kr Kx := q_iadd dL_law_511 kk
theorem dL_law_512 : decode (i_b iL_law) 512 = .ok (.iaload, 1) := by decide +kernel
theorem wL_law_512 {j : Nat} {i : Int32} (hi : i = nI j) (hj : j < e_sL V) (hn : e_sL V < 2147483648) (kk : QW V iL_law 513 [a0, a1, a2, a3, a4, a5, a6, a7, a8] (.int (e_xs V j) :: st) h z bc bs Kr Kx) : QW V iL_law 512 [a0, a1, a2, a3, a4, a5, a6, a7, a8] (.int i :: .ref (e_sb V) :: st) h z bc bs Kr Kx := q_sld dL_law_512 hi hj hn kk
theorem dL_law_513 : decode (i_b iL_law) 513 = .ok (.aload_n 0, 1) := by decide +kernel
theorem wL_law_513 {x : Nat} (kk : QW V iL_law 514 [some (.ref x), a1, a2, a3, a4, a5, a6, a7, a8] (.ref x :: st) h z bc bs Kr Kx) : QW V iL_law 513 [some (.ref x), a1, a2, a3, a4, a5, a6, a7, a8] (st) h z bc bs Kr Kx := q_aload_n dL_law_513 rfl rfl kk
theorem dL_law_514 : decode (i_b iL_law) 514 = .ok (.iload 5, 2) := by decide +kernel
theorem wL_law_514 {x : Int32} (kk : QW V iL_law 516 [a0, a1, a2, a3, a4, some (.int x), a6, a7, a8] (.int x :: st) h z bc bs Kr Kx) : QW V iL_law 514 [a0, a1, a2, a3, a4, some (.int x), a6, a7, a8] (st) h z bc bs Kr Kx := q_iload dL_law_514 rfl kk
theorem dL_law_516 : decode (i_b iL_law) 516 = .ok (.iconst 2, 1) := by decide +kernel
theorem wL_law_516  (kk : QW V iL_law 517 [a0, a1, a2, a3, a4, a5, a6, a7, a8] (.int (2) :: st) h z bc bs Kr Kx) : QW V iL_law 516 [a0, a1, a2, a3, a4, a5, a6, a7, a8] (st) h z bc bs Kr Kx := q_iconst dL_law_516 (by decide) kk
theorem dL_law_517 : decode (i_b iL_law) 517 = .ok (.iadd, 1) := by decide +kernel
theorem wL_law_517 {x y : Int32} (kk : QW V iL_law 518 [a0, a1, a2, a3, a4, a5, a6, a7, a8] (.int (x + y) :: st) h z bc bs Kr Kx) : QW V iL_law 517 [a0, a1, a2, a3, a4, a5, a6, a7, a8] (.int y :: .int x :: st) h z bc bs Kr Kx := q_iadd dL_law_517 kk
theorem dL_law_518 : decode (i_b iL_law) 518 = .ok (.iaload, 1) := by decide +kernel
theorem wL_law_518 {j : Nat} {i : Int32} (hi : i = nI j) (hj : j < e_sL V) (hn : e_sL V < 2147483648) (kk : QW V iL_law 519 [a0, a1, a2, a3, a4, a5, a6, a7, a8] (.int (e_xs V j) :: st) h z bc bs Kr Kx) : QW V iL_law 518 [a0, a1, a2, a3, a4, a5, a6, a7, a8] (.int i :: .ref (e_sb V) :: st) h z bc bs Kr Kx := q_sld dL_law_518 hi hj hn kk
theorem dL_law_519 : decode (i_b iL_law) 519 = .ok (.aload_n 0, 1) := by decide +kernel
theorem wL_law_519 {x : Nat} (kk : QW V iL_law 520 [some (.ref x), a1, a2, a3, a4, a5, a6, a7, a8] (.ref x :: st) h z bc bs Kr Kx) : QW V iL_law 519 [some (.ref x), a1, a2, a3, a4, a5, a6, a7, a8] (st) h z bc bs Kr Kx := q_aload_n dL_law_519 rfl rfl kk
theorem dL_law_520 : decode (i_b iL_law) 520 = .ok (.iload 5, 2) := by decide +kernel
theorem wL_law_520 {x : Int32} (kk : QW V iL_law 522 [a0, a1, a2, a3, a4, some (.int x), a6, a7, a8] (.int x :: st) h z bc bs Kr Kx) : QW V iL_law 520 [a0, a1, a2, a3, a4, some (.int x), a6, a7, a8] (st) h z bc bs Kr Kx := q_iload dL_law_520 rfl kk
theorem dL_law_522 : decode (i_b iL_law) 522 = .ok (.iconst 3, 1) := by decide +kernel
theorem wL_law_522  (kk : QW V iL_law 523 [a0, a1, a2, a3, a4, a5, a6, a7, a8] (.int (3) :: st) h z bc bs Kr Kx) : QW V iL_law 522 [a0, a1, a2, a3, a4, a5, a6, a7, a8] (st) h z bc bs Kr Kx := q_iconst dL_law_522 (by decide) kk
theorem dL_law_523 : decode (i_b iL_law) 523 = .ok (.iadd, 1) := by decide +kernel
theorem wL_law_523 {x y : Int32} (kk : QW V iL_law 524 [a0, a1, a2, a3, a4, a5, a6, a7, a8] (.int (x + y) :: st) h z bc bs Kr Kx) : QW V iL_law 523 [a0, a1, a2, a3, a4, a5, a6, a7, a8] (.int y :: .int x :: st) h z bc bs Kr Kx := q_iadd dL_law_523 kk
theorem dL_law_524 : decode (i_b iL_law) 524 = .ok (.iaload, 1) := by decide +kernel
theorem wL_law_524 {j : Nat} {i : Int32} (hi : i = nI j) (hj : j < e_sL V) (hn : e_sL V < 2147483648) (kk : QW V iL_law 525 [a0, a1, a2, a3, a4, a5, a6, a7, a8] (.int (e_xs V j) :: st) h z bc bs Kr Kx) : QW V iL_law 524 [a0, a1, a2, a3, a4, a5, a6, a7, a8] (.int i :: .ref (e_sb V) :: st) h z bc bs Kr Kx := q_sld dL_law_524 hi hj hn kk
theorem dL_law_525 : decode (i_b iL_law) 525 = .ok (.aload_n 3, 1) := by decide +kernel
theorem wL_law_525 {x : Nat} (kk : QW V iL_law 526 [a0, a1, a2, some (.ref x), a4, a5, a6, a7, a8] (.ref x :: st) h z bc bs Kr Kx) : QW V iL_law 525 [a0, a1, a2, some (.ref x), a4, a5, a6, a7, a8] (st) h z bc bs Kr Kx := q_aload_n dL_law_525 rfl rfl kk
theorem dL_law_526 : decode (i_b iL_law) 526 = .ok (.invokestatic 168, 3) := by decide +kernel
theorem wL_law_526 {x0 : Nat} {x1 : Int32} {x2 : Int32} {x3 : Int32} {x4 : Nat} (hm : QMi V iL_sign [.ref x0, .int x1, .int x2, .int x3, .ref x4] h z (fun r h' z' => QW V iL_law 529 [a0, a1, a2, a3, a4, a5, a6, a7, a8] (.int r :: st) h' z' bc bs Kr Kx) Kx) (hW : (st.map fun v => v.category).sum ≤ 8 := by exact Nat.le_of_ble_eq_true rfl) : QW V iL_law 526 [a0, a1, a2, a3, a4, a5, a6, a7, a8] (.ref x4 :: .int x3 :: .int x2 :: .int x1 :: .ref x0 :: st) h z (bc + 4) (bs + 24) Kr Kx := q_callSX (y' := iL_sign) (As := [.ref x0, .int x1, .int x2, .int x3, .ref x4]) (rest := st) dL_law_526 k3_166 k3_167 k1_0 hhL_sign (by decide) hdL_sign rfl (Nat.le_of_ble_eq_true rfl) (Nat.le_of_ble_eq_true rfl) hW rfl (QMi.run hm)
theorem dL_law_529 : decode (i_b iL_law) 529 = .ok (.istore 6, 2) := by decide +kernel
theorem wL_law_529 {x : Int32} (kk : QW V iL_law 531 [a0, a1, a2, a3, a4, a5, some (.int x), a7, a8] (st) h z bc bs Kr Kx) (hp : q_n2 a5 = true := by rfl) : QW V iL_law 529 [a0, a1, a2, a3, a4, a5, a6, a7, a8] (.int x :: st) h z bc bs Kr Kx := q_istore dL_law_529 (Nat.le_of_ble_eq_true rfl) hp kk
theorem dL_law_531 : decode (i_b iL_law) 531 = .ok (.aload_n 2, 1) := by decide +kernel
theorem wL_law_531 {x : Nat} (kk : QW V iL_law 532 [a0, a1, some (.ref x), a3, a4, a5, a6, a7, a8] (.ref x :: st) h z bc bs Kr Kx) : QW V iL_law 531 [a0, a1, some (.ref x), a3, a4, a5, a6, a7, a8] (st) h z bc bs Kr Kx := q_aload_n dL_law_531 rfl rfl kk
theorem dL_law_532 : decode (i_b iL_law) 532 = .ok (.aload_n 0, 1) := by decide +kernel
theorem wL_law_532 {x : Nat} (kk : QW V iL_law 533 [some (.ref x), a1, a2, a3, a4, a5, a6, a7, a8] (.ref x :: st) h z bc bs Kr Kx) : QW V iL_law 532 [some (.ref x), a1, a2, a3, a4, a5, a6, a7, a8] (st) h z bc bs Kr Kx := q_aload_n dL_law_532 rfl rfl kk
theorem dL_law_533 : decode (i_b iL_law) 533 = .ok (.iload 5, 2) := by decide +kernel
theorem wL_law_533 {x : Int32} (kk : QW V iL_law 535 [a0, a1, a2, a3, a4, some (.int x), a6, a7, a8] (.int x :: st) h z bc bs Kr Kx) : QW V iL_law 533 [a0, a1, a2, a3, a4, some (.int x), a6, a7, a8] (st) h z bc bs Kr Kx := q_iload dL_law_533 rfl kk
theorem dL_law_535 : decode (i_b iL_law) 535 = .ok (.iconst 1, 1) := by decide +kernel
theorem wL_law_535  (kk : QW V iL_law 536 [a0, a1, a2, a3, a4, a5, a6, a7, a8] (.int (1) :: st) h z bc bs Kr Kx) : QW V iL_law 535 [a0, a1, a2, a3, a4, a5, a6, a7, a8] (st) h z bc bs Kr Kx := q_iconst dL_law_535 (by decide) kk
theorem dL_law_536 : decode (i_b iL_law) 536 = .ok (.iadd, 1) := by decide +kernel
theorem wL_law_536 {x y : Int32} (kk : QW V iL_law 537 [a0, a1, a2, a3, a4, a5, a6, a7, a8] (.int (x + y) :: st) h z bc bs Kr Kx) : QW V iL_law 536 [a0, a1, a2, a3, a4, a5, a6, a7, a8] (.int y :: .int x :: st) h z bc bs Kr Kx := q_iadd dL_law_536 kk
theorem dL_law_537 : decode (i_b iL_law) 537 = .ok (.iaload, 1) := by decide +kernel
theorem wL_law_537 {j : Nat} {i : Int32} (hi : i = nI j) (hj : j < e_sL V) (hn : e_sL V < 2147483648) (kk : QW V iL_law 538 [a0, a1, a2, a3, a4, a5, a6, a7, a8] (.int (e_xs V j) :: st) h z bc bs Kr Kx) : QW V iL_law 537 [a0, a1, a2, a3, a4, a5, a6, a7, a8] (.int i :: .ref (e_sb V) :: st) h z bc bs Kr Kx := q_sld dL_law_537 hi hj hn kk
theorem dL_law_538 : decode (i_b iL_law) 538 = .ok (.aload_n 0, 1) := by decide +kernel
theorem wL_law_538 {x : Nat} (kk : QW V iL_law 539 [some (.ref x), a1, a2, a3, a4, a5, a6, a7, a8] (.ref x :: st) h z bc bs Kr Kx) : QW V iL_law 538 [some (.ref x), a1, a2, a3, a4, a5, a6, a7, a8] (st) h z bc bs Kr Kx := q_aload_n dL_law_538 rfl rfl kk
theorem dL_law_539 : decode (i_b iL_law) 539 = .ok (.iload 5, 2) := by decide +kernel
theorem wL_law_539 {x : Int32} (kk : QW V iL_law 541 [a0, a1, a2, a3, a4, some (.int x), a6, a7, a8] (.int x :: st) h z bc bs Kr Kx) : QW V iL_law 539 [a0, a1, a2, a3, a4, some (.int x), a6, a7, a8] (st) h z bc bs Kr Kx := q_iload dL_law_539 rfl kk
theorem dL_law_541 : decode (i_b iL_law) 541 = .ok (.iconst 2, 1) := by decide +kernel
theorem wL_law_541  (kk : QW V iL_law 542 [a0, a1, a2, a3, a4, a5, a6, a7, a8] (.int (2) :: st) h z bc bs Kr Kx) : QW V iL_law 541 [a0, a1, a2, a3, a4, a5, a6, a7, a8] (st) h z bc bs Kr Kx := q_iconst dL_law_541 (by decide) kk
theorem dL_law_542 : decode (i_b iL_law) 542 = .ok (.iadd, 1) := by decide +kernel
theorem wL_law_542 {x y : Int32} (kk : QW V iL_law 543 [a0, a1, a2, a3, a4, a5, a6, a7, a8] (.int (x + y) :: st) h z bc bs Kr Kx) : QW V iL_law 542 [a0, a1, a2, a3, a4, a5, a6, a7, a8] (.int y :: .int x :: st) h z bc bs Kr Kx := q_iadd dL_law_542 kk
theorem dL_law_543 : decode (i_b iL_law) 543 = .ok (.iaload, 1) := by decide +kernel
theorem wL_law_543 {j : Nat} {i : Int32} (hi : i = nI j) (hj : j < e_sL V) (hn : e_sL V < 2147483648) (kk : QW V iL_law 544 [a0, a1, a2, a3, a4, a5, a6, a7, a8] (.int (e_xs V j) :: st) h z bc bs Kr Kx) : QW V iL_law 543 [a0, a1, a2, a3, a4, a5, a6, a7, a8] (.int i :: .ref (e_sb V) :: st) h z bc bs Kr Kx := q_sld dL_law_543 hi hj hn kk
theorem dL_law_544 : decode (i_b iL_law) 544 = .ok (.aload_n 0, 1) := by decide +kernel
theorem wL_law_544 {x : Nat} (kk : QW V iL_law 545 [some (.ref x), a1, a2, a3, a4, a5, a6, a7, a8] (.ref x :: st) h z bc bs Kr Kx) : QW V iL_law 544 [some (.ref x), a1, a2, a3, a4, a5, a6, a7, a8] (st) h z bc bs Kr Kx := q_aload_n dL_law_544 rfl rfl kk
theorem dL_law_545 : decode (i_b iL_law) 545 = .ok (.iload 5, 2) := by decide +kernel
theorem wL_law_545 {x : Int32} (kk : QW V iL_law 547 [a0, a1, a2, a3, a4, some (.int x), a6, a7, a8] (.int x :: st) h z bc bs Kr Kx) : QW V iL_law 545 [a0, a1, a2, a3, a4, some (.int x), a6, a7, a8] (st) h z bc bs Kr Kx := q_iload dL_law_545 rfl kk
theorem dL_law_547 : decode (i_b iL_law) 547 = .ok (.iconst 3, 1) := by decide +kernel
theorem wL_law_547  (kk : QW V iL_law 548 [a0, a1, a2, a3, a4, a5, a6, a7, a8] (.int (3) :: st) h z bc bs Kr Kx) : QW V iL_law 547 [a0, a1, a2, a3, a4, a5, a6, a7, a8] (st) h z bc bs Kr Kx := q_iconst dL_law_547 (by decide) kk
theorem dL_law_548 : decode (i_b iL_law) 548 = .ok (.iadd, 1) := by decide +kernel
theorem wL_law_548 {x y : Int32} (kk : QW V iL_law 549 [a0, a1, a2, a3, a4, a5, a6, a7, a8] (.int (x + y) :: st) h z bc bs Kr Kx) : QW V iL_law 548 [a0, a1, a2, a3, a4, a5, a6, a7, a8] (.int y :: .int x :: st) h z bc bs Kr Kx := q_iadd dL_law_548 kk
theorem dL_law_549 : decode (i_b iL_law) 549 = .ok (.iaload, 1) := by decide +kernel
theorem wL_law_549 {j : Nat} {i : Int32} (hi : i = nI j) (hj : j < e_sL V) (hn : e_sL V < 2147483648) (kk : QW V iL_law 550 [a0, a1, a2, a3, a4, a5, a6, a7, a8] (.int (e_xs V j) :: st) h z bc bs Kr Kx) : QW V iL_law 549 [a0, a1, a2, a3, a4, a5, a6, a7, a8] (.int i :: .ref (e_sb V) :: st) h z bc bs Kr Kx := q_sld dL_law_549 hi hj hn kk
theorem dL_law_550 : decode (i_b iL_law) 550 = .ok (.invokevirtual 171, 3) := by decide +kernel
theorem wL_law_550 {a : Nat} {fs : List Value} {x0 : Int32} {x1 : Int32} {x2 : Int32} (hb : h a = some (.inr (10, fs))) (hm : QMi V iX9_sign [.ref a, .int x0, .int x1, .int x2] h z (fun r h' z' => QW V iL_law 553 [a0, a1, a2, a3, a4, a5, a6, a7, a8] (.int r :: st) h' z' bc bs Kr Kx) Kx) (hW : (st.map fun v => v.category).sum ≤ 8 := by exact Nat.le_of_ble_eq_true rfl) : QW V iL_law 550 [a0, a1, a2, a3, a4, a5, a6, a7, a8] (.int x2 :: .int x1 :: .int x0 :: .ref a :: st) h z bc bs Kr Kx := q_callV (y' := iX9_sign) (As := [.int x0, .int x1, .int x2]) (rest := st) dL_law_550 k6_218 k6_219 k6_220 k1_10 hhX9_sign rfl hdX9_sign rfl rfl (Nat.le_of_ble_eq_true rfl) (Nat.le_of_ble_eq_true rfl) hW rfl hb (QMi.run hm)
theorem dL_law_553 : decode (i_b iL_law) 553 = .ok (.istore 7, 2) := by decide +kernel
theorem wL_law_553 {x : Int32} (kk : QW V iL_law 555 [a0, a1, a2, a3, a4, a5, a6, some (.int x), a8] (st) h z bc bs Kr Kx) (hp : q_n2 a6 = true := by rfl) : QW V iL_law 553 [a0, a1, a2, a3, a4, a5, a6, a7, a8] (.int x :: st) h z bc bs Kr Kx := q_istore dL_law_553 (Nat.le_of_ble_eq_true rfl) hp kk
theorem dL_law_555 : decode (i_b iL_law) 555 = .ok (.aload_n 2, 1) := by decide +kernel
theorem wL_law_555 {x : Nat} (kk : QW V iL_law 556 [a0, a1, some (.ref x), a3, a4, a5, a6, a7, a8] (.ref x :: st) h z bc bs Kr Kx) : QW V iL_law 555 [a0, a1, some (.ref x), a3, a4, a5, a6, a7, a8] (st) h z bc bs Kr Kx := q_aload_n dL_law_555 rfl rfl kk
theorem dL_law_556 : decode (i_b iL_law) 556 = .ok (.invokevirtual 150, 3) := by decide +kernel
theorem wL_law_556 {a : Nat} {fs : List Value}  (hb : h a = some (.inr (10, fs))) (hm : QMi V iX9_thrown [.ref a] h z (fun r h' z' => QW V iL_law 559 [a0, a1, a2, a3, a4, a5, a6, a7, a8] (.int r :: st) h' z' bc bs Kr Kx) Kx) (hW : (st.map fun v => v.category).sum ≤ 8 := by exact Nat.le_of_ble_eq_true rfl) : QW V iL_law 556 [a0, a1, a2, a3, a4, a5, a6, a7, a8] (.ref a :: st) h z bc bs Kr Kx := q_callV (y' := iX9_thrown) (As := []) (rest := st) dL_law_556 k6_80 k6_81 k6_82 k1_10 hhX9_thrown rfl hdX9_thrown rfl rfl (Nat.le_of_ble_eq_true rfl) (Nat.le_of_ble_eq_true rfl) hW rfl hb (QMi.run hm)
theorem dL_law_559 : decode (i_b iL_law) 559 = .ok (.iload 6, 2) := by decide +kernel
theorem wL_law_559 {x : Int32} (kk : QW V iL_law 561 [a0, a1, a2, a3, a4, a5, some (.int x), a7, a8] (.int x :: st) h z bc bs Kr Kx) : QW V iL_law 559 [a0, a1, a2, a3, a4, a5, some (.int x), a7, a8] (st) h z bc bs Kr Kx := q_iload dL_law_559 rfl kk
theorem dL_law_561 : decode (i_b iL_law) 561 = .ok (.if_icmp .eq 5, 3) := by decide +kernel
theorem wL_law_561 {x y : Int32} (kt : x = y → QW V iL_law 566 [a0, a1, a2, a3, a4, a5, a6, a7, a8] (st) h z bc bs Kr Kx) (kf : ¬ x = y → QW V iL_law 564 [a0, a1, a2, a3, a4, a5, a6, a7, a8] (st) h z bc bs Kr Kx) : QW V iL_law 561 [a0, a1, a2, a3, a4, a5, a6, a7, a8] (.int y :: .int x :: st) h z bc bs Kr Kx := q_icmp_eq dL_law_561 (by decide) kt kf
theorem dL_law_564 : decode (i_b iL_law) 564 = .ok (.iconst 0, 1) := by decide +kernel
theorem wL_law_564  (kk : QW V iL_law 565 [a0, a1, a2, a3, a4, a5, a6, a7, a8] (.int (0) :: st) h z bc bs Kr Kx) : QW V iL_law 564 [a0, a1, a2, a3, a4, a5, a6, a7, a8] (st) h z bc bs Kr Kx := q_iconst dL_law_564 (by decide) kk
theorem dL_law_565 : decode (i_b iL_law) 565 = .ok (.ireturn, 1) := by decide +kernel
theorem wL_law_565 {x : Int32} {P : Int32 → q_H → Option Nat → Prop} (hk : P x h z) (hn : narrow .boolean (.int x) = .int x := by first | rfl | exact q_b_n _) : QW V iL_law 565 [a0, a1, a2, a3, a4, a5, a6, a7, a8] [.int x] h z bc bs (q_Ki P) Kx := q_iret dL_law_565 rfl hn ⟨x, rfl, hk⟩
theorem dL_law_566 : decode (i_b iL_law) 566 = .ok (.iload 6, 2) := by decide +kernel
theorem wL_law_566 {x : Int32} (kk : QW V iL_law 568 [a0, a1, a2, a3, a4, a5, some (.int x), a7, a8] (.int x :: st) h z bc bs Kr Kx) : QW V iL_law 566 [a0, a1, a2, a3, a4, a5, some (.int x), a7, a8] (st) h z bc bs Kr Kx := q_iload dL_law_566 rfl kk
theorem dL_law_568 : decode (i_b iL_law) 568 = .ok (.ifCond .ne 15, 3) := by decide +kernel
theorem wL_law_568 {x : Int32} (kt : ¬ x = 0 → QW V iL_law 583 [a0, a1, a2, a3, a4, a5, a6, a7, a8] (st) h z bc bs Kr Kx) (kf : x = 0 → QW V iL_law 571 [a0, a1, a2, a3, a4, a5, a6, a7, a8] (st) h z bc bs Kr Kx) : QW V iL_law 568 [a0, a1, a2, a3, a4, a5, a6, a7, a8] (.int x :: st) h z bc bs Kr Kx := q_if_ne dL_law_568 (by decide) kt kf
theorem dL_law_571 : decode (i_b iL_law) 571 = .ok (.aload_n 3, 1) := by decide +kernel
theorem wL_law_571 {x : Nat} (kk : QW V iL_law 572 [a0, a1, a2, some (.ref x), a4, a5, a6, a7, a8] (.ref x :: st) h z bc bs Kr Kx) : QW V iL_law 571 [a0, a1, a2, some (.ref x), a4, a5, a6, a7, a8] (st) h z bc bs Kr Kx := q_aload_n dL_law_571 rfl rfl kk
theorem dL_law_572 : decode (i_b iL_law) 572 = .ok (.iconst 0, 1) := by decide +kernel
theorem wL_law_572  (kk : QW V iL_law 573 [a0, a1, a2, a3, a4, a5, a6, a7, a8] (.int (0) :: st) h z bc bs Kr Kx) : QW V iL_law 572 [a0, a1, a2, a3, a4, a5, a6, a7, a8] (st) h z bc bs Kr Kx := q_iconst dL_law_572 (by decide) kk
theorem dL_law_573 : decode (i_b iL_law) 573 = .ok (.laload, 1) := by decide +kernel
theorem wL_law_573 {a n j : Nat} {f : Nat → Int64} {i : Int32} (ha : h a = some (.inl (2, n, .inr (.inl f)))) (hi : i = nI j) (hj : j < n) (hn : n < 2147483648) (kk : QW V iL_law 574 [a0, a1, a2, a3, a4, a5, a6, a7, a8] (.long (f j) :: st) h z bc bs Kr Kx) : QW V iL_law 573 [a0, a1, a2, a3, a4, a5, a6, a7, a8] (.int i :: .ref a :: st) h z bc bs Kr Kx := q_lald dL_law_573 ha hi hj hn kk
theorem dL_law_574 : decode (i_b iL_law) 574 = .ok (.iload 7, 2) := by decide +kernel
theorem wL_law_574 {x : Int32} (kk : QW V iL_law 576 [a0, a1, a2, a3, a4, a5, a6, some (.int x), a8] (.int x :: st) h z bc bs Kr Kx) : QW V iL_law 574 [a0, a1, a2, a3, a4, a5, a6, some (.int x), a8] (st) h z bc bs Kr Kx := q_iload dL_law_574 rfl kk
theorem dL_law_576 : decode (i_b iL_law) 576 = .ok (.i2l, 1) := by decide +kernel
theorem wL_law_576 {x : Int32} (kk : QW V iL_law 577 [a0, a1, a2, a3, a4, a5, a6, a7, a8] (.long (x.toInt64) :: st) h z bc bs Kr Kx) : QW V iL_law 576 [a0, a1, a2, a3, a4, a5, a6, a7, a8] (.int x :: st) h z bc bs Kr Kx := q_i2l dL_law_576 kk
theorem dL_law_577 : decode (i_b iL_law) 577 = .ok (.lcmp, 1) := by decide +kernel
theorem dL_law_578 : decode (i_b iL_law) 578 = .ok (.ifCond .eq 5, 3) := by decide +kernel
theorem wL_law_577 {x y : Int64} (kt : x = y → QW V iL_law 583 [a0, a1, a2, a3, a4, a5, a6, a7, a8] (st) h z bc bs Kr Kx) (kf : ¬ x = y → QW V iL_law 581 [a0, a1, a2, a3, a4, a5, a6, a7, a8] (st) h z bc bs Kr Kx) : QW V iL_law 577 [a0, a1, a2, a3, a4, a5, a6, a7, a8] (.long y :: .long x :: st) h z bc bs Kr Kx := q_lcmp dL_law_577 (q_if_eq dL_law_578 (by decide) (fun q => kt ((q_lc_eq x y).mp q)) (fun q => kf (q_lcn_eq q)))
theorem dL_law_581 : decode (i_b iL_law) 581 = .ok (.iconst 0, 1) := by decide +kernel
theorem wL_law_581  (kk : QW V iL_law 582 [a0, a1, a2, a3, a4, a5, a6, a7, a8] (.int (0) :: st) h z bc bs Kr Kx) : QW V iL_law 581 [a0, a1, a2, a3, a4, a5, a6, a7, a8] (st) h z bc bs Kr Kx := q_iconst dL_law_581 (by decide) kk
theorem dL_law_582 : decode (i_b iL_law) 582 = .ok (.ireturn, 1) := by decide +kernel
theorem wL_law_582 {x : Int32} {P : Int32 → q_H → Option Nat → Prop} (hk : P x h z) (hn : narrow .boolean (.int x) = .int x := by first | rfl | exact q_b_n _) : QW V iL_law 582 [a0, a1, a2, a3, a4, a5, a6, a7, a8] [.int x] h z bc bs (q_Ki P) Kx := q_iret dL_law_582 rfl hn ⟨x, rfl, hk⟩
theorem dL_law_583 : decode (i_b iL_law) 583 = .ok (.goto 2168, 3) := by decide +kernel
theorem wL_law_583  (kk : QW V iL_law 2751 [a0, a1, a2, a3, a4, a5, a6, a7, a8] (st) h z bc bs Kr Kx) : QW V iL_law 583 [a0, a1, a2, a3, a4, a5, a6, a7, a8] (st) h z bc bs Kr Kx := q_goto dL_law_583 (by decide) kk
theorem dL_law_586 : decode (i_b iL_law) 586 = .ok (.aload_n 1, 1) := by decide +kernel
theorem wL_law_586 {x : Nat} (kk : QW V iL_law 587 [a0, some (.ref x), a2, a3, a4, a5, a6, a7, a8] (.ref x :: st) h z bc bs Kr Kx) : QW V iL_law 586 [a0, some (.ref x), a2, a3, a4, a5, a6, a7, a8] (st) h z bc bs Kr Kx := q_aload_n dL_law_586 rfl rfl kk
theorem dL_law_587 : decode (i_b iL_law) 587 = .ok (.aload_n 0, 1) := by decide +kernel
theorem wL_law_587 {x : Nat} (kk : QW V iL_law 588 [some (.ref x), a1, a2, a3, a4, a5, a6, a7, a8] (.ref x :: st) h z bc bs Kr Kx) : QW V iL_law 587 [some (.ref x), a1, a2, a3, a4, a5, a6, a7, a8] (st) h z bc bs Kr Kx := q_aload_n dL_law_587 rfl rfl kk
theorem dL_law_588 : decode (i_b iL_law) 588 = .ok (.iload 5, 2) := by decide +kernel
theorem wL_law_588 {x : Int32} (kk : QW V iL_law 590 [a0, a1, a2, a3, a4, some (.int x), a6, a7, a8] (.int x :: st) h z bc bs Kr Kx) : QW V iL_law 588 [a0, a1, a2, a3, a4, some (.int x), a6, a7, a8] (st) h z bc bs Kr Kx := q_iload dL_law_588 rfl kk
theorem dL_law_590 : decode (i_b iL_law) 590 = .ok (.iconst 1, 1) := by decide +kernel
theorem wL_law_590  (kk : QW V iL_law 591 [a0, a1, a2, a3, a4, a5, a6, a7, a8] (.int (1) :: st) h z bc bs Kr Kx) : QW V iL_law 590 [a0, a1, a2, a3, a4, a5, a6, a7, a8] (st) h z bc bs Kr Kx := q_iconst dL_law_590 (by decide) kk
theorem dL_law_591 : decode (i_b iL_law) 591 = .ok (.iadd, 1) := by decide +kernel
theorem wL_law_591 {x y : Int32} (kk : QW V iL_law 592 [a0, a1, a2, a3, a4, a5, a6, a7, a8] (.int (x + y) :: st) h z bc bs Kr Kx) : QW V iL_law 591 [a0, a1, a2, a3, a4, a5, a6, a7, a8] (.int y :: .int x :: st) h z bc bs Kr Kx := q_iadd dL_law_591 kk
theorem dL_law_592 : decode (i_b iL_law) 592 = .ok (.iaload, 1) := by decide +kernel
theorem wL_law_592 {j : Nat} {i : Int32} (hi : i = nI j) (hj : j < e_sL V) (hn : e_sL V < 2147483648) (kk : QW V iL_law 593 [a0, a1, a2, a3, a4, a5, a6, a7, a8] (.int (e_xs V j) :: st) h z bc bs Kr Kx) : QW V iL_law 592 [a0, a1, a2, a3, a4, a5, a6, a7, a8] (.int i :: .ref (e_sb V) :: st) h z bc bs Kr Kx := q_sld dL_law_592 hi hj hn kk
theorem dL_law_593 : decode (i_b iL_law) 593 = .ok (.aload_n 0, 1) := by decide +kernel
theorem wL_law_593 {x : Nat} (kk : QW V iL_law 594 [some (.ref x), a1, a2, a3, a4, a5, a6, a7, a8] (.ref x :: st) h z bc bs Kr Kx) : QW V iL_law 593 [some (.ref x), a1, a2, a3, a4, a5, a6, a7, a8] (st) h z bc bs Kr Kx := q_aload_n dL_law_593 rfl rfl kk
theorem dL_law_594 : decode (i_b iL_law) 594 = .ok (.iload 5, 2) := by decide +kernel
theorem wL_law_594 {x : Int32} (kk : QW V iL_law 596 [a0, a1, a2, a3, a4, some (.int x), a6, a7, a8] (.int x :: st) h z bc bs Kr Kx) : QW V iL_law 594 [a0, a1, a2, a3, a4, some (.int x), a6, a7, a8] (st) h z bc bs Kr Kx := q_iload dL_law_594 rfl kk
theorem dL_law_596 : decode (i_b iL_law) 596 = .ok (.iconst 2, 1) := by decide +kernel
theorem wL_law_596  (kk : QW V iL_law 597 [a0, a1, a2, a3, a4, a5, a6, a7, a8] (.int (2) :: st) h z bc bs Kr Kx) : QW V iL_law 596 [a0, a1, a2, a3, a4, a5, a6, a7, a8] (st) h z bc bs Kr Kx := q_iconst dL_law_596 (by decide) kk
theorem dL_law_597 : decode (i_b iL_law) 597 = .ok (.iadd, 1) := by decide +kernel
theorem wL_law_597 {x y : Int32} (kk : QW V iL_law 598 [a0, a1, a2, a3, a4, a5, a6, a7, a8] (.int (x + y) :: st) h z bc bs Kr Kx) : QW V iL_law 597 [a0, a1, a2, a3, a4, a5, a6, a7, a8] (.int y :: .int x :: st) h z bc bs Kr Kx := q_iadd dL_law_597 kk
theorem dL_law_598 : decode (i_b iL_law) 598 = .ok (.iaload, 1) := by decide +kernel
theorem wL_law_598 {j : Nat} {i : Int32} (hi : i = nI j) (hj : j < e_sL V) (hn : e_sL V < 2147483648) (kk : QW V iL_law 599 [a0, a1, a2, a3, a4, a5, a6, a7, a8] (.int (e_xs V j) :: st) h z bc bs Kr Kx) : QW V iL_law 598 [a0, a1, a2, a3, a4, a5, a6, a7, a8] (.int i :: .ref (e_sb V) :: st) h z bc bs Kr Kx := q_sld dL_law_598 hi hj hn kk
theorem dL_law_599 : decode (i_b iL_law) 599 = .ok (.ifCond .eq 7, 3) := by decide +kernel
theorem wL_law_599 {x : Int32} (kt : x = 0 → QW V iL_law 606 [a0, a1, a2, a3, a4, a5, a6, a7, a8] (st) h z bc bs Kr Kx) (kf : ¬ x = 0 → QW V iL_law 602 [a0, a1, a2, a3, a4, a5, a6, a7, a8] (st) h z bc bs Kr Kx) : QW V iL_law 599 [a0, a1, a2, a3, a4, a5, a6, a7, a8] (.int x :: st) h z bc bs Kr Kx := q_if_eq dL_law_599 (by decide) kt kf
theorem dL_law_602 : decode (i_b iL_law) 602 = .ok (.iconst 1, 1) := by decide +kernel
theorem wL_law_602  (kk : QW V iL_law 603 [a0, a1, a2, a3, a4, a5, a6, a7, a8] (.int (1) :: st) h z bc bs Kr Kx) : QW V iL_law 602 [a0, a1, a2, a3, a4, a5, a6, a7, a8] (st) h z bc bs Kr Kx := q_iconst dL_law_602 (by decide) kk
theorem dL_law_603 : decode (i_b iL_law) 603 = .ok (.goto 4, 3) := by decide +kernel
theorem wL_law_603  (kk : QW V iL_law 607 [a0, a1, a2, a3, a4, a5, a6, a7, a8] (st) h z bc bs Kr Kx) : QW V iL_law 603 [a0, a1, a2, a3, a4, a5, a6, a7, a8] (st) h z bc bs Kr Kx := q_goto dL_law_603 (by decide) kk
theorem dL_law_606 : decode (i_b iL_law) 606 = .ok (.iconst 0, 1) := by decide +kernel
theorem wL_law_606  (kk : QW V iL_law 607 [a0, a1, a2, a3, a4, a5, a6, a7, a8] (.int (0) :: st) h z bc bs Kr Kx) : QW V iL_law 606 [a0, a1, a2, a3, a4, a5, a6, a7, a8] (st) h z bc bs Kr Kx := q_iconst dL_law_606 (by decide) kk
theorem dL_law_607 : decode (i_b iL_law) 607 = .ok (.aload_n 3, 1) := by decide +kernel
theorem wL_law_607 {x : Nat} (kk : QW V iL_law 608 [a0, a1, a2, some (.ref x), a4, a5, a6, a7, a8] (.ref x :: st) h z bc bs Kr Kx) : QW V iL_law 607 [a0, a1, a2, some (.ref x), a4, a5, a6, a7, a8] (st) h z bc bs Kr Kx := q_aload_n dL_law_607 rfl rfl kk
theorem dL_law_608 : decode (i_b iL_law) 608 = .ok (.invokestatic 172, 3) := by decide +kernel
theorem wL_law_608 {x0 : Nat} {x1 : Int32} {x2 : Int32} {x3 : Nat} (hm : QMi V iL_release [.ref x0, .int x1, .int x2, .ref x3] h z (fun r h' z' => QW V iL_law 611 [a0, a1, a2, a3, a4, a5, a6, a7, a8] (.int r :: st) h' z' bc bs Kr Kx) Kx) (hW : (st.map fun v => v.category).sum ≤ 8 := by exact Nat.le_of_ble_eq_true rfl) : QW V iL_law 608 [a0, a1, a2, a3, a4, a5, a6, a7, a8] (.ref x3 :: .int x2 :: .int x1 :: .ref x0 :: st) h z (bc + 2) (bs + 12) Kr Kx := q_callSX (y' := iL_release) (As := [.ref x0, .int x1, .int x2, .ref x3]) (rest := st) dL_law_608 k3_225 k3_226 k1_0 hhL_release (by decide) hdL_release rfl (Nat.le_of_ble_eq_true rfl) (Nat.le_of_ble_eq_true rfl) hW rfl (QMi.run hm)
theorem dL_law_611 : decode (i_b iL_law) 611 = .ok (.istore 6, 2) := by decide +kernel
theorem wL_law_611 {x : Int32} (kk : QW V iL_law 613 [a0, a1, a2, a3, a4, a5, some (.int x), a7, a8] (st) h z bc bs Kr Kx) (hp : q_n2 a5 = true := by rfl) : QW V iL_law 611 [a0, a1, a2, a3, a4, a5, a6, a7, a8] (.int x :: st) h z bc bs Kr Kx := q_istore dL_law_611 (Nat.le_of_ble_eq_true rfl) hp kk
theorem dL_law_613 : decode (i_b iL_law) 613 = .ok (.aload_n 2, 1) := by decide +kernel
theorem wL_law_613 {x : Nat} (kk : QW V iL_law 614 [a0, a1, some (.ref x), a3, a4, a5, a6, a7, a8] (.ref x :: st) h z bc bs Kr Kx) : QW V iL_law 613 [a0, a1, some (.ref x), a3, a4, a5, a6, a7, a8] (st) h z bc bs Kr Kx := q_aload_n dL_law_613 rfl rfl kk
theorem dL_law_614 : decode (i_b iL_law) 614 = .ok (.aload_n 0, 1) := by decide +kernel
theorem wL_law_614 {x : Nat} (kk : QW V iL_law 615 [some (.ref x), a1, a2, a3, a4, a5, a6, a7, a8] (.ref x :: st) h z bc bs Kr Kx) : QW V iL_law 614 [some (.ref x), a1, a2, a3, a4, a5, a6, a7, a8] (st) h z bc bs Kr Kx := q_aload_n dL_law_614 rfl rfl kk
theorem dL_law_615 : decode (i_b iL_law) 615 = .ok (.iload 5, 2) := by decide +kernel
theorem wL_law_615 {x : Int32} (kk : QW V iL_law 617 [a0, a1, a2, a3, a4, some (.int x), a6, a7, a8] (.int x :: st) h z bc bs Kr Kx) : QW V iL_law 615 [a0, a1, a2, a3, a4, some (.int x), a6, a7, a8] (st) h z bc bs Kr Kx := q_iload dL_law_615 rfl kk
theorem dL_law_617 : decode (i_b iL_law) 617 = .ok (.iconst 1, 1) := by decide +kernel
theorem wL_law_617  (kk : QW V iL_law 618 [a0, a1, a2, a3, a4, a5, a6, a7, a8] (.int (1) :: st) h z bc bs Kr Kx) : QW V iL_law 617 [a0, a1, a2, a3, a4, a5, a6, a7, a8] (st) h z bc bs Kr Kx := q_iconst dL_law_617 (by decide) kk
theorem dL_law_618 : decode (i_b iL_law) 618 = .ok (.iadd, 1) := by decide +kernel
theorem wL_law_618 {x y : Int32} (kk : QW V iL_law 619 [a0, a1, a2, a3, a4, a5, a6, a7, a8] (.int (x + y) :: st) h z bc bs Kr Kx) : QW V iL_law 618 [a0, a1, a2, a3, a4, a5, a6, a7, a8] (.int y :: .int x :: st) h z bc bs Kr Kx := q_iadd dL_law_618 kk
theorem dL_law_619 : decode (i_b iL_law) 619 = .ok (.iaload, 1) := by decide +kernel
theorem wL_law_619 {j : Nat} {i : Int32} (hi : i = nI j) (hj : j < e_sL V) (hn : e_sL V < 2147483648) (kk : QW V iL_law 620 [a0, a1, a2, a3, a4, a5, a6, a7, a8] (.int (e_xs V j) :: st) h z bc bs Kr Kx) : QW V iL_law 619 [a0, a1, a2, a3, a4, a5, a6, a7, a8] (.int i :: .ref (e_sb V) :: st) h z bc bs Kr Kx := q_sld dL_law_619 hi hj hn kk
theorem dL_law_620 : decode (i_b iL_law) 620 = .ok (.aload_n 0, 1) := by decide +kernel
theorem wL_law_620 {x : Nat} (kk : QW V iL_law 621 [some (.ref x), a1, a2, a3, a4, a5, a6, a7, a8] (.ref x :: st) h z bc bs Kr Kx) : QW V iL_law 620 [some (.ref x), a1, a2, a3, a4, a5, a6, a7, a8] (st) h z bc bs Kr Kx := q_aload_n dL_law_620 rfl rfl kk
theorem dL_law_621 : decode (i_b iL_law) 621 = .ok (.iload 5, 2) := by decide +kernel
theorem wL_law_621 {x : Int32} (kk : QW V iL_law 623 [a0, a1, a2, a3, a4, some (.int x), a6, a7, a8] (.int x :: st) h z bc bs Kr Kx) : QW V iL_law 621 [a0, a1, a2, a3, a4, some (.int x), a6, a7, a8] (st) h z bc bs Kr Kx := q_iload dL_law_621 rfl kk
theorem dL_law_623 : decode (i_b iL_law) 623 = .ok (.iconst 2, 1) := by decide +kernel
theorem wL_law_623  (kk : QW V iL_law 624 [a0, a1, a2, a3, a4, a5, a6, a7, a8] (.int (2) :: st) h z bc bs Kr Kx) : QW V iL_law 623 [a0, a1, a2, a3, a4, a5, a6, a7, a8] (st) h z bc bs Kr Kx := q_iconst dL_law_623 (by decide) kk
theorem dL_law_624 : decode (i_b iL_law) 624 = .ok (.iadd, 1) := by decide +kernel
theorem wL_law_624 {x y : Int32} (kk : QW V iL_law 625 [a0, a1, a2, a3, a4, a5, a6, a7, a8] (.int (x + y) :: st) h z bc bs Kr Kx) : QW V iL_law 624 [a0, a1, a2, a3, a4, a5, a6, a7, a8] (.int y :: .int x :: st) h z bc bs Kr Kx := q_iadd dL_law_624 kk
theorem dL_law_625 : decode (i_b iL_law) 625 = .ok (.iaload, 1) := by decide +kernel
theorem wL_law_625 {j : Nat} {i : Int32} (hi : i = nI j) (hj : j < e_sL V) (hn : e_sL V < 2147483648) (kk : QW V iL_law 626 [a0, a1, a2, a3, a4, a5, a6, a7, a8] (.int (e_xs V j) :: st) h z bc bs Kr Kx) : QW V iL_law 625 [a0, a1, a2, a3, a4, a5, a6, a7, a8] (.int i :: .ref (e_sb V) :: st) h z bc bs Kr Kx := q_sld dL_law_625 hi hj hn kk
theorem dL_law_626 : decode (i_b iL_law) 626 = .ok (.ifCond .eq 7, 3) := by decide +kernel
theorem wL_law_626 {x : Int32} (kt : x = 0 → QW V iL_law 633 [a0, a1, a2, a3, a4, a5, a6, a7, a8] (st) h z bc bs Kr Kx) (kf : ¬ x = 0 → QW V iL_law 629 [a0, a1, a2, a3, a4, a5, a6, a7, a8] (st) h z bc bs Kr Kx) : QW V iL_law 626 [a0, a1, a2, a3, a4, a5, a6, a7, a8] (.int x :: st) h z bc bs Kr Kx := q_if_eq dL_law_626 (by decide) kt kf
theorem dL_law_629 : decode (i_b iL_law) 629 = .ok (.iconst 1, 1) := by decide +kernel
theorem wL_law_629  (kk : QW V iL_law 630 [a0, a1, a2, a3, a4, a5, a6, a7, a8] (.int (1) :: st) h z bc bs Kr Kx) : QW V iL_law 629 [a0, a1, a2, a3, a4, a5, a6, a7, a8] (st) h z bc bs Kr Kx := q_iconst dL_law_629 (by decide) kk
theorem dL_law_630 : decode (i_b iL_law) 630 = .ok (.goto 4, 3) := by decide +kernel
theorem wL_law_630  (kk : QW V iL_law 634 [a0, a1, a2, a3, a4, a5, a6, a7, a8] (st) h z bc bs Kr Kx) : QW V iL_law 630 [a0, a1, a2, a3, a4, a5, a6, a7, a8] (st) h z bc bs Kr Kx := q_goto dL_law_630 (by decide) kk
theorem dL_law_633 : decode (i_b iL_law) 633 = .ok (.iconst 0, 1) := by decide +kernel
theorem wL_law_633  (kk : QW V iL_law 634 [a0, a1, a2, a3, a4, a5, a6, a7, a8] (.int (0) :: st) h z bc bs Kr Kx) : QW V iL_law 633 [a0, a1, a2, a3, a4, a5, a6, a7, a8] (st) h z bc bs Kr Kx := q_iconst dL_law_633 (by decide) kk
theorem dL_law_634 : decode (i_b iL_law) 634 = .ok (.invokevirtual 175, 3) := by decide +kernel
theorem wL_law_634 {a : Nat} {fs : List Value} {x0 : Int32} {x1 : Int32} (hb : h a = some (.inr (10, fs))) (hm : QMi V iX9_release [.ref a, .int x0, .int x1] h z (fun r h' z' => QW V iL_law 637 [a0, a1, a2, a3, a4, a5, a6, a7, a8] (.int r :: st) h' z' bc bs Kr Kx) Kx) (hW : (st.map fun v => v.category).sum ≤ 8 := by exact Nat.le_of_ble_eq_true rfl) : QW V iL_law 634 [a0, a1, a2, a3, a4, a5, a6, a7, a8] (.int x1 :: .int x0 :: .ref a :: st) h z bc bs Kr Kx := q_callV (y' := iX9_release) (As := [.int x0, .int x1]) (rest := st) dL_law_634 k7_70 k7_71 k7_72 k1_10 hhX9_release rfl hdX9_release rfl rfl (Nat.le_of_ble_eq_true rfl) (Nat.le_of_ble_eq_true rfl) hW rfl hb (QMi.run hm)
theorem dL_law_637 : decode (i_b iL_law) 637 = .ok (.istore 7, 2) := by decide +kernel
theorem wL_law_637 {x : Int32} (kk : QW V iL_law 639 [a0, a1, a2, a3, a4, a5, a6, some (.int x), a8] (st) h z bc bs Kr Kx) (hp : q_n2 a6 = true := by rfl) : QW V iL_law 637 [a0, a1, a2, a3, a4, a5, a6, a7, a8] (.int x :: st) h z bc bs Kr Kx := q_istore dL_law_637 (Nat.le_of_ble_eq_true rfl) hp kk
theorem dL_law_639 : decode (i_b iL_law) 639 = .ok (.aload_n 2, 1) := by decide +kernel
theorem wL_law_639 {x : Nat} (kk : QW V iL_law 640 [a0, a1, some (.ref x), a3, a4, a5, a6, a7, a8] (.ref x :: st) h z bc bs Kr Kx) : QW V iL_law 639 [a0, a1, some (.ref x), a3, a4, a5, a6, a7, a8] (st) h z bc bs Kr Kx := q_aload_n dL_law_639 rfl rfl kk
theorem dL_law_640 : decode (i_b iL_law) 640 = .ok (.invokevirtual 150, 3) := by decide +kernel
theorem wL_law_640 {a : Nat} {fs : List Value}  (hb : h a = some (.inr (10, fs))) (hm : QMi V iX9_thrown [.ref a] h z (fun r h' z' => QW V iL_law 643 [a0, a1, a2, a3, a4, a5, a6, a7, a8] (.int r :: st) h' z' bc bs Kr Kx) Kx) (hW : (st.map fun v => v.category).sum ≤ 8 := by exact Nat.le_of_ble_eq_true rfl) : QW V iL_law 640 [a0, a1, a2, a3, a4, a5, a6, a7, a8] (.ref a :: st) h z bc bs Kr Kx := q_callV (y' := iX9_thrown) (As := []) (rest := st) dL_law_640 k6_80 k6_81 k6_82 k1_10 hhX9_thrown rfl hdX9_thrown rfl rfl (Nat.le_of_ble_eq_true rfl) (Nat.le_of_ble_eq_true rfl) hW rfl hb (QMi.run hm)
theorem dL_law_643 : decode (i_b iL_law) 643 = .ok (.iload 6, 2) := by decide +kernel
theorem wL_law_643 {x : Int32} (kk : QW V iL_law 645 [a0, a1, a2, a3, a4, a5, some (.int x), a7, a8] (.int x :: st) h z bc bs Kr Kx) : QW V iL_law 643 [a0, a1, a2, a3, a4, a5, some (.int x), a7, a8] (st) h z bc bs Kr Kx := q_iload dL_law_643 rfl kk
theorem dL_law_645 : decode (i_b iL_law) 645 = .ok (.if_icmp .eq 5, 3) := by decide +kernel
theorem wL_law_645 {x y : Int32} (kt : x = y → QW V iL_law 650 [a0, a1, a2, a3, a4, a5, a6, a7, a8] (st) h z bc bs Kr Kx) (kf : ¬ x = y → QW V iL_law 648 [a0, a1, a2, a3, a4, a5, a6, a7, a8] (st) h z bc bs Kr Kx) : QW V iL_law 645 [a0, a1, a2, a3, a4, a5, a6, a7, a8] (.int y :: .int x :: st) h z bc bs Kr Kx := q_icmp_eq dL_law_645 (by decide) kt kf
theorem dL_law_648 : decode (i_b iL_law) 648 = .ok (.iconst 0, 1) := by decide +kernel
theorem wL_law_648  (kk : QW V iL_law 649 [a0, a1, a2, a3, a4, a5, a6, a7, a8] (.int (0) :: st) h z bc bs Kr Kx) : QW V iL_law 648 [a0, a1, a2, a3, a4, a5, a6, a7, a8] (st) h z bc bs Kr Kx := q_iconst dL_law_648 (by decide) kk
theorem dL_law_649 : decode (i_b iL_law) 649 = .ok (.ireturn, 1) := by decide +kernel
theorem wL_law_649 {x : Int32} {P : Int32 → q_H → Option Nat → Prop} (hk : P x h z) (hn : narrow .boolean (.int x) = .int x := by first | rfl | exact q_b_n _) : QW V iL_law 649 [a0, a1, a2, a3, a4, a5, a6, a7, a8] [.int x] h z bc bs (q_Ki P) Kx := q_iret dL_law_649 rfl hn ⟨x, rfl, hk⟩
theorem dL_law_650 : decode (i_b iL_law) 650 = .ok (.iload 6, 2) := by decide +kernel
theorem wL_law_650 {x : Int32} (kk : QW V iL_law 652 [a0, a1, a2, a3, a4, a5, some (.int x), a7, a8] (.int x :: st) h z bc bs Kr Kx) : QW V iL_law 650 [a0, a1, a2, a3, a4, a5, some (.int x), a7, a8] (st) h z bc bs Kr Kx := q_iload dL_law_650 rfl kk
theorem dL_law_652 : decode (i_b iL_law) 652 = .ok (.ifCond .ne 15, 3) := by decide +kernel
theorem wL_law_652 {x : Int32} (kt : ¬ x = 0 → QW V iL_law 667 [a0, a1, a2, a3, a4, a5, a6, a7, a8] (st) h z bc bs Kr Kx) (kf : x = 0 → QW V iL_law 655 [a0, a1, a2, a3, a4, a5, a6, a7, a8] (st) h z bc bs Kr Kx) : QW V iL_law 652 [a0, a1, a2, a3, a4, a5, a6, a7, a8] (.int x :: st) h z bc bs Kr Kx := q_if_ne dL_law_652 (by decide) kt kf
theorem dL_law_655 : decode (i_b iL_law) 655 = .ok (.aload_n 3, 1) := by decide +kernel
theorem wL_law_655 {x : Nat} (kk : QW V iL_law 656 [a0, a1, a2, some (.ref x), a4, a5, a6, a7, a8] (.ref x :: st) h z bc bs Kr Kx) : QW V iL_law 655 [a0, a1, a2, some (.ref x), a4, a5, a6, a7, a8] (st) h z bc bs Kr Kx := q_aload_n dL_law_655 rfl rfl kk
theorem dL_law_656 : decode (i_b iL_law) 656 = .ok (.iconst 0, 1) := by decide +kernel
theorem wL_law_656  (kk : QW V iL_law 657 [a0, a1, a2, a3, a4, a5, a6, a7, a8] (.int (0) :: st) h z bc bs Kr Kx) : QW V iL_law 656 [a0, a1, a2, a3, a4, a5, a6, a7, a8] (st) h z bc bs Kr Kx := q_iconst dL_law_656 (by decide) kk
theorem dL_law_657 : decode (i_b iL_law) 657 = .ok (.laload, 1) := by decide +kernel
theorem wL_law_657 {a n j : Nat} {f : Nat → Int64} {i : Int32} (ha : h a = some (.inl (2, n, .inr (.inl f)))) (hi : i = nI j) (hj : j < n) (hn : n < 2147483648) (kk : QW V iL_law 658 [a0, a1, a2, a3, a4, a5, a6, a7, a8] (.long (f j) :: st) h z bc bs Kr Kx) : QW V iL_law 657 [a0, a1, a2, a3, a4, a5, a6, a7, a8] (.int i :: .ref a :: st) h z bc bs Kr Kx := q_lald dL_law_657 ha hi hj hn kk
theorem dL_law_658 : decode (i_b iL_law) 658 = .ok (.iload 7, 2) := by decide +kernel
theorem wL_law_658 {x : Int32} (kk : QW V iL_law 660 [a0, a1, a2, a3, a4, a5, a6, some (.int x), a8] (.int x :: st) h z bc bs Kr Kx) : QW V iL_law 658 [a0, a1, a2, a3, a4, a5, a6, some (.int x), a8] (st) h z bc bs Kr Kx := q_iload dL_law_658 rfl kk
theorem dL_law_660 : decode (i_b iL_law) 660 = .ok (.i2l, 1) := by decide +kernel
theorem wL_law_660 {x : Int32} (kk : QW V iL_law 661 [a0, a1, a2, a3, a4, a5, a6, a7, a8] (.long (x.toInt64) :: st) h z bc bs Kr Kx) : QW V iL_law 660 [a0, a1, a2, a3, a4, a5, a6, a7, a8] (.int x :: st) h z bc bs Kr Kx := q_i2l dL_law_660 kk
theorem dL_law_661 : decode (i_b iL_law) 661 = .ok (.lcmp, 1) := by decide +kernel
theorem dL_law_662 : decode (i_b iL_law) 662 = .ok (.ifCond .eq 5, 3) := by decide +kernel
theorem wL_law_661 {x y : Int64} (kt : x = y → QW V iL_law 667 [a0, a1, a2, a3, a4, a5, a6, a7, a8] (st) h z bc bs Kr Kx) (kf : ¬ x = y → QW V iL_law 665 [a0, a1, a2, a3, a4, a5, a6, a7, a8] (st) h z bc bs Kr Kx) : QW V iL_law 661 [a0, a1, a2, a3, a4, a5, a6, a7, a8] (.long y :: .long x :: st) h z bc bs Kr Kx := q_lcmp dL_law_661 (q_if_eq dL_law_662 (by decide) (fun q => kt ((q_lc_eq x y).mp q)) (fun q => kf (q_lcn_eq q)))
theorem dL_law_665 : decode (i_b iL_law) 665 = .ok (.iconst 0, 1) := by decide +kernel
theorem wL_law_665  (kk : QW V iL_law 666 [a0, a1, a2, a3, a4, a5, a6, a7, a8] (.int (0) :: st) h z bc bs Kr Kx) : QW V iL_law 665 [a0, a1, a2, a3, a4, a5, a6, a7, a8] (st) h z bc bs Kr Kx := q_iconst dL_law_665 (by decide) kk
theorem dL_law_666 : decode (i_b iL_law) 666 = .ok (.ireturn, 1) := by decide +kernel
theorem wL_law_666 {x : Int32} {P : Int32 → q_H → Option Nat → Prop} (hk : P x h z) (hn : narrow .boolean (.int x) = .int x := by first | rfl | exact q_b_n _) : QW V iL_law 666 [a0, a1, a2, a3, a4, a5, a6, a7, a8] [.int x] h z bc bs (q_Ki P) Kx := q_iret dL_law_666 rfl hn ⟨x, rfl, hk⟩
theorem dL_law_667 : decode (i_b iL_law) 667 = .ok (.goto 2084, 3) := by decide +kernel
theorem wL_law_667  (kk : QW V iL_law 2751 [a0, a1, a2, a3, a4, a5, a6, a7, a8] (st) h z bc bs Kr Kx) : QW V iL_law 667 [a0, a1, a2, a3, a4, a5, a6, a7, a8] (st) h z bc bs Kr Kx := q_goto dL_law_667 (by decide) kk
theorem dL_law_670 : decode (i_b iL_law) 670 = .ok (.aload_n 1, 1) := by decide +kernel
theorem wL_law_670 {x : Nat} (kk : QW V iL_law 671 [a0, some (.ref x), a2, a3, a4, a5, a6, a7, a8] (.ref x :: st) h z bc bs Kr Kx) : QW V iL_law 670 [a0, some (.ref x), a2, a3, a4, a5, a6, a7, a8] (st) h z bc bs Kr Kx := q_aload_n dL_law_670 rfl rfl kk
theorem dL_law_671 : decode (i_b iL_law) 671 = .ok (.aload_n 0, 1) := by decide +kernel
theorem wL_law_671 {x : Nat} (kk : QW V iL_law 672 [some (.ref x), a1, a2, a3, a4, a5, a6, a7, a8] (.ref x :: st) h z bc bs Kr Kx) : QW V iL_law 671 [some (.ref x), a1, a2, a3, a4, a5, a6, a7, a8] (st) h z bc bs Kr Kx := q_aload_n dL_law_671 rfl rfl kk
theorem dL_law_672 : decode (i_b iL_law) 672 = .ok (.iload 5, 2) := by decide +kernel
theorem wL_law_672 {x : Int32} (kk : QW V iL_law 674 [a0, a1, a2, a3, a4, some (.int x), a6, a7, a8] (.int x :: st) h z bc bs Kr Kx) : QW V iL_law 672 [a0, a1, a2, a3, a4, some (.int x), a6, a7, a8] (st) h z bc bs Kr Kx := q_iload dL_law_672 rfl kk
theorem dL_law_674 : decode (i_b iL_law) 674 = .ok (.iconst 1, 1) := by decide +kernel
theorem wL_law_674  (kk : QW V iL_law 675 [a0, a1, a2, a3, a4, a5, a6, a7, a8] (.int (1) :: st) h z bc bs Kr Kx) : QW V iL_law 674 [a0, a1, a2, a3, a4, a5, a6, a7, a8] (st) h z bc bs Kr Kx := q_iconst dL_law_674 (by decide) kk
theorem dL_law_675 : decode (i_b iL_law) 675 = .ok (.iadd, 1) := by decide +kernel
theorem wL_law_675 {x y : Int32} (kk : QW V iL_law 676 [a0, a1, a2, a3, a4, a5, a6, a7, a8] (.int (x + y) :: st) h z bc bs Kr Kx) : QW V iL_law 675 [a0, a1, a2, a3, a4, a5, a6, a7, a8] (.int y :: .int x :: st) h z bc bs Kr Kx := q_iadd dL_law_675 kk
theorem dL_law_676 : decode (i_b iL_law) 676 = .ok (.iaload, 1) := by decide +kernel
theorem wL_law_676 {j : Nat} {i : Int32} (hi : i = nI j) (hj : j < e_sL V) (hn : e_sL V < 2147483648) (kk : QW V iL_law 677 [a0, a1, a2, a3, a4, a5, a6, a7, a8] (.int (e_xs V j) :: st) h z bc bs Kr Kx) : QW V iL_law 676 [a0, a1, a2, a3, a4, a5, a6, a7, a8] (.int i :: .ref (e_sb V) :: st) h z bc bs Kr Kx := q_sld dL_law_676 hi hj hn kk
theorem dL_law_677 : decode (i_b iL_law) 677 = .ok (.aload_n 0, 1) := by decide +kernel
theorem wL_law_677 {x : Nat} (kk : QW V iL_law 678 [some (.ref x), a1, a2, a3, a4, a5, a6, a7, a8] (.ref x :: st) h z bc bs Kr Kx) : QW V iL_law 677 [some (.ref x), a1, a2, a3, a4, a5, a6, a7, a8] (st) h z bc bs Kr Kx := q_aload_n dL_law_677 rfl rfl kk
theorem dL_law_678 : decode (i_b iL_law) 678 = .ok (.iload 5, 2) := by decide +kernel
theorem wL_law_678 {x : Int32} (kk : QW V iL_law 680 [a0, a1, a2, a3, a4, some (.int x), a6, a7, a8] (.int x :: st) h z bc bs Kr Kx) : QW V iL_law 678 [a0, a1, a2, a3, a4, some (.int x), a6, a7, a8] (st) h z bc bs Kr Kx := q_iload dL_law_678 rfl kk
theorem dL_law_680 : decode (i_b iL_law) 680 = .ok (.iconst 2, 1) := by decide +kernel
theorem wL_law_680  (kk : QW V iL_law 681 [a0, a1, a2, a3, a4, a5, a6, a7, a8] (.int (2) :: st) h z bc bs Kr Kx) : QW V iL_law 680 [a0, a1, a2, a3, a4, a5, a6, a7, a8] (st) h z bc bs Kr Kx := q_iconst dL_law_680 (by decide) kk
theorem dL_law_681 : decode (i_b iL_law) 681 = .ok (.iadd, 1) := by decide +kernel
theorem wL_law_681 {x y : Int32} (kk : QW V iL_law 682 [a0, a1, a2, a3, a4, a5, a6, a7, a8] (.int (x + y) :: st) h z bc bs Kr Kx) : QW V iL_law 681 [a0, a1, a2, a3, a4, a5, a6, a7, a8] (.int y :: .int x :: st) h z bc bs Kr Kx := q_iadd dL_law_681 kk
theorem dL_law_682 : decode (i_b iL_law) 682 = .ok (.iaload, 1) := by decide +kernel
theorem wL_law_682 {j : Nat} {i : Int32} (hi : i = nI j) (hj : j < e_sL V) (hn : e_sL V < 2147483648) (kk : QW V iL_law 683 [a0, a1, a2, a3, a4, a5, a6, a7, a8] (.int (e_xs V j) :: st) h z bc bs Kr Kx) : QW V iL_law 682 [a0, a1, a2, a3, a4, a5, a6, a7, a8] (.int i :: .ref (e_sb V) :: st) h z bc bs Kr Kx := q_sld dL_law_682 hi hj hn kk
theorem dL_law_683 : decode (i_b iL_law) 683 = .ok (.aload_n 0, 1) := by decide +kernel
theorem wL_law_683 {x : Nat} (kk : QW V iL_law 684 [some (.ref x), a1, a2, a3, a4, a5, a6, a7, a8] (.ref x :: st) h z bc bs Kr Kx) : QW V iL_law 683 [some (.ref x), a1, a2, a3, a4, a5, a6, a7, a8] (st) h z bc bs Kr Kx := q_aload_n dL_law_683 rfl rfl kk
theorem dL_law_684 : decode (i_b iL_law) 684 = .ok (.iload 5, 2) := by decide +kernel
theorem wL_law_684 {x : Int32} (kk : QW V iL_law 686 [a0, a1, a2, a3, a4, some (.int x), a6, a7, a8] (.int x :: st) h z bc bs Kr Kx) : QW V iL_law 684 [a0, a1, a2, a3, a4, some (.int x), a6, a7, a8] (st) h z bc bs Kr Kx := q_iload dL_law_684 rfl kk
theorem dL_law_686 : decode (i_b iL_law) 686 = .ok (.iconst 3, 1) := by decide +kernel
theorem wL_law_686  (kk : QW V iL_law 687 [a0, a1, a2, a3, a4, a5, a6, a7, a8] (.int (3) :: st) h z bc bs Kr Kx) : QW V iL_law 686 [a0, a1, a2, a3, a4, a5, a6, a7, a8] (st) h z bc bs Kr Kx := q_iconst dL_law_686 (by decide) kk
theorem dL_law_687 : decode (i_b iL_law) 687 = .ok (.iadd, 1) := by decide +kernel
theorem wL_law_687 {x y : Int32} (kk : QW V iL_law 688 [a0, a1, a2, a3, a4, a5, a6, a7, a8] (.int (x + y) :: st) h z bc bs Kr Kx) : QW V iL_law 687 [a0, a1, a2, a3, a4, a5, a6, a7, a8] (.int y :: .int x :: st) h z bc bs Kr Kx := q_iadd dL_law_687 kk
theorem dL_law_688 : decode (i_b iL_law) 688 = .ok (.iaload, 1) := by decide +kernel
theorem wL_law_688 {j : Nat} {i : Int32} (hi : i = nI j) (hj : j < e_sL V) (hn : e_sL V < 2147483648) (kk : QW V iL_law 689 [a0, a1, a2, a3, a4, a5, a6, a7, a8] (.int (e_xs V j) :: st) h z bc bs Kr Kx) : QW V iL_law 688 [a0, a1, a2, a3, a4, a5, a6, a7, a8] (.int i :: .ref (e_sb V) :: st) h z bc bs Kr Kx := q_sld dL_law_688 hi hj hn kk
theorem dL_law_689 : decode (i_b iL_law) 689 = .ok (.aload_n 0, 1) := by decide +kernel
theorem wL_law_689 {x : Nat} (kk : QW V iL_law 690 [some (.ref x), a1, a2, a3, a4, a5, a6, a7, a8] (.ref x :: st) h z bc bs Kr Kx) : QW V iL_law 689 [some (.ref x), a1, a2, a3, a4, a5, a6, a7, a8] (st) h z bc bs Kr Kx := q_aload_n dL_law_689 rfl rfl kk
theorem dL_law_690 : decode (i_b iL_law) 690 = .ok (.iload 5, 2) := by decide +kernel
theorem wL_law_690 {x : Int32} (kk : QW V iL_law 692 [a0, a1, a2, a3, a4, some (.int x), a6, a7, a8] (.int x :: st) h z bc bs Kr Kx) : QW V iL_law 690 [a0, a1, a2, a3, a4, some (.int x), a6, a7, a8] (st) h z bc bs Kr Kx := q_iload dL_law_690 rfl kk
theorem dL_law_692 : decode (i_b iL_law) 692 = .ok (.iconst 4, 1) := by decide +kernel
theorem wL_law_692  (kk : QW V iL_law 693 [a0, a1, a2, a3, a4, a5, a6, a7, a8] (.int (4) :: st) h z bc bs Kr Kx) : QW V iL_law 692 [a0, a1, a2, a3, a4, a5, a6, a7, a8] (st) h z bc bs Kr Kx := q_iconst dL_law_692 (by decide) kk
theorem dL_law_693 : decode (i_b iL_law) 693 = .ok (.iadd, 1) := by decide +kernel
theorem wL_law_693 {x y : Int32} (kk : QW V iL_law 694 [a0, a1, a2, a3, a4, a5, a6, a7, a8] (.int (x + y) :: st) h z bc bs Kr Kx) : QW V iL_law 693 [a0, a1, a2, a3, a4, a5, a6, a7, a8] (.int y :: .int x :: st) h z bc bs Kr Kx := q_iadd dL_law_693 kk
theorem dL_law_694 : decode (i_b iL_law) 694 = .ok (.iaload, 1) := by decide +kernel
theorem wL_law_694 {j : Nat} {i : Int32} (hi : i = nI j) (hj : j < e_sL V) (hn : e_sL V < 2147483648) (kk : QW V iL_law 695 [a0, a1, a2, a3, a4, a5, a6, a7, a8] (.int (e_xs V j) :: st) h z bc bs Kr Kx) : QW V iL_law 694 [a0, a1, a2, a3, a4, a5, a6, a7, a8] (.int i :: .ref (e_sb V) :: st) h z bc bs Kr Kx := q_sld dL_law_694 hi hj hn kk
theorem dL_law_695 : decode (i_b iL_law) 695 = .ok (.aload_n 3, 1) := by decide +kernel
theorem wL_law_695 {x : Nat} (kk : QW V iL_law 696 [a0, a1, a2, some (.ref x), a4, a5, a6, a7, a8] (.ref x :: st) h z bc bs Kr Kx) : QW V iL_law 695 [a0, a1, a2, some (.ref x), a4, a5, a6, a7, a8] (st) h z bc bs Kr Kx := q_aload_n dL_law_695 rfl rfl kk
theorem dL_law_696 : decode (i_b iL_law) 696 = .ok (.invokestatic 176, 3) := by decide +kernel
theorem wL_law_696 {x0 : Nat} {x1 : Int32} {x2 : Int32} {x3 : Int32} {x4 : Int32} {x5 : Nat} (hm : QMi V iL_trade [.ref x0, .int x1, .int x2, .int x3, .int x4, .ref x5] h z (fun r h' z' => QW V iL_law 699 [a0, a1, a2, a3, a4, a5, a6, a7, a8] (.int r :: st) h' z' bc bs Kr Kx) Kx) (hW : (st.map fun v => v.category).sum ≤ 8 := by exact Nat.le_of_ble_eq_true rfl) : QW V iL_law 696 [a0, a1, a2, a3, a4, a5, a6, a7, a8] (.ref x5 :: .int x4 :: .int x3 :: .int x2 :: .int x1 :: .ref x0 :: st) h z (bc + 6) (bs + 36) Kr Kx := q_callSX (y' := iL_trade) (As := [.ref x0, .int x1, .int x2, .int x3, .int x4, .ref x5]) (rest := st) dL_law_696 k4_23 k4_24 k1_0 hhL_trade (by decide) hdL_trade rfl (Nat.le_of_ble_eq_true rfl) (Nat.le_of_ble_eq_true rfl) hW rfl (QMi.run hm)
theorem dL_law_699 : decode (i_b iL_law) 699 = .ok (.istore 6, 2) := by decide +kernel
theorem wL_law_699 {x : Int32} (kk : QW V iL_law 701 [a0, a1, a2, a3, a4, a5, some (.int x), a7, a8] (st) h z bc bs Kr Kx) (hp : q_n2 a5 = true := by rfl) : QW V iL_law 699 [a0, a1, a2, a3, a4, a5, a6, a7, a8] (.int x :: st) h z bc bs Kr Kx := q_istore dL_law_699 (Nat.le_of_ble_eq_true rfl) hp kk
theorem dL_law_701 : decode (i_b iL_law) 701 = .ok (.aload_n 2, 1) := by decide +kernel
theorem wL_law_701 {x : Nat} (kk : QW V iL_law 702 [a0, a1, some (.ref x), a3, a4, a5, a6, a7, a8] (.ref x :: st) h z bc bs Kr Kx) : QW V iL_law 701 [a0, a1, some (.ref x), a3, a4, a5, a6, a7, a8] (st) h z bc bs Kr Kx := q_aload_n dL_law_701 rfl rfl kk
theorem dL_law_702 : decode (i_b iL_law) 702 = .ok (.aload_n 0, 1) := by decide +kernel
theorem wL_law_702 {x : Nat} (kk : QW V iL_law 703 [some (.ref x), a1, a2, a3, a4, a5, a6, a7, a8] (.ref x :: st) h z bc bs Kr Kx) : QW V iL_law 702 [some (.ref x), a1, a2, a3, a4, a5, a6, a7, a8] (st) h z bc bs Kr Kx := q_aload_n dL_law_702 rfl rfl kk
theorem dL_law_703 : decode (i_b iL_law) 703 = .ok (.iload 5, 2) := by decide +kernel
theorem wL_law_703 {x : Int32} (kk : QW V iL_law 705 [a0, a1, a2, a3, a4, some (.int x), a6, a7, a8] (.int x :: st) h z bc bs Kr Kx) : QW V iL_law 703 [a0, a1, a2, a3, a4, some (.int x), a6, a7, a8] (st) h z bc bs Kr Kx := q_iload dL_law_703 rfl kk
theorem dL_law_705 : decode (i_b iL_law) 705 = .ok (.iconst 1, 1) := by decide +kernel
theorem wL_law_705  (kk : QW V iL_law 706 [a0, a1, a2, a3, a4, a5, a6, a7, a8] (.int (1) :: st) h z bc bs Kr Kx) : QW V iL_law 705 [a0, a1, a2, a3, a4, a5, a6, a7, a8] (st) h z bc bs Kr Kx := q_iconst dL_law_705 (by decide) kk
theorem dL_law_706 : decode (i_b iL_law) 706 = .ok (.iadd, 1) := by decide +kernel
theorem wL_law_706 {x y : Int32} (kk : QW V iL_law 707 [a0, a1, a2, a3, a4, a5, a6, a7, a8] (.int (x + y) :: st) h z bc bs Kr Kx) : QW V iL_law 706 [a0, a1, a2, a3, a4, a5, a6, a7, a8] (.int y :: .int x :: st) h z bc bs Kr Kx := q_iadd dL_law_706 kk
theorem dL_law_707 : decode (i_b iL_law) 707 = .ok (.iaload, 1) := by decide +kernel
theorem wL_law_707 {j : Nat} {i : Int32} (hi : i = nI j) (hj : j < e_sL V) (hn : e_sL V < 2147483648) (kk : QW V iL_law 708 [a0, a1, a2, a3, a4, a5, a6, a7, a8] (.int (e_xs V j) :: st) h z bc bs Kr Kx) : QW V iL_law 707 [a0, a1, a2, a3, a4, a5, a6, a7, a8] (.int i :: .ref (e_sb V) :: st) h z bc bs Kr Kx := q_sld dL_law_707 hi hj hn kk
theorem dL_law_708 : decode (i_b iL_law) 708 = .ok (.aload_n 0, 1) := by decide +kernel
theorem wL_law_708 {x : Nat} (kk : QW V iL_law 709 [some (.ref x), a1, a2, a3, a4, a5, a6, a7, a8] (.ref x :: st) h z bc bs Kr Kx) : QW V iL_law 708 [some (.ref x), a1, a2, a3, a4, a5, a6, a7, a8] (st) h z bc bs Kr Kx := q_aload_n dL_law_708 rfl rfl kk
theorem dL_law_709 : decode (i_b iL_law) 709 = .ok (.iload 5, 2) := by decide +kernel
theorem wL_law_709 {x : Int32} (kk : QW V iL_law 711 [a0, a1, a2, a3, a4, some (.int x), a6, a7, a8] (.int x :: st) h z bc bs Kr Kx) : QW V iL_law 709 [a0, a1, a2, a3, a4, some (.int x), a6, a7, a8] (st) h z bc bs Kr Kx := q_iload dL_law_709 rfl kk
theorem dL_law_711 : decode (i_b iL_law) 711 = .ok (.iconst 2, 1) := by decide +kernel
theorem wL_law_711  (kk : QW V iL_law 712 [a0, a1, a2, a3, a4, a5, a6, a7, a8] (.int (2) :: st) h z bc bs Kr Kx) : QW V iL_law 711 [a0, a1, a2, a3, a4, a5, a6, a7, a8] (st) h z bc bs Kr Kx := q_iconst dL_law_711 (by decide) kk
theorem dL_law_712 : decode (i_b iL_law) 712 = .ok (.iadd, 1) := by decide +kernel
theorem wL_law_712 {x y : Int32} (kk : QW V iL_law 713 [a0, a1, a2, a3, a4, a5, a6, a7, a8] (.int (x + y) :: st) h z bc bs Kr Kx) : QW V iL_law 712 [a0, a1, a2, a3, a4, a5, a6, a7, a8] (.int y :: .int x :: st) h z bc bs Kr Kx := q_iadd dL_law_712 kk
theorem dL_law_713 : decode (i_b iL_law) 713 = .ok (.iaload, 1) := by decide +kernel
theorem wL_law_713 {j : Nat} {i : Int32} (hi : i = nI j) (hj : j < e_sL V) (hn : e_sL V < 2147483648) (kk : QW V iL_law 714 [a0, a1, a2, a3, a4, a5, a6, a7, a8] (.int (e_xs V j) :: st) h z bc bs Kr Kx) : QW V iL_law 713 [a0, a1, a2, a3, a4, a5, a6, a7, a8] (.int i :: .ref (e_sb V) :: st) h z bc bs Kr Kx := q_sld dL_law_713 hi hj hn kk
theorem dL_law_714 : decode (i_b iL_law) 714 = .ok (.aload_n 0, 1) := by decide +kernel
theorem wL_law_714 {x : Nat} (kk : QW V iL_law 715 [some (.ref x), a1, a2, a3, a4, a5, a6, a7, a8] (.ref x :: st) h z bc bs Kr Kx) : QW V iL_law 714 [some (.ref x), a1, a2, a3, a4, a5, a6, a7, a8] (st) h z bc bs Kr Kx := q_aload_n dL_law_714 rfl rfl kk
theorem dL_law_715 : decode (i_b iL_law) 715 = .ok (.iload 5, 2) := by decide +kernel
theorem wL_law_715 {x : Int32} (kk : QW V iL_law 717 [a0, a1, a2, a3, a4, some (.int x), a6, a7, a8] (.int x :: st) h z bc bs Kr Kx) : QW V iL_law 715 [a0, a1, a2, a3, a4, some (.int x), a6, a7, a8] (st) h z bc bs Kr Kx := q_iload dL_law_715 rfl kk
theorem dL_law_717 : decode (i_b iL_law) 717 = .ok (.iconst 3, 1) := by decide +kernel
theorem wL_law_717  (kk : QW V iL_law 718 [a0, a1, a2, a3, a4, a5, a6, a7, a8] (.int (3) :: st) h z bc bs Kr Kx) : QW V iL_law 717 [a0, a1, a2, a3, a4, a5, a6, a7, a8] (st) h z bc bs Kr Kx := q_iconst dL_law_717 (by decide) kk
theorem dL_law_718 : decode (i_b iL_law) 718 = .ok (.iadd, 1) := by decide +kernel
theorem wL_law_718 {x y : Int32} (kk : QW V iL_law 719 [a0, a1, a2, a3, a4, a5, a6, a7, a8] (.int (x + y) :: st) h z bc bs Kr Kx) : QW V iL_law 718 [a0, a1, a2, a3, a4, a5, a6, a7, a8] (.int y :: .int x :: st) h z bc bs Kr Kx := q_iadd dL_law_718 kk
theorem dL_law_719 : decode (i_b iL_law) 719 = .ok (.iaload, 1) := by decide +kernel
theorem wL_law_719 {j : Nat} {i : Int32} (hi : i = nI j) (hj : j < e_sL V) (hn : e_sL V < 2147483648) (kk : QW V iL_law 720 [a0, a1, a2, a3, a4, a5, a6, a7, a8] (.int (e_xs V j) :: st) h z bc bs Kr Kx) : QW V iL_law 719 [a0, a1, a2, a3, a4, a5, a6, a7, a8] (.int i :: .ref (e_sb V) :: st) h z bc bs Kr Kx := q_sld dL_law_719 hi hj hn kk
theorem dL_law_720 : decode (i_b iL_law) 720 = .ok (.aload_n 0, 1) := by decide +kernel
theorem wL_law_720 {x : Nat} (kk : QW V iL_law 721 [some (.ref x), a1, a2, a3, a4, a5, a6, a7, a8] (.ref x :: st) h z bc bs Kr Kx) : QW V iL_law 720 [some (.ref x), a1, a2, a3, a4, a5, a6, a7, a8] (st) h z bc bs Kr Kx := q_aload_n dL_law_720 rfl rfl kk
theorem dL_law_721 : decode (i_b iL_law) 721 = .ok (.iload 5, 2) := by decide +kernel
theorem wL_law_721 {x : Int32} (kk : QW V iL_law 723 [a0, a1, a2, a3, a4, some (.int x), a6, a7, a8] (.int x :: st) h z bc bs Kr Kx) : QW V iL_law 721 [a0, a1, a2, a3, a4, some (.int x), a6, a7, a8] (st) h z bc bs Kr Kx := q_iload dL_law_721 rfl kk
theorem dL_law_723 : decode (i_b iL_law) 723 = .ok (.iconst 4, 1) := by decide +kernel
theorem wL_law_723  (kk : QW V iL_law 724 [a0, a1, a2, a3, a4, a5, a6, a7, a8] (.int (4) :: st) h z bc bs Kr Kx) : QW V iL_law 723 [a0, a1, a2, a3, a4, a5, a6, a7, a8] (st) h z bc bs Kr Kx := q_iconst dL_law_723 (by decide) kk
theorem dL_law_724 : decode (i_b iL_law) 724 = .ok (.iadd, 1) := by decide +kernel
theorem wL_law_724 {x y : Int32} (kk : QW V iL_law 725 [a0, a1, a2, a3, a4, a5, a6, a7, a8] (.int (x + y) :: st) h z bc bs Kr Kx) : QW V iL_law 724 [a0, a1, a2, a3, a4, a5, a6, a7, a8] (.int y :: .int x :: st) h z bc bs Kr Kx := q_iadd dL_law_724 kk
theorem dL_law_725 : decode (i_b iL_law) 725 = .ok (.iaload, 1) := by decide +kernel
theorem wL_law_725 {j : Nat} {i : Int32} (hi : i = nI j) (hj : j < e_sL V) (hn : e_sL V < 2147483648) (kk : QW V iL_law 726 [a0, a1, a2, a3, a4, a5, a6, a7, a8] (.int (e_xs V j) :: st) h z bc bs Kr Kx) : QW V iL_law 725 [a0, a1, a2, a3, a4, a5, a6, a7, a8] (.int i :: .ref (e_sb V) :: st) h z bc bs Kr Kx := q_sld dL_law_725 hi hj hn kk
theorem dL_law_726 : decode (i_b iL_law) 726 = .ok (.invokevirtual 179, 3) := by decide +kernel
theorem wL_law_726 {a : Nat} {fs : List Value} {x0 : Int32} {x1 : Int32} {x2 : Int32} {x3 : Int32} (hb : h a = some (.inr (10, fs))) (hm : QMi V iX9_trade [.ref a, .int x0, .int x1, .int x2, .int x3] h z (fun r h' z' => QW V iL_law 729 [a0, a1, a2, a3, a4, a5, a6, a7, a8] (.int r :: st) h' z' bc bs Kr Kx) Kx) (hW : (st.map fun v => v.category).sum ≤ 8 := by exact Nat.le_of_ble_eq_true rfl) : QW V iL_law 726 [a0, a1, a2, a3, a4, a5, a6, a7, a8] (.int x3 :: .int x2 :: .int x1 :: .int x0 :: .ref a :: st) h z bc bs Kr Kx := q_callV (y' := iX9_trade) (As := [.int x0, .int x1, .int x2, .int x3]) (rest := st) dL_law_726 k7_82 k7_83 k7_84 k1_10 hhX9_trade rfl hdX9_trade rfl rfl (Nat.le_of_ble_eq_true rfl) (Nat.le_of_ble_eq_true rfl) hW rfl hb (QMi.run hm)
theorem dL_law_729 : decode (i_b iL_law) 729 = .ok (.istore 7, 2) := by decide +kernel
theorem wL_law_729 {x : Int32} (kk : QW V iL_law 731 [a0, a1, a2, a3, a4, a5, a6, some (.int x), a8] (st) h z bc bs Kr Kx) (hp : q_n2 a6 = true := by rfl) : QW V iL_law 729 [a0, a1, a2, a3, a4, a5, a6, a7, a8] (.int x :: st) h z bc bs Kr Kx := q_istore dL_law_729 (Nat.le_of_ble_eq_true rfl) hp kk
theorem dL_law_731 : decode (i_b iL_law) 731 = .ok (.aload_n 2, 1) := by decide +kernel
theorem wL_law_731 {x : Nat} (kk : QW V iL_law 732 [a0, a1, some (.ref x), a3, a4, a5, a6, a7, a8] (.ref x :: st) h z bc bs Kr Kx) : QW V iL_law 731 [a0, a1, some (.ref x), a3, a4, a5, a6, a7, a8] (st) h z bc bs Kr Kx := q_aload_n dL_law_731 rfl rfl kk
theorem dL_law_732 : decode (i_b iL_law) 732 = .ok (.invokevirtual 150, 3) := by decide +kernel
theorem wL_law_732 {a : Nat} {fs : List Value}  (hb : h a = some (.inr (10, fs))) (hm : QMi V iX9_thrown [.ref a] h z (fun r h' z' => QW V iL_law 735 [a0, a1, a2, a3, a4, a5, a6, a7, a8] (.int r :: st) h' z' bc bs Kr Kx) Kx) (hW : (st.map fun v => v.category).sum ≤ 8 := by exact Nat.le_of_ble_eq_true rfl) : QW V iL_law 732 [a0, a1, a2, a3, a4, a5, a6, a7, a8] (.ref a :: st) h z bc bs Kr Kx := q_callV (y' := iX9_thrown) (As := []) (rest := st) dL_law_732 k6_80 k6_81 k6_82 k1_10 hhX9_thrown rfl hdX9_thrown rfl rfl (Nat.le_of_ble_eq_true rfl) (Nat.le_of_ble_eq_true rfl) hW rfl hb (QMi.run hm)
theorem dL_law_735 : decode (i_b iL_law) 735 = .ok (.iload 6, 2) := by decide +kernel
theorem wL_law_735 {x : Int32} (kk : QW V iL_law 737 [a0, a1, a2, a3, a4, a5, some (.int x), a7, a8] (.int x :: st) h z bc bs Kr Kx) : QW V iL_law 735 [a0, a1, a2, a3, a4, a5, some (.int x), a7, a8] (st) h z bc bs Kr Kx := q_iload dL_law_735 rfl kk
theorem dL_law_737 : decode (i_b iL_law) 737 = .ok (.if_icmp .eq 5, 3) := by decide +kernel
theorem wL_law_737 {x y : Int32} (kt : x = y → QW V iL_law 742 [a0, a1, a2, a3, a4, a5, a6, a7, a8] (st) h z bc bs Kr Kx) (kf : ¬ x = y → QW V iL_law 740 [a0, a1, a2, a3, a4, a5, a6, a7, a8] (st) h z bc bs Kr Kx) : QW V iL_law 737 [a0, a1, a2, a3, a4, a5, a6, a7, a8] (.int y :: .int x :: st) h z bc bs Kr Kx := q_icmp_eq dL_law_737 (by decide) kt kf
theorem dL_law_740 : decode (i_b iL_law) 740 = .ok (.iconst 0, 1) := by decide +kernel
theorem wL_law_740  (kk : QW V iL_law 741 [a0, a1, a2, a3, a4, a5, a6, a7, a8] (.int (0) :: st) h z bc bs Kr Kx) : QW V iL_law 740 [a0, a1, a2, a3, a4, a5, a6, a7, a8] (st) h z bc bs Kr Kx := q_iconst dL_law_740 (by decide) kk
theorem dL_law_741 : decode (i_b iL_law) 741 = .ok (.ireturn, 1) := by decide +kernel
theorem wL_law_741 {x : Int32} {P : Int32 → q_H → Option Nat → Prop} (hk : P x h z) (hn : narrow .boolean (.int x) = .int x := by first | rfl | exact q_b_n _) : QW V iL_law 741 [a0, a1, a2, a3, a4, a5, a6, a7, a8] [.int x] h z bc bs (q_Ki P) Kx := q_iret dL_law_741 rfl hn ⟨x, rfl, hk⟩
theorem dL_law_742 : decode (i_b iL_law) 742 = .ok (.iload 6, 2) := by decide +kernel
theorem wL_law_742 {x : Int32} (kk : QW V iL_law 744 [a0, a1, a2, a3, a4, a5, some (.int x), a7, a8] (.int x :: st) h z bc bs Kr Kx) : QW V iL_law 742 [a0, a1, a2, a3, a4, a5, some (.int x), a7, a8] (st) h z bc bs Kr Kx := q_iload dL_law_742 rfl kk
theorem dL_law_744 : decode (i_b iL_law) 744 = .ok (.ifCond .ne 15, 3) := by decide +kernel
theorem wL_law_744 {x : Int32} (kt : ¬ x = 0 → QW V iL_law 759 [a0, a1, a2, a3, a4, a5, a6, a7, a8] (st) h z bc bs Kr Kx) (kf : x = 0 → QW V iL_law 747 [a0, a1, a2, a3, a4, a5, a6, a7, a8] (st) h z bc bs Kr Kx) : QW V iL_law 744 [a0, a1, a2, a3, a4, a5, a6, a7, a8] (.int x :: st) h z bc bs Kr Kx := q_if_ne dL_law_744 (by decide) kt kf
theorem dL_law_747 : decode (i_b iL_law) 747 = .ok (.aload_n 3, 1) := by decide +kernel
theorem wL_law_747 {x : Nat} (kk : QW V iL_law 748 [a0, a1, a2, some (.ref x), a4, a5, a6, a7, a8] (.ref x :: st) h z bc bs Kr Kx) : QW V iL_law 747 [a0, a1, a2, some (.ref x), a4, a5, a6, a7, a8] (st) h z bc bs Kr Kx := q_aload_n dL_law_747 rfl rfl kk
theorem dL_law_748 : decode (i_b iL_law) 748 = .ok (.iconst 0, 1) := by decide +kernel
theorem wL_law_748  (kk : QW V iL_law 749 [a0, a1, a2, a3, a4, a5, a6, a7, a8] (.int (0) :: st) h z bc bs Kr Kx) : QW V iL_law 748 [a0, a1, a2, a3, a4, a5, a6, a7, a8] (st) h z bc bs Kr Kx := q_iconst dL_law_748 (by decide) kk
theorem dL_law_749 : decode (i_b iL_law) 749 = .ok (.laload, 1) := by decide +kernel
theorem wL_law_749 {a n j : Nat} {f : Nat → Int64} {i : Int32} (ha : h a = some (.inl (2, n, .inr (.inl f)))) (hi : i = nI j) (hj : j < n) (hn : n < 2147483648) (kk : QW V iL_law 750 [a0, a1, a2, a3, a4, a5, a6, a7, a8] (.long (f j) :: st) h z bc bs Kr Kx) : QW V iL_law 749 [a0, a1, a2, a3, a4, a5, a6, a7, a8] (.int i :: .ref a :: st) h z bc bs Kr Kx := q_lald dL_law_749 ha hi hj hn kk
theorem dL_law_750 : decode (i_b iL_law) 750 = .ok (.iload 7, 2) := by decide +kernel
theorem wL_law_750 {x : Int32} (kk : QW V iL_law 752 [a0, a1, a2, a3, a4, a5, a6, some (.int x), a8] (.int x :: st) h z bc bs Kr Kx) : QW V iL_law 750 [a0, a1, a2, a3, a4, a5, a6, some (.int x), a8] (st) h z bc bs Kr Kx := q_iload dL_law_750 rfl kk
theorem dL_law_752 : decode (i_b iL_law) 752 = .ok (.i2l, 1) := by decide +kernel
theorem wL_law_752 {x : Int32} (kk : QW V iL_law 753 [a0, a1, a2, a3, a4, a5, a6, a7, a8] (.long (x.toInt64) :: st) h z bc bs Kr Kx) : QW V iL_law 752 [a0, a1, a2, a3, a4, a5, a6, a7, a8] (.int x :: st) h z bc bs Kr Kx := q_i2l dL_law_752 kk
theorem dL_law_753 : decode (i_b iL_law) 753 = .ok (.lcmp, 1) := by decide +kernel
theorem dL_law_754 : decode (i_b iL_law) 754 = .ok (.ifCond .eq 5, 3) := by decide +kernel
theorem wL_law_753 {x y : Int64} (kt : x = y → QW V iL_law 759 [a0, a1, a2, a3, a4, a5, a6, a7, a8] (st) h z bc bs Kr Kx) (kf : ¬ x = y → QW V iL_law 757 [a0, a1, a2, a3, a4, a5, a6, a7, a8] (st) h z bc bs Kr Kx) : QW V iL_law 753 [a0, a1, a2, a3, a4, a5, a6, a7, a8] (.long y :: .long x :: st) h z bc bs Kr Kx := q_lcmp dL_law_753 (q_if_eq dL_law_754 (by decide) (fun q => kt ((q_lc_eq x y).mp q)) (fun q => kf (q_lcn_eq q)))
theorem dL_law_757 : decode (i_b iL_law) 757 = .ok (.iconst 0, 1) := by decide +kernel
theorem wL_law_757  (kk : QW V iL_law 758 [a0, a1, a2, a3, a4, a5, a6, a7, a8] (.int (0) :: st) h z bc bs Kr Kx) : QW V iL_law 757 [a0, a1, a2, a3, a4, a5, a6, a7, a8] (st) h z bc bs Kr Kx := q_iconst dL_law_757 (by decide) kk
theorem dL_law_758 : decode (i_b iL_law) 758 = .ok (.ireturn, 1) := by decide +kernel
theorem wL_law_758 {x : Int32} {P : Int32 → q_H → Option Nat → Prop} (hk : P x h z) (hn : narrow .boolean (.int x) = .int x := by first | rfl | exact q_b_n _) : QW V iL_law 758 [a0, a1, a2, a3, a4, a5, a6, a7, a8] [.int x] h z bc bs (q_Ki P) Kx := q_iret dL_law_758 rfl hn ⟨x, rfl, hk⟩
theorem dL_law_759 : decode (i_b iL_law) 759 = .ok (.goto 1992, 3) := by decide +kernel
theorem wL_law_759  (kk : QW V iL_law 2751 [a0, a1, a2, a3, a4, a5, a6, a7, a8] (st) h z bc bs Kr Kx) : QW V iL_law 759 [a0, a1, a2, a3, a4, a5, a6, a7, a8] (st) h z bc bs Kr Kx := q_goto dL_law_759 (by decide) kk
theorem dL_law_762 : decode (i_b iL_law) 762 = .ok (.aload_n 1, 1) := by decide +kernel
theorem wL_law_762 {x : Nat} (kk : QW V iL_law 763 [a0, some (.ref x), a2, a3, a4, a5, a6, a7, a8] (.ref x :: st) h z bc bs Kr Kx) : QW V iL_law 762 [a0, some (.ref x), a2, a3, a4, a5, a6, a7, a8] (st) h z bc bs Kr Kx := q_aload_n dL_law_762 rfl rfl kk
theorem dL_law_763 : decode (i_b iL_law) 763 = .ok (.aload_n 3, 1) := by decide +kernel
theorem wL_law_763 {x : Nat} (kk : QW V iL_law 764 [a0, a1, a2, some (.ref x), a4, a5, a6, a7, a8] (.ref x :: st) h z bc bs Kr Kx) : QW V iL_law 763 [a0, a1, a2, some (.ref x), a4, a5, a6, a7, a8] (st) h z bc bs Kr Kx := q_aload_n dL_law_763 rfl rfl kk
theorem dL_law_764 : decode (i_b iL_law) 764 = .ok (.invokestatic 180, 3) := by decide +kernel
theorem wL_law_764 {x0 : Nat} {x1 : Nat} (hm : QMi V iL_nextYear [.ref x0, .ref x1] h z (fun r h' z' => QW V iL_law 767 [a0, a1, a2, a3, a4, a5, a6, a7, a8] (.int r :: st) h' z' bc bs Kr Kx) Kx) (hW : (st.map fun v => v.category).sum ≤ 8 := by exact Nat.le_of_ble_eq_true rfl) : QW V iL_law 764 [a0, a1, a2, a3, a4, a5, a6, a7, a8] (.ref x1 :: .ref x0 :: st) h z (bc + 1) (bs + 6) Kr Kx := q_callSX (y' := iL_nextYear) (As := [.ref x0, .ref x1]) (rest := st) dL_law_764 k4_75 k4_76 k1_0 hhL_nextYear (by decide) hdL_nextYear rfl (Nat.le_of_ble_eq_true rfl) (Nat.le_of_ble_eq_true rfl) hW rfl (QMi.run hm)
theorem dL_law_767 : decode (i_b iL_law) 767 = .ok (.istore 6, 2) := by decide +kernel
theorem wL_law_767 {x : Int32} (kk : QW V iL_law 769 [a0, a1, a2, a3, a4, a5, some (.int x), a7, a8] (st) h z bc bs Kr Kx) (hp : q_n2 a5 = true := by rfl) : QW V iL_law 767 [a0, a1, a2, a3, a4, a5, a6, a7, a8] (.int x :: st) h z bc bs Kr Kx := q_istore dL_law_767 (Nat.le_of_ble_eq_true rfl) hp kk
theorem dL_law_769 : decode (i_b iL_law) 769 = .ok (.aload_n 2, 1) := by decide +kernel
theorem wL_law_769 {x : Nat} (kk : QW V iL_law 770 [a0, a1, some (.ref x), a3, a4, a5, a6, a7, a8] (.ref x :: st) h z bc bs Kr Kx) : QW V iL_law 769 [a0, a1, some (.ref x), a3, a4, a5, a6, a7, a8] (st) h z bc bs Kr Kx := q_aload_n dL_law_769 rfl rfl kk
theorem dL_law_770 : decode (i_b iL_law) 770 = .ok (.invokevirtual 183, 3) := by decide +kernel
theorem wL_law_770 {a : Nat} {fs : List Value}  (hb : h a = some (.inr (10, fs))) (hm : QMl V iX9_nextYear [.ref a] h z (fun r h' z' => QW V iL_law 773 [a0, a1, a2, a3, a4, a5, a6, a7, a8] (.long r :: st) h' z' bc bs Kr Kx) Kx) (hW : (st.map fun v => v.category).sum ≤ 8 := by exact Nat.le_of_ble_eq_true rfl) : QW V iL_law 770 [a0, a1, a2, a3, a4, a5, a6, a7, a8] (.ref a :: st) h z bc bs Kr Kx := q_callV (y' := iX9_nextYear) (As := []) (rest := st) dL_law_770 k7_124 k7_125 k7_126 k1_10 hhX9_nextYear rfl hdX9_nextYear rfl rfl (Nat.le_of_ble_eq_true rfl) (Nat.le_of_ble_eq_true rfl) hW rfl hb (QMl.run hm)
theorem dL_law_773 : decode (i_b iL_law) 773 = .ok (.lstore 7, 2) := by decide +kernel
theorem wL_law_773 {x : Int64} (kk : QW V iL_law 775 [a0, a1, a2, a3, a4, a5, a6, some (.long x), none] (st) h z bc bs Kr Kx) (hp : q_n2 a6 = true := by rfl) : QW V iL_law 773 [a0, a1, a2, a3, a4, a5, a6, a7, a8] (.long x :: st) h z bc bs Kr Kx := q_lstore dL_law_773 (Nat.le_of_ble_eq_true rfl) hp kk
theorem dL_law_775 : decode (i_b iL_law) 775 = .ok (.aload_n 2, 1) := by decide +kernel
theorem wL_law_775 {x : Nat} (kk : QW V iL_law 776 [a0, a1, some (.ref x), a3, a4, a5, a6, a7, a8] (.ref x :: st) h z bc bs Kr Kx) : QW V iL_law 775 [a0, a1, some (.ref x), a3, a4, a5, a6, a7, a8] (st) h z bc bs Kr Kx := q_aload_n dL_law_775 rfl rfl kk
theorem dL_law_776 : decode (i_b iL_law) 776 = .ok (.invokevirtual 150, 3) := by decide +kernel
theorem wL_law_776 {a : Nat} {fs : List Value}  (hb : h a = some (.inr (10, fs))) (hm : QMi V iX9_thrown [.ref a] h z (fun r h' z' => QW V iL_law 779 [a0, a1, a2, a3, a4, a5, a6, a7, a8] (.int r :: st) h' z' bc bs Kr Kx) Kx) (hW : (st.map fun v => v.category).sum ≤ 8 := by exact Nat.le_of_ble_eq_true rfl) : QW V iL_law 776 [a0, a1, a2, a3, a4, a5, a6, a7, a8] (.ref a :: st) h z bc bs Kr Kx := q_callV (y' := iX9_thrown) (As := []) (rest := st) dL_law_776 k6_80 k6_81 k6_82 k1_10 hhX9_thrown rfl hdX9_thrown rfl rfl (Nat.le_of_ble_eq_true rfl) (Nat.le_of_ble_eq_true rfl) hW rfl hb (QMi.run hm)
theorem dL_law_779 : decode (i_b iL_law) 779 = .ok (.iload 6, 2) := by decide +kernel
theorem wL_law_779 {x : Int32} (kk : QW V iL_law 781 [a0, a1, a2, a3, a4, a5, some (.int x), a7, a8] (.int x :: st) h z bc bs Kr Kx) : QW V iL_law 779 [a0, a1, a2, a3, a4, a5, some (.int x), a7, a8] (st) h z bc bs Kr Kx := q_iload dL_law_779 rfl kk
theorem dL_law_781 : decode (i_b iL_law) 781 = .ok (.if_icmp .eq 5, 3) := by decide +kernel
theorem wL_law_781 {x y : Int32} (kt : x = y → QW V iL_law 786 [a0, a1, a2, a3, a4, a5, a6, a7, a8] (st) h z bc bs Kr Kx) (kf : ¬ x = y → QW V iL_law 784 [a0, a1, a2, a3, a4, a5, a6, a7, a8] (st) h z bc bs Kr Kx) : QW V iL_law 781 [a0, a1, a2, a3, a4, a5, a6, a7, a8] (.int y :: .int x :: st) h z bc bs Kr Kx := q_icmp_eq dL_law_781 (by decide) kt kf
theorem dL_law_784 : decode (i_b iL_law) 784 = .ok (.iconst 0, 1) := by decide +kernel
theorem wL_law_784  (kk : QW V iL_law 785 [a0, a1, a2, a3, a4, a5, a6, a7, a8] (.int (0) :: st) h z bc bs Kr Kx) : QW V iL_law 784 [a0, a1, a2, a3, a4, a5, a6, a7, a8] (st) h z bc bs Kr Kx := q_iconst dL_law_784 (by decide) kk
theorem dL_law_785 : decode (i_b iL_law) 785 = .ok (.ireturn, 1) := by decide +kernel
theorem wL_law_785 {x : Int32} {P : Int32 → q_H → Option Nat → Prop} (hk : P x h z) (hn : narrow .boolean (.int x) = .int x := by first | rfl | exact q_b_n _) : QW V iL_law 785 [a0, a1, a2, a3, a4, a5, a6, a7, a8] [.int x] h z bc bs (q_Ki P) Kx := q_iret dL_law_785 rfl hn ⟨x, rfl, hk⟩
theorem dL_law_786 : decode (i_b iL_law) 786 = .ok (.iload 6, 2) := by decide +kernel
theorem wL_law_786 {x : Int32} (kk : QW V iL_law 788 [a0, a1, a2, a3, a4, a5, some (.int x), a7, a8] (.int x :: st) h z bc bs Kr Kx) : QW V iL_law 786 [a0, a1, a2, a3, a4, a5, some (.int x), a7, a8] (st) h z bc bs Kr Kx := q_iload dL_law_786 rfl kk
theorem dL_law_788 : decode (i_b iL_law) 788 = .ok (.ifCond .ne 14, 3) := by decide +kernel
theorem wL_law_788 {x : Int32} (kt : ¬ x = 0 → QW V iL_law 802 [a0, a1, a2, a3, a4, a5, a6, a7, a8] (st) h z bc bs Kr Kx) (kf : x = 0 → QW V iL_law 791 [a0, a1, a2, a3, a4, a5, a6, a7, a8] (st) h z bc bs Kr Kx) : QW V iL_law 788 [a0, a1, a2, a3, a4, a5, a6, a7, a8] (.int x :: st) h z bc bs Kr Kx := q_if_ne dL_law_788 (by decide) kt kf
theorem dL_law_791 : decode (i_b iL_law) 791 = .ok (.aload_n 3, 1) := by decide +kernel
theorem wL_law_791 {x : Nat} (kk : QW V iL_law 792 [a0, a1, a2, some (.ref x), a4, a5, a6, a7, a8] (.ref x :: st) h z bc bs Kr Kx) : QW V iL_law 791 [a0, a1, a2, some (.ref x), a4, a5, a6, a7, a8] (st) h z bc bs Kr Kx := q_aload_n dL_law_791 rfl rfl kk
theorem dL_law_792 : decode (i_b iL_law) 792 = .ok (.iconst 0, 1) := by decide +kernel
theorem wL_law_792  (kk : QW V iL_law 793 [a0, a1, a2, a3, a4, a5, a6, a7, a8] (.int (0) :: st) h z bc bs Kr Kx) : QW V iL_law 792 [a0, a1, a2, a3, a4, a5, a6, a7, a8] (st) h z bc bs Kr Kx := q_iconst dL_law_792 (by decide) kk
theorem dL_law_793 : decode (i_b iL_law) 793 = .ok (.laload, 1) := by decide +kernel
theorem wL_law_793 {a n j : Nat} {f : Nat → Int64} {i : Int32} (ha : h a = some (.inl (2, n, .inr (.inl f)))) (hi : i = nI j) (hj : j < n) (hn : n < 2147483648) (kk : QW V iL_law 794 [a0, a1, a2, a3, a4, a5, a6, a7, a8] (.long (f j) :: st) h z bc bs Kr Kx) : QW V iL_law 793 [a0, a1, a2, a3, a4, a5, a6, a7, a8] (.int i :: .ref a :: st) h z bc bs Kr Kx := q_lald dL_law_793 ha hi hj hn kk
theorem dL_law_794 : decode (i_b iL_law) 794 = .ok (.lload 7, 2) := by decide +kernel
theorem wL_law_794 {x : Int64} (kk : QW V iL_law 796 [a0, a1, a2, a3, a4, a5, a6, some (.long x), a8] (.long x :: st) h z bc bs Kr Kx) : QW V iL_law 794 [a0, a1, a2, a3, a4, a5, a6, some (.long x), a8] (st) h z bc bs Kr Kx := q_lload dL_law_794 rfl kk
theorem dL_law_796 : decode (i_b iL_law) 796 = .ok (.lcmp, 1) := by decide +kernel
theorem dL_law_797 : decode (i_b iL_law) 797 = .ok (.ifCond .eq 5, 3) := by decide +kernel
theorem wL_law_796 {x y : Int64} (kt : x = y → QW V iL_law 802 [a0, a1, a2, a3, a4, a5, a6, a7, a8] (st) h z bc bs Kr Kx) (kf : ¬ x = y → QW V iL_law 800 [a0, a1, a2, a3, a4, a5, a6, a7, a8] (st) h z bc bs Kr Kx) : QW V iL_law 796 [a0, a1, a2, a3, a4, a5, a6, a7, a8] (.long y :: .long x :: st) h z bc bs Kr Kx := q_lcmp dL_law_796 (q_if_eq dL_law_797 (by decide) (fun q => kt ((q_lc_eq x y).mp q)) (fun q => kf (q_lcn_eq q)))
theorem dL_law_800 : decode (i_b iL_law) 800 = .ok (.iconst 0, 1) := by decide +kernel
theorem wL_law_800  (kk : QW V iL_law 801 [a0, a1, a2, a3, a4, a5, a6, a7, a8] (.int (0) :: st) h z bc bs Kr Kx) : QW V iL_law 800 [a0, a1, a2, a3, a4, a5, a6, a7, a8] (st) h z bc bs Kr Kx := q_iconst dL_law_800 (by decide) kk
theorem dL_law_801 : decode (i_b iL_law) 801 = .ok (.ireturn, 1) := by decide +kernel
theorem wL_law_801 {x : Int32} {P : Int32 → q_H → Option Nat → Prop} (hk : P x h z) (hn : narrow .boolean (.int x) = .int x := by first | rfl | exact q_b_n _) : QW V iL_law 801 [a0, a1, a2, a3, a4, a5, a6, a7, a8] [.int x] h z bc bs (q_Ki P) Kx := q_iret dL_law_801 rfl hn ⟨x, rfl, hk⟩
theorem dL_law_802 : decode (i_b iL_law) 802 = .ok (.goto 1949, 3) := by decide +kernel
theorem wL_law_802  (kk : QW V iL_law 2751 [a0, a1, a2, a3, a4, a5, a6, a7, a8] (st) h z bc bs Kr Kx) : QW V iL_law 802 [a0, a1, a2, a3, a4, a5, a6, a7, a8] (st) h z bc bs Kr Kx := q_goto dL_law_802 (by decide) kk
theorem dL_law_805 : decode (i_b iL_law) 805 = .ok (.aload_n 1, 1) := by decide +kernel
theorem wL_law_805 {x : Nat} (kk : QW V iL_law 806 [a0, some (.ref x), a2, a3, a4, a5, a6, a7, a8] (.ref x :: st) h z bc bs Kr Kx) : QW V iL_law 805 [a0, some (.ref x), a2, a3, a4, a5, a6, a7, a8] (st) h z bc bs Kr Kx := q_aload_n dL_law_805 rfl rfl kk
theorem dL_law_806 : decode (i_b iL_law) 806 = .ok (.aload_n 3, 1) := by decide +kernel
theorem wL_law_806 {x : Nat} (kk : QW V iL_law 807 [a0, a1, a2, some (.ref x), a4, a5, a6, a7, a8] (.ref x :: st) h z bc bs Kr Kx) : QW V iL_law 806 [a0, a1, a2, some (.ref x), a4, a5, a6, a7, a8] (st) h z bc bs Kr Kx := q_aload_n dL_law_806 rfl rfl kk
theorem dL_law_807 : decode (i_b iL_law) 807 = .ok (.invokestatic 184, 3) := by decide +kernel
theorem wL_law_807 {x0 : Nat} {x1 : Nat} (hm : QMi V iL_year [.ref x0, .ref x1] h z (fun r h' z' => QW V iL_law 810 [a0, a1, a2, a3, a4, a5, a6, a7, a8] (.int r :: st) h' z' bc bs Kr Kx) Kx) (hW : (st.map fun v => v.category).sum ≤ 8 := by exact Nat.le_of_ble_eq_true rfl) : QW V iL_law 807 [a0, a1, a2, a3, a4, a5, a6, a7, a8] (.ref x1 :: .ref x0 :: st) h z (bc + 1) (bs + 6) Kr Kx := q_callSX (y' := iL_year) (As := [.ref x0, .ref x1]) (rest := st) dL_law_807 k4_119 k4_120 k1_0 hhL_year (by decide) hdL_year rfl (Nat.le_of_ble_eq_true rfl) (Nat.le_of_ble_eq_true rfl) hW rfl (QMi.run hm)
theorem dL_law_810 : decode (i_b iL_law) 810 = .ok (.istore 6, 2) := by decide +kernel
theorem wL_law_810 {x : Int32} (kk : QW V iL_law 812 [a0, a1, a2, a3, a4, a5, some (.int x), a7, a8] (st) h z bc bs Kr Kx) (hp : q_n2 a5 = true := by rfl) : QW V iL_law 810 [a0, a1, a2, a3, a4, a5, a6, a7, a8] (.int x :: st) h z bc bs Kr Kx := q_istore dL_law_810 (Nat.le_of_ble_eq_true rfl) hp kk
theorem dL_law_812 : decode (i_b iL_law) 812 = .ok (.aload_n 2, 1) := by decide +kernel
theorem wL_law_812 {x : Nat} (kk : QW V iL_law 813 [a0, a1, some (.ref x), a3, a4, a5, a6, a7, a8] (.ref x :: st) h z bc bs Kr Kx) : QW V iL_law 812 [a0, a1, some (.ref x), a3, a4, a5, a6, a7, a8] (st) h z bc bs Kr Kx := q_aload_n dL_law_812 rfl rfl kk
theorem dL_law_813 : decode (i_b iL_law) 813 = .ok (.invokevirtual 186, 3) := by decide +kernel
theorem wL_law_813 {a : Nat} {fs : List Value}  (hb : h a = some (.inr (10, fs))) (hm : QMi V iX9_year [.ref a] h z (fun r h' z' => QW V iL_law 816 [a0, a1, a2, a3, a4, a5, a6, a7, a8] (.int r :: st) h' z' bc bs Kr Kx) Kx) (hW : (st.map fun v => v.category).sum ≤ 8 := by exact Nat.le_of_ble_eq_true rfl) : QW V iL_law 813 [a0, a1, a2, a3, a4, a5, a6, a7, a8] (.ref a :: st) h z bc bs Kr Kx := q_callV (y' := iX9_year) (As := []) (rest := st) dL_law_813 k7_152 k7_153 k7_154 k1_10 hhX9_year rfl hdX9_year rfl rfl (Nat.le_of_ble_eq_true rfl) (Nat.le_of_ble_eq_true rfl) hW rfl hb (QMi.run hm)
theorem dL_law_816 : decode (i_b iL_law) 816 = .ok (.istore 7, 2) := by decide +kernel
theorem wL_law_816 {x : Int32} (kk : QW V iL_law 818 [a0, a1, a2, a3, a4, a5, a6, some (.int x), a8] (st) h z bc bs Kr Kx) (hp : q_n2 a6 = true := by rfl) : QW V iL_law 816 [a0, a1, a2, a3, a4, a5, a6, a7, a8] (.int x :: st) h z bc bs Kr Kx := q_istore dL_law_816 (Nat.le_of_ble_eq_true rfl) hp kk
theorem dL_law_818 : decode (i_b iL_law) 818 = .ok (.aload_n 2, 1) := by decide +kernel
theorem wL_law_818 {x : Nat} (kk : QW V iL_law 819 [a0, a1, some (.ref x), a3, a4, a5, a6, a7, a8] (.ref x :: st) h z bc bs Kr Kx) : QW V iL_law 818 [a0, a1, some (.ref x), a3, a4, a5, a6, a7, a8] (st) h z bc bs Kr Kx := q_aload_n dL_law_818 rfl rfl kk
theorem dL_law_819 : decode (i_b iL_law) 819 = .ok (.invokevirtual 150, 3) := by decide +kernel
theorem wL_law_819 {a : Nat} {fs : List Value}  (hb : h a = some (.inr (10, fs))) (hm : QMi V iX9_thrown [.ref a] h z (fun r h' z' => QW V iL_law 822 [a0, a1, a2, a3, a4, a5, a6, a7, a8] (.int r :: st) h' z' bc bs Kr Kx) Kx) (hW : (st.map fun v => v.category).sum ≤ 8 := by exact Nat.le_of_ble_eq_true rfl) : QW V iL_law 819 [a0, a1, a2, a3, a4, a5, a6, a7, a8] (.ref a :: st) h z bc bs Kr Kx := q_callV (y' := iX9_thrown) (As := []) (rest := st) dL_law_819 k6_80 k6_81 k6_82 k1_10 hhX9_thrown rfl hdX9_thrown rfl rfl (Nat.le_of_ble_eq_true rfl) (Nat.le_of_ble_eq_true rfl) hW rfl hb (QMi.run hm)
theorem dL_law_822 : decode (i_b iL_law) 822 = .ok (.iload 6, 2) := by decide +kernel
theorem wL_law_822 {x : Int32} (kk : QW V iL_law 824 [a0, a1, a2, a3, a4, a5, some (.int x), a7, a8] (.int x :: st) h z bc bs Kr Kx) : QW V iL_law 822 [a0, a1, a2, a3, a4, a5, some (.int x), a7, a8] (st) h z bc bs Kr Kx := q_iload dL_law_822 rfl kk
theorem dL_law_824 : decode (i_b iL_law) 824 = .ok (.if_icmp .eq 5, 3) := by decide +kernel
theorem wL_law_824 {x y : Int32} (kt : x = y → QW V iL_law 829 [a0, a1, a2, a3, a4, a5, a6, a7, a8] (st) h z bc bs Kr Kx) (kf : ¬ x = y → QW V iL_law 827 [a0, a1, a2, a3, a4, a5, a6, a7, a8] (st) h z bc bs Kr Kx) : QW V iL_law 824 [a0, a1, a2, a3, a4, a5, a6, a7, a8] (.int y :: .int x :: st) h z bc bs Kr Kx := q_icmp_eq dL_law_824 (by decide) kt kf
theorem dL_law_827 : decode (i_b iL_law) 827 = .ok (.iconst 0, 1) := by decide +kernel
theorem wL_law_827  (kk : QW V iL_law 828 [a0, a1, a2, a3, a4, a5, a6, a7, a8] (.int (0) :: st) h z bc bs Kr Kx) : QW V iL_law 827 [a0, a1, a2, a3, a4, a5, a6, a7, a8] (st) h z bc bs Kr Kx := q_iconst dL_law_827 (by decide) kk
theorem dL_law_828 : decode (i_b iL_law) 828 = .ok (.ireturn, 1) := by decide +kernel
theorem wL_law_828 {x : Int32} {P : Int32 → q_H → Option Nat → Prop} (hk : P x h z) (hn : narrow .boolean (.int x) = .int x := by first | rfl | exact q_b_n _) : QW V iL_law 828 [a0, a1, a2, a3, a4, a5, a6, a7, a8] [.int x] h z bc bs (q_Ki P) Kx := q_iret dL_law_828 rfl hn ⟨x, rfl, hk⟩
theorem dL_law_829 : decode (i_b iL_law) 829 = .ok (.iload 6, 2) := by decide +kernel
theorem wL_law_829 {x : Int32} (kk : QW V iL_law 831 [a0, a1, a2, a3, a4, a5, some (.int x), a7, a8] (.int x :: st) h z bc bs Kr Kx) : QW V iL_law 829 [a0, a1, a2, a3, a4, a5, some (.int x), a7, a8] (st) h z bc bs Kr Kx := q_iload dL_law_829 rfl kk
theorem dL_law_831 : decode (i_b iL_law) 831 = .ok (.ifCond .ne 15, 3) := by decide +kernel
theorem wL_law_831 {x : Int32} (kt : ¬ x = 0 → QW V iL_law 846 [a0, a1, a2, a3, a4, a5, a6, a7, a8] (st) h z bc bs Kr Kx) (kf : x = 0 → QW V iL_law 834 [a0, a1, a2, a3, a4, a5, a6, a7, a8] (st) h z bc bs Kr Kx) : QW V iL_law 831 [a0, a1, a2, a3, a4, a5, a6, a7, a8] (.int x :: st) h z bc bs Kr Kx := q_if_ne dL_law_831 (by decide) kt kf
theorem dL_law_834 : decode (i_b iL_law) 834 = .ok (.aload_n 3, 1) := by decide +kernel
theorem wL_law_834 {x : Nat} (kk : QW V iL_law 835 [a0, a1, a2, some (.ref x), a4, a5, a6, a7, a8] (.ref x :: st) h z bc bs Kr Kx) : QW V iL_law 834 [a0, a1, a2, some (.ref x), a4, a5, a6, a7, a8] (st) h z bc bs Kr Kx := q_aload_n dL_law_834 rfl rfl kk
theorem dL_law_835 : decode (i_b iL_law) 835 = .ok (.iconst 0, 1) := by decide +kernel
theorem wL_law_835  (kk : QW V iL_law 836 [a0, a1, a2, a3, a4, a5, a6, a7, a8] (.int (0) :: st) h z bc bs Kr Kx) : QW V iL_law 835 [a0, a1, a2, a3, a4, a5, a6, a7, a8] (st) h z bc bs Kr Kx := q_iconst dL_law_835 (by decide) kk
theorem dL_law_836 : decode (i_b iL_law) 836 = .ok (.laload, 1) := by decide +kernel
theorem wL_law_836 {a n j : Nat} {f : Nat → Int64} {i : Int32} (ha : h a = some (.inl (2, n, .inr (.inl f)))) (hi : i = nI j) (hj : j < n) (hn : n < 2147483648) (kk : QW V iL_law 837 [a0, a1, a2, a3, a4, a5, a6, a7, a8] (.long (f j) :: st) h z bc bs Kr Kx) : QW V iL_law 836 [a0, a1, a2, a3, a4, a5, a6, a7, a8] (.int i :: .ref a :: st) h z bc bs Kr Kx := q_lald dL_law_836 ha hi hj hn kk
theorem dL_law_837 : decode (i_b iL_law) 837 = .ok (.iload 7, 2) := by decide +kernel
theorem wL_law_837 {x : Int32} (kk : QW V iL_law 839 [a0, a1, a2, a3, a4, a5, a6, some (.int x), a8] (.int x :: st) h z bc bs Kr Kx) : QW V iL_law 837 [a0, a1, a2, a3, a4, a5, a6, some (.int x), a8] (st) h z bc bs Kr Kx := q_iload dL_law_837 rfl kk
theorem dL_law_839 : decode (i_b iL_law) 839 = .ok (.i2l, 1) := by decide +kernel
theorem wL_law_839 {x : Int32} (kk : QW V iL_law 840 [a0, a1, a2, a3, a4, a5, a6, a7, a8] (.long (x.toInt64) :: st) h z bc bs Kr Kx) : QW V iL_law 839 [a0, a1, a2, a3, a4, a5, a6, a7, a8] (.int x :: st) h z bc bs Kr Kx := q_i2l dL_law_839 kk
theorem dL_law_840 : decode (i_b iL_law) 840 = .ok (.lcmp, 1) := by decide +kernel
theorem dL_law_841 : decode (i_b iL_law) 841 = .ok (.ifCond .eq 5, 3) := by decide +kernel
theorem wL_law_840 {x y : Int64} (kt : x = y → QW V iL_law 846 [a0, a1, a2, a3, a4, a5, a6, a7, a8] (st) h z bc bs Kr Kx) (kf : ¬ x = y → QW V iL_law 844 [a0, a1, a2, a3, a4, a5, a6, a7, a8] (st) h z bc bs Kr Kx) : QW V iL_law 840 [a0, a1, a2, a3, a4, a5, a6, a7, a8] (.long y :: .long x :: st) h z bc bs Kr Kx := q_lcmp dL_law_840 (q_if_eq dL_law_841 (by decide) (fun q => kt ((q_lc_eq x y).mp q)) (fun q => kf (q_lcn_eq q)))
theorem dL_law_844 : decode (i_b iL_law) 844 = .ok (.iconst 0, 1) := by decide +kernel
theorem wL_law_844  (kk : QW V iL_law 845 [a0, a1, a2, a3, a4, a5, a6, a7, a8] (.int (0) :: st) h z bc bs Kr Kx) : QW V iL_law 844 [a0, a1, a2, a3, a4, a5, a6, a7, a8] (st) h z bc bs Kr Kx := q_iconst dL_law_844 (by decide) kk
theorem dL_law_845 : decode (i_b iL_law) 845 = .ok (.ireturn, 1) := by decide +kernel
theorem wL_law_845 {x : Int32} {P : Int32 → q_H → Option Nat → Prop} (hk : P x h z) (hn : narrow .boolean (.int x) = .int x := by first | rfl | exact q_b_n _) : QW V iL_law 845 [a0, a1, a2, a3, a4, a5, a6, a7, a8] [.int x] h z bc bs (q_Ki P) Kx := q_iret dL_law_845 rfl hn ⟨x, rfl, hk⟩
theorem dL_law_846 : decode (i_b iL_law) 846 = .ok (.goto 1905, 3) := by decide +kernel
theorem wL_law_846  (kk : QW V iL_law 2751 [a0, a1, a2, a3, a4, a5, a6, a7, a8] (st) h z bc bs Kr Kx) : QW V iL_law 846 [a0, a1, a2, a3, a4, a5, a6, a7, a8] (st) h z bc bs Kr Kx := q_goto dL_law_846 (by decide) kk
theorem dL_law_849 : decode (i_b iL_law) 849 = .ok (.aload_n 1, 1) := by decide +kernel
theorem wL_law_849 {x : Nat} (kk : QW V iL_law 850 [a0, some (.ref x), a2, a3, a4, a5, a6, a7, a8] (.ref x :: st) h z bc bs Kr Kx) : QW V iL_law 849 [a0, some (.ref x), a2, a3, a4, a5, a6, a7, a8] (st) h z bc bs Kr Kx := q_aload_n dL_law_849 rfl rfl kk
theorem dL_law_850 : decode (i_b iL_law) 850 = .ok (.aload_n 0, 1) := by decide +kernel
theorem wL_law_850 {x : Nat} (kk : QW V iL_law 851 [some (.ref x), a1, a2, a3, a4, a5, a6, a7, a8] (.ref x :: st) h z bc bs Kr Kx) : QW V iL_law 850 [some (.ref x), a1, a2, a3, a4, a5, a6, a7, a8] (st) h z bc bs Kr Kx := q_aload_n dL_law_850 rfl rfl kk
theorem dL_law_851 : decode (i_b iL_law) 851 = .ok (.iload 5, 2) := by decide +kernel
theorem wL_law_851 {x : Int32} (kk : QW V iL_law 853 [a0, a1, a2, a3, a4, some (.int x), a6, a7, a8] (.int x :: st) h z bc bs Kr Kx) : QW V iL_law 851 [a0, a1, a2, a3, a4, some (.int x), a6, a7, a8] (st) h z bc bs Kr Kx := q_iload dL_law_851 rfl kk
theorem dL_law_853 : decode (i_b iL_law) 853 = .ok (.iconst 1, 1) := by decide +kernel
theorem wL_law_853  (kk : QW V iL_law 854 [a0, a1, a2, a3, a4, a5, a6, a7, a8] (.int (1) :: st) h z bc bs Kr Kx) : QW V iL_law 853 [a0, a1, a2, a3, a4, a5, a6, a7, a8] (st) h z bc bs Kr Kx := q_iconst dL_law_853 (by decide) kk
theorem dL_law_854 : decode (i_b iL_law) 854 = .ok (.iadd, 1) := by decide +kernel
theorem wL_law_854 {x y : Int32} (kk : QW V iL_law 855 [a0, a1, a2, a3, a4, a5, a6, a7, a8] (.int (x + y) :: st) h z bc bs Kr Kx) : QW V iL_law 854 [a0, a1, a2, a3, a4, a5, a6, a7, a8] (.int y :: .int x :: st) h z bc bs Kr Kx := q_iadd dL_law_854 kk
theorem dL_law_855 : decode (i_b iL_law) 855 = .ok (.iaload, 1) := by decide +kernel
theorem wL_law_855 {j : Nat} {i : Int32} (hi : i = nI j) (hj : j < e_sL V) (hn : e_sL V < 2147483648) (kk : QW V iL_law 856 [a0, a1, a2, a3, a4, a5, a6, a7, a8] (.int (e_xs V j) :: st) h z bc bs Kr Kx) : QW V iL_law 855 [a0, a1, a2, a3, a4, a5, a6, a7, a8] (.int i :: .ref (e_sb V) :: st) h z bc bs Kr Kx := q_sld dL_law_855 hi hj hn kk
theorem dL_law_856 : decode (i_b iL_law) 856 = .ok (.aload_n 3, 1) := by decide +kernel
theorem wL_law_856 {x : Nat} (kk : QW V iL_law 857 [a0, a1, a2, some (.ref x), a4, a5, a6, a7, a8] (.ref x :: st) h z bc bs Kr Kx) : QW V iL_law 856 [a0, a1, a2, some (.ref x), a4, a5, a6, a7, a8] (st) h z bc bs Kr Kx := q_aload_n dL_law_856 rfl rfl kk
theorem dL_law_857 : decode (i_b iL_law) 857 = .ok (.invokestatic 187, 3) := by decide +kernel
theorem wL_law_857 {x0 : Nat} {x1 : Int32} {x2 : Nat} (hm : QMi V iL_cap [.ref x0, .int x1, .ref x2] h z (fun r h' z' => QW V iL_law 860 [a0, a1, a2, a3, a4, a5, a6, a7, a8] (.int r :: st) h' z' bc bs Kr Kx) Kx) (hW : (st.map fun v => v.category).sum ≤ 8 := by exact Nat.le_of_ble_eq_true rfl) : QW V iL_law 857 [a0, a1, a2, a3, a4, a5, a6, a7, a8] (.ref x2 :: .int x1 :: .ref x0 :: st) h z (bc + 2) (bs + 12) Kr Kx := q_callSX (y' := iL_cap) (As := [.ref x0, .int x1, .ref x2]) (rest := st) dL_law_857 k4_126 k4_127 k1_0 hhL_cap (by decide) hdL_cap rfl (Nat.le_of_ble_eq_true rfl) (Nat.le_of_ble_eq_true rfl) hW rfl (QMi.run hm)
theorem dL_law_860 : decode (i_b iL_law) 860 = .ok (.istore 6, 2) := by decide +kernel
theorem wL_law_860 {x : Int32} (kk : QW V iL_law 862 [a0, a1, a2, a3, a4, a5, some (.int x), a7, a8] (st) h z bc bs Kr Kx) (hp : q_n2 a5 = true := by rfl) : QW V iL_law 860 [a0, a1, a2, a3, a4, a5, a6, a7, a8] (.int x :: st) h z bc bs Kr Kx := q_istore dL_law_860 (Nat.le_of_ble_eq_true rfl) hp kk
theorem dL_law_862 : decode (i_b iL_law) 862 = .ok (.aload_n 2, 1) := by decide +kernel
theorem wL_law_862 {x : Nat} (kk : QW V iL_law 863 [a0, a1, some (.ref x), a3, a4, a5, a6, a7, a8] (.ref x :: st) h z bc bs Kr Kx) : QW V iL_law 862 [a0, a1, some (.ref x), a3, a4, a5, a6, a7, a8] (st) h z bc bs Kr Kx := q_aload_n dL_law_862 rfl rfl kk
theorem dL_law_863 : decode (i_b iL_law) 863 = .ok (.aload_n 0, 1) := by decide +kernel
theorem wL_law_863 {x : Nat} (kk : QW V iL_law 864 [some (.ref x), a1, a2, a3, a4, a5, a6, a7, a8] (.ref x :: st) h z bc bs Kr Kx) : QW V iL_law 863 [some (.ref x), a1, a2, a3, a4, a5, a6, a7, a8] (st) h z bc bs Kr Kx := q_aload_n dL_law_863 rfl rfl kk
theorem dL_law_864 : decode (i_b iL_law) 864 = .ok (.iload 5, 2) := by decide +kernel
theorem wL_law_864 {x : Int32} (kk : QW V iL_law 866 [a0, a1, a2, a3, a4, some (.int x), a6, a7, a8] (.int x :: st) h z bc bs Kr Kx) : QW V iL_law 864 [a0, a1, a2, a3, a4, some (.int x), a6, a7, a8] (st) h z bc bs Kr Kx := q_iload dL_law_864 rfl kk
theorem dL_law_866 : decode (i_b iL_law) 866 = .ok (.iconst 1, 1) := by decide +kernel
theorem wL_law_866  (kk : QW V iL_law 867 [a0, a1, a2, a3, a4, a5, a6, a7, a8] (.int (1) :: st) h z bc bs Kr Kx) : QW V iL_law 866 [a0, a1, a2, a3, a4, a5, a6, a7, a8] (st) h z bc bs Kr Kx := q_iconst dL_law_866 (by decide) kk
theorem dL_law_867 : decode (i_b iL_law) 867 = .ok (.iadd, 1) := by decide +kernel
theorem wL_law_867 {x y : Int32} (kk : QW V iL_law 868 [a0, a1, a2, a3, a4, a5, a6, a7, a8] (.int (x + y) :: st) h z bc bs Kr Kx) : QW V iL_law 867 [a0, a1, a2, a3, a4, a5, a6, a7, a8] (.int y :: .int x :: st) h z bc bs Kr Kx := q_iadd dL_law_867 kk
theorem dL_law_868 : decode (i_b iL_law) 868 = .ok (.iaload, 1) := by decide +kernel
theorem wL_law_868 {j : Nat} {i : Int32} (hi : i = nI j) (hj : j < e_sL V) (hn : e_sL V < 2147483648) (kk : QW V iL_law 869 [a0, a1, a2, a3, a4, a5, a6, a7, a8] (.int (e_xs V j) :: st) h z bc bs Kr Kx) : QW V iL_law 868 [a0, a1, a2, a3, a4, a5, a6, a7, a8] (.int i :: .ref (e_sb V) :: st) h z bc bs Kr Kx := q_sld dL_law_868 hi hj hn kk
theorem dL_law_869 : decode (i_b iL_law) 869 = .ok (.invokevirtual 189, 3) := by decide +kernel
theorem wL_law_869 {a : Nat} {fs : List Value} {x0 : Int32} (hb : h a = some (.inr (10, fs))) (hm : QMi V iX9_cap [.ref a, .int x0] h z (fun r h' z' => QW V iL_law 872 [a0, a1, a2, a3, a4, a5, a6, a7, a8] (.int r :: st) h' z' bc bs Kr Kx) Kx) (hW : (st.map fun v => v.category).sum ≤ 8 := by exact Nat.le_of_ble_eq_true rfl) : QW V iL_law 869 [a0, a1, a2, a3, a4, a5, a6, a7, a8] (.int x0 :: .ref a :: st) h z bc bs Kr Kx := q_callV (y' := iX9_cap) (As := [.int x0]) (rest := st) dL_law_869 k7_156 k7_157 k7_158 k1_10 hhX9_cap rfl hdX9_cap rfl rfl (Nat.le_of_ble_eq_true rfl) (Nat.le_of_ble_eq_true rfl) hW rfl hb (QMi.run hm)
theorem dL_law_872 : decode (i_b iL_law) 872 = .ok (.istore 7, 2) := by decide +kernel
theorem wL_law_872 {x : Int32} (kk : QW V iL_law 874 [a0, a1, a2, a3, a4, a5, a6, some (.int x), a8] (st) h z bc bs Kr Kx) (hp : q_n2 a6 = true := by rfl) : QW V iL_law 872 [a0, a1, a2, a3, a4, a5, a6, a7, a8] (.int x :: st) h z bc bs Kr Kx := q_istore dL_law_872 (Nat.le_of_ble_eq_true rfl) hp kk
theorem dL_law_874 : decode (i_b iL_law) 874 = .ok (.aload_n 2, 1) := by decide +kernel
theorem wL_law_874 {x : Nat} (kk : QW V iL_law 875 [a0, a1, some (.ref x), a3, a4, a5, a6, a7, a8] (.ref x :: st) h z bc bs Kr Kx) : QW V iL_law 874 [a0, a1, some (.ref x), a3, a4, a5, a6, a7, a8] (st) h z bc bs Kr Kx := q_aload_n dL_law_874 rfl rfl kk
theorem dL_law_875 : decode (i_b iL_law) 875 = .ok (.invokevirtual 150, 3) := by decide +kernel
theorem wL_law_875 {a : Nat} {fs : List Value}  (hb : h a = some (.inr (10, fs))) (hm : QMi V iX9_thrown [.ref a] h z (fun r h' z' => QW V iL_law 878 [a0, a1, a2, a3, a4, a5, a6, a7, a8] (.int r :: st) h' z' bc bs Kr Kx) Kx) (hW : (st.map fun v => v.category).sum ≤ 8 := by exact Nat.le_of_ble_eq_true rfl) : QW V iL_law 875 [a0, a1, a2, a3, a4, a5, a6, a7, a8] (.ref a :: st) h z bc bs Kr Kx := q_callV (y' := iX9_thrown) (As := []) (rest := st) dL_law_875 k6_80 k6_81 k6_82 k1_10 hhX9_thrown rfl hdX9_thrown rfl rfl (Nat.le_of_ble_eq_true rfl) (Nat.le_of_ble_eq_true rfl) hW rfl hb (QMi.run hm)
theorem dL_law_878 : decode (i_b iL_law) 878 = .ok (.iload 6, 2) := by decide +kernel
theorem wL_law_878 {x : Int32} (kk : QW V iL_law 880 [a0, a1, a2, a3, a4, a5, some (.int x), a7, a8] (.int x :: st) h z bc bs Kr Kx) : QW V iL_law 878 [a0, a1, a2, a3, a4, a5, some (.int x), a7, a8] (st) h z bc bs Kr Kx := q_iload dL_law_878 rfl kk
theorem dL_law_880 : decode (i_b iL_law) 880 = .ok (.if_icmp .eq 5, 3) := by decide +kernel
theorem wL_law_880 {x y : Int32} (kt : x = y → QW V iL_law 885 [a0, a1, a2, a3, a4, a5, a6, a7, a8] (st) h z bc bs Kr Kx) (kf : ¬ x = y → QW V iL_law 883 [a0, a1, a2, a3, a4, a5, a6, a7, a8] (st) h z bc bs Kr Kx) : QW V iL_law 880 [a0, a1, a2, a3, a4, a5, a6, a7, a8] (.int y :: .int x :: st) h z bc bs Kr Kx := q_icmp_eq dL_law_880 (by decide) kt kf
theorem dL_law_883 : decode (i_b iL_law) 883 = .ok (.iconst 0, 1) := by decide +kernel
theorem wL_law_883  (kk : QW V iL_law 884 [a0, a1, a2, a3, a4, a5, a6, a7, a8] (.int (0) :: st) h z bc bs Kr Kx) : QW V iL_law 883 [a0, a1, a2, a3, a4, a5, a6, a7, a8] (st) h z bc bs Kr Kx := q_iconst dL_law_883 (by decide) kk
theorem dL_law_884 : decode (i_b iL_law) 884 = .ok (.ireturn, 1) := by decide +kernel
theorem wL_law_884 {x : Int32} {P : Int32 → q_H → Option Nat → Prop} (hk : P x h z) (hn : narrow .boolean (.int x) = .int x := by first | rfl | exact q_b_n _) : QW V iL_law 884 [a0, a1, a2, a3, a4, a5, a6, a7, a8] [.int x] h z bc bs (q_Ki P) Kx := q_iret dL_law_884 rfl hn ⟨x, rfl, hk⟩
theorem dL_law_885 : decode (i_b iL_law) 885 = .ok (.iload 6, 2) := by decide +kernel
theorem wL_law_885 {x : Int32} (kk : QW V iL_law 887 [a0, a1, a2, a3, a4, a5, some (.int x), a7, a8] (.int x :: st) h z bc bs Kr Kx) : QW V iL_law 885 [a0, a1, a2, a3, a4, a5, some (.int x), a7, a8] (st) h z bc bs Kr Kx := q_iload dL_law_885 rfl kk
theorem dL_law_887 : decode (i_b iL_law) 887 = .ok (.ifCond .ne 15, 3) := by decide +kernel
theorem wL_law_887 {x : Int32} (kt : ¬ x = 0 → QW V iL_law 902 [a0, a1, a2, a3, a4, a5, a6, a7, a8] (st) h z bc bs Kr Kx) (kf : x = 0 → QW V iL_law 890 [a0, a1, a2, a3, a4, a5, a6, a7, a8] (st) h z bc bs Kr Kx) : QW V iL_law 887 [a0, a1, a2, a3, a4, a5, a6, a7, a8] (.int x :: st) h z bc bs Kr Kx := q_if_ne dL_law_887 (by decide) kt kf
theorem dL_law_890 : decode (i_b iL_law) 890 = .ok (.aload_n 3, 1) := by decide +kernel
theorem wL_law_890 {x : Nat} (kk : QW V iL_law 891 [a0, a1, a2, some (.ref x), a4, a5, a6, a7, a8] (.ref x :: st) h z bc bs Kr Kx) : QW V iL_law 890 [a0, a1, a2, some (.ref x), a4, a5, a6, a7, a8] (st) h z bc bs Kr Kx := q_aload_n dL_law_890 rfl rfl kk
theorem dL_law_891 : decode (i_b iL_law) 891 = .ok (.iconst 0, 1) := by decide +kernel
theorem wL_law_891  (kk : QW V iL_law 892 [a0, a1, a2, a3, a4, a5, a6, a7, a8] (.int (0) :: st) h z bc bs Kr Kx) : QW V iL_law 891 [a0, a1, a2, a3, a4, a5, a6, a7, a8] (st) h z bc bs Kr Kx := q_iconst dL_law_891 (by decide) kk
theorem dL_law_892 : decode (i_b iL_law) 892 = .ok (.laload, 1) := by decide +kernel
theorem wL_law_892 {a n j : Nat} {f : Nat → Int64} {i : Int32} (ha : h a = some (.inl (2, n, .inr (.inl f)))) (hi : i = nI j) (hj : j < n) (hn : n < 2147483648) (kk : QW V iL_law 893 [a0, a1, a2, a3, a4, a5, a6, a7, a8] (.long (f j) :: st) h z bc bs Kr Kx) : QW V iL_law 892 [a0, a1, a2, a3, a4, a5, a6, a7, a8] (.int i :: .ref a :: st) h z bc bs Kr Kx := q_lald dL_law_892 ha hi hj hn kk
theorem dL_law_893 : decode (i_b iL_law) 893 = .ok (.iload 7, 2) := by decide +kernel
theorem wL_law_893 {x : Int32} (kk : QW V iL_law 895 [a0, a1, a2, a3, a4, a5, a6, some (.int x), a8] (.int x :: st) h z bc bs Kr Kx) : QW V iL_law 893 [a0, a1, a2, a3, a4, a5, a6, some (.int x), a8] (st) h z bc bs Kr Kx := q_iload dL_law_893 rfl kk
theorem dL_law_895 : decode (i_b iL_law) 895 = .ok (.i2l, 1) := by decide +kernel
theorem wL_law_895 {x : Int32} (kk : QW V iL_law 896 [a0, a1, a2, a3, a4, a5, a6, a7, a8] (.long (x.toInt64) :: st) h z bc bs Kr Kx) : QW V iL_law 895 [a0, a1, a2, a3, a4, a5, a6, a7, a8] (.int x :: st) h z bc bs Kr Kx := q_i2l dL_law_895 kk
theorem dL_law_896 : decode (i_b iL_law) 896 = .ok (.lcmp, 1) := by decide +kernel
theorem dL_law_897 : decode (i_b iL_law) 897 = .ok (.ifCond .eq 5, 3) := by decide +kernel
theorem wL_law_896 {x y : Int64} (kt : x = y → QW V iL_law 902 [a0, a1, a2, a3, a4, a5, a6, a7, a8] (st) h z bc bs Kr Kx) (kf : ¬ x = y → QW V iL_law 900 [a0, a1, a2, a3, a4, a5, a6, a7, a8] (st) h z bc bs Kr Kx) : QW V iL_law 896 [a0, a1, a2, a3, a4, a5, a6, a7, a8] (.long y :: .long x :: st) h z bc bs Kr Kx := q_lcmp dL_law_896 (q_if_eq dL_law_897 (by decide) (fun q => kt ((q_lc_eq x y).mp q)) (fun q => kf (q_lcn_eq q)))
theorem dL_law_900 : decode (i_b iL_law) 900 = .ok (.iconst 0, 1) := by decide +kernel
theorem wL_law_900  (kk : QW V iL_law 901 [a0, a1, a2, a3, a4, a5, a6, a7, a8] (.int (0) :: st) h z bc bs Kr Kx) : QW V iL_law 900 [a0, a1, a2, a3, a4, a5, a6, a7, a8] (st) h z bc bs Kr Kx := q_iconst dL_law_900 (by decide) kk
theorem dL_law_901 : decode (i_b iL_law) 901 = .ok (.ireturn, 1) := by decide +kernel
theorem wL_law_901 {x : Int32} {P : Int32 → q_H → Option Nat → Prop} (hk : P x h z) (hn : narrow .boolean (.int x) = .int x := by first | rfl | exact q_b_n _) : QW V iL_law 901 [a0, a1, a2, a3, a4, a5, a6, a7, a8] [.int x] h z bc bs (q_Ki P) Kx := q_iret dL_law_901 rfl hn ⟨x, rfl, hk⟩
theorem dL_law_902 : decode (i_b iL_law) 902 = .ok (.goto 1849, 3) := by decide +kernel
theorem wL_law_902  (kk : QW V iL_law 2751 [a0, a1, a2, a3, a4, a5, a6, a7, a8] (st) h z bc bs Kr Kx) : QW V iL_law 902 [a0, a1, a2, a3, a4, a5, a6, a7, a8] (st) h z bc bs Kr Kx := q_goto dL_law_902 (by decide) kk
theorem dL_law_905 : decode (i_b iL_law) 905 = .ok (.aload_n 1, 1) := by decide +kernel
theorem wL_law_905 {x : Nat} (kk : QW V iL_law 906 [a0, some (.ref x), a2, a3, a4, a5, a6, a7, a8] (.ref x :: st) h z bc bs Kr Kx) : QW V iL_law 905 [a0, some (.ref x), a2, a3, a4, a5, a6, a7, a8] (st) h z bc bs Kr Kx := q_aload_n dL_law_905 rfl rfl kk
theorem dL_law_906 : decode (i_b iL_law) 906 = .ok (.aload_n 0, 1) := by decide +kernel
theorem wL_law_906 {x : Nat} (kk : QW V iL_law 907 [some (.ref x), a1, a2, a3, a4, a5, a6, a7, a8] (.ref x :: st) h z bc bs Kr Kx) : QW V iL_law 906 [some (.ref x), a1, a2, a3, a4, a5, a6, a7, a8] (st) h z bc bs Kr Kx := q_aload_n dL_law_906 rfl rfl kk
theorem dL_law_907 : decode (i_b iL_law) 907 = .ok (.iload 5, 2) := by decide +kernel
theorem wL_law_907 {x : Int32} (kk : QW V iL_law 909 [a0, a1, a2, a3, a4, some (.int x), a6, a7, a8] (.int x :: st) h z bc bs Kr Kx) : QW V iL_law 907 [a0, a1, a2, a3, a4, some (.int x), a6, a7, a8] (st) h z bc bs Kr Kx := q_iload dL_law_907 rfl kk
theorem dL_law_909 : decode (i_b iL_law) 909 = .ok (.iconst 1, 1) := by decide +kernel
theorem wL_law_909  (kk : QW V iL_law 910 [a0, a1, a2, a3, a4, a5, a6, a7, a8] (.int (1) :: st) h z bc bs Kr Kx) : QW V iL_law 909 [a0, a1, a2, a3, a4, a5, a6, a7, a8] (st) h z bc bs Kr Kx := q_iconst dL_law_909 (by decide) kk
theorem dL_law_910 : decode (i_b iL_law) 910 = .ok (.iadd, 1) := by decide +kernel
theorem wL_law_910 {x y : Int32} (kk : QW V iL_law 911 [a0, a1, a2, a3, a4, a5, a6, a7, a8] (.int (x + y) :: st) h z bc bs Kr Kx) : QW V iL_law 910 [a0, a1, a2, a3, a4, a5, a6, a7, a8] (.int y :: .int x :: st) h z bc bs Kr Kx := q_iadd dL_law_910 kk
theorem dL_law_911 : decode (i_b iL_law) 911 = .ok (.iaload, 1) := by decide +kernel
theorem wL_law_911 {j : Nat} {i : Int32} (hi : i = nI j) (hj : j < e_sL V) (hn : e_sL V < 2147483648) (kk : QW V iL_law 912 [a0, a1, a2, a3, a4, a5, a6, a7, a8] (.int (e_xs V j) :: st) h z bc bs Kr Kx) : QW V iL_law 911 [a0, a1, a2, a3, a4, a5, a6, a7, a8] (.int i :: .ref (e_sb V) :: st) h z bc bs Kr Kx := q_sld dL_law_911 hi hj hn kk
theorem dL_law_912 : decode (i_b iL_law) 912 = .ok (.aload_n 3, 1) := by decide +kernel
theorem wL_law_912 {x : Nat} (kk : QW V iL_law 913 [a0, a1, a2, some (.ref x), a4, a5, a6, a7, a8] (.ref x :: st) h z bc bs Kr Kx) : QW V iL_law 912 [a0, a1, a2, some (.ref x), a4, a5, a6, a7, a8] (st) h z bc bs Kr Kx := q_aload_n dL_law_912 rfl rfl kk
theorem dL_law_913 : decode (i_b iL_law) 913 = .ok (.invokestatic 190, 3) := by decide +kernel
theorem wL_law_913 {x0 : Nat} {x1 : Int32} {x2 : Nat} (hm : QMi V iL_taxLine [.ref x0, .int x1, .ref x2] h z (fun r h' z' => QW V iL_law 916 [a0, a1, a2, a3, a4, a5, a6, a7, a8] (.int r :: st) h' z' bc bs Kr Kx) Kx) (hW : (st.map fun v => v.category).sum ≤ 8 := by exact Nat.le_of_ble_eq_true rfl) : QW V iL_law 913 [a0, a1, a2, a3, a4, a5, a6, a7, a8] (.ref x2 :: .int x1 :: .ref x0 :: st) h z (bc + 2) (bs + 12) Kr Kx := q_callSX (y' := iL_taxLine) (As := [.ref x0, .int x1, .ref x2]) (rest := st) dL_law_913 k4_133 k4_134 k1_0 hhL_taxLine (by decide) hdL_taxLine rfl (Nat.le_of_ble_eq_true rfl) (Nat.le_of_ble_eq_true rfl) hW rfl (QMi.run hm)
theorem dL_law_916 : decode (i_b iL_law) 916 = .ok (.istore 6, 2) := by decide +kernel
theorem wL_law_916 {x : Int32} (kk : QW V iL_law 918 [a0, a1, a2, a3, a4, a5, some (.int x), a7, a8] (st) h z bc bs Kr Kx) (hp : q_n2 a5 = true := by rfl) : QW V iL_law 916 [a0, a1, a2, a3, a4, a5, a6, a7, a8] (.int x :: st) h z bc bs Kr Kx := q_istore dL_law_916 (Nat.le_of_ble_eq_true rfl) hp kk
theorem dL_law_918 : decode (i_b iL_law) 918 = .ok (.aload_n 2, 1) := by decide +kernel
theorem wL_law_918 {x : Nat} (kk : QW V iL_law 919 [a0, a1, some (.ref x), a3, a4, a5, a6, a7, a8] (.ref x :: st) h z bc bs Kr Kx) : QW V iL_law 918 [a0, a1, some (.ref x), a3, a4, a5, a6, a7, a8] (st) h z bc bs Kr Kx := q_aload_n dL_law_918 rfl rfl kk
theorem dL_law_919 : decode (i_b iL_law) 919 = .ok (.aload_n 0, 1) := by decide +kernel
theorem wL_law_919 {x : Nat} (kk : QW V iL_law 920 [some (.ref x), a1, a2, a3, a4, a5, a6, a7, a8] (.ref x :: st) h z bc bs Kr Kx) : QW V iL_law 919 [some (.ref x), a1, a2, a3, a4, a5, a6, a7, a8] (st) h z bc bs Kr Kx := q_aload_n dL_law_919 rfl rfl kk
theorem dL_law_920 : decode (i_b iL_law) 920 = .ok (.iload 5, 2) := by decide +kernel
theorem wL_law_920 {x : Int32} (kk : QW V iL_law 922 [a0, a1, a2, a3, a4, some (.int x), a6, a7, a8] (.int x :: st) h z bc bs Kr Kx) : QW V iL_law 920 [a0, a1, a2, a3, a4, some (.int x), a6, a7, a8] (st) h z bc bs Kr Kx := q_iload dL_law_920 rfl kk
theorem dL_law_922 : decode (i_b iL_law) 922 = .ok (.iconst 1, 1) := by decide +kernel
theorem wL_law_922  (kk : QW V iL_law 923 [a0, a1, a2, a3, a4, a5, a6, a7, a8] (.int (1) :: st) h z bc bs Kr Kx) : QW V iL_law 922 [a0, a1, a2, a3, a4, a5, a6, a7, a8] (st) h z bc bs Kr Kx := q_iconst dL_law_922 (by decide) kk
theorem dL_law_923 : decode (i_b iL_law) 923 = .ok (.iadd, 1) := by decide +kernel
theorem wL_law_923 {x y : Int32} (kk : QW V iL_law 924 [a0, a1, a2, a3, a4, a5, a6, a7, a8] (.int (x + y) :: st) h z bc bs Kr Kx) : QW V iL_law 923 [a0, a1, a2, a3, a4, a5, a6, a7, a8] (.int y :: .int x :: st) h z bc bs Kr Kx := q_iadd dL_law_923 kk
theorem dL_law_924 : decode (i_b iL_law) 924 = .ok (.iaload, 1) := by decide +kernel
theorem wL_law_924 {j : Nat} {i : Int32} (hi : i = nI j) (hj : j < e_sL V) (hn : e_sL V < 2147483648) (kk : QW V iL_law 925 [a0, a1, a2, a3, a4, a5, a6, a7, a8] (.int (e_xs V j) :: st) h z bc bs Kr Kx) : QW V iL_law 924 [a0, a1, a2, a3, a4, a5, a6, a7, a8] (.int i :: .ref (e_sb V) :: st) h z bc bs Kr Kx := q_sld dL_law_924 hi hj hn kk
theorem dL_law_925 : decode (i_b iL_law) 925 = .ok (.invokevirtual 192, 3) := by decide +kernel
theorem wL_law_925 {a : Nat} {fs : List Value} {x0 : Int32} (hb : h a = some (.inr (10, fs))) (hm : QMi V iX9_taxLine [.ref a, .int x0] h z (fun r h' z' => QW V iL_law 928 [a0, a1, a2, a3, a4, a5, a6, a7, a8] (.int r :: st) h' z' bc bs Kr Kx) Kx) (hW : (st.map fun v => v.category).sum ≤ 8 := by exact Nat.le_of_ble_eq_true rfl) : QW V iL_law 925 [a0, a1, a2, a3, a4, a5, a6, a7, a8] (.int x0 :: .ref a :: st) h z bc bs Kr Kx := q_callV (y' := iX9_taxLine) (As := [.int x0]) (rest := st) dL_law_925 k7_164 k7_165 k7_166 k1_10 hhX9_taxLine rfl hdX9_taxLine rfl rfl (Nat.le_of_ble_eq_true rfl) (Nat.le_of_ble_eq_true rfl) hW rfl hb (QMi.run hm)
theorem dL_law_928 : decode (i_b iL_law) 928 = .ok (.istore 7, 2) := by decide +kernel
theorem wL_law_928 {x : Int32} (kk : QW V iL_law 930 [a0, a1, a2, a3, a4, a5, a6, some (.int x), a8] (st) h z bc bs Kr Kx) (hp : q_n2 a6 = true := by rfl) : QW V iL_law 928 [a0, a1, a2, a3, a4, a5, a6, a7, a8] (.int x :: st) h z bc bs Kr Kx := q_istore dL_law_928 (Nat.le_of_ble_eq_true rfl) hp kk
theorem dL_law_930 : decode (i_b iL_law) 930 = .ok (.aload_n 2, 1) := by decide +kernel
theorem wL_law_930 {x : Nat} (kk : QW V iL_law 931 [a0, a1, some (.ref x), a3, a4, a5, a6, a7, a8] (.ref x :: st) h z bc bs Kr Kx) : QW V iL_law 930 [a0, a1, some (.ref x), a3, a4, a5, a6, a7, a8] (st) h z bc bs Kr Kx := q_aload_n dL_law_930 rfl rfl kk
theorem dL_law_931 : decode (i_b iL_law) 931 = .ok (.invokevirtual 150, 3) := by decide +kernel
theorem wL_law_931 {a : Nat} {fs : List Value}  (hb : h a = some (.inr (10, fs))) (hm : QMi V iX9_thrown [.ref a] h z (fun r h' z' => QW V iL_law 934 [a0, a1, a2, a3, a4, a5, a6, a7, a8] (.int r :: st) h' z' bc bs Kr Kx) Kx) (hW : (st.map fun v => v.category).sum ≤ 8 := by exact Nat.le_of_ble_eq_true rfl) : QW V iL_law 931 [a0, a1, a2, a3, a4, a5, a6, a7, a8] (.ref a :: st) h z bc bs Kr Kx := q_callV (y' := iX9_thrown) (As := []) (rest := st) dL_law_931 k6_80 k6_81 k6_82 k1_10 hhX9_thrown rfl hdX9_thrown rfl rfl (Nat.le_of_ble_eq_true rfl) (Nat.le_of_ble_eq_true rfl) hW rfl hb (QMi.run hm)
theorem dL_law_934 : decode (i_b iL_law) 934 = .ok (.iload 6, 2) := by decide +kernel
theorem wL_law_934 {x : Int32} (kk : QW V iL_law 936 [a0, a1, a2, a3, a4, a5, some (.int x), a7, a8] (.int x :: st) h z bc bs Kr Kx) : QW V iL_law 934 [a0, a1, a2, a3, a4, a5, some (.int x), a7, a8] (st) h z bc bs Kr Kx := q_iload dL_law_934 rfl kk
theorem dL_law_936 : decode (i_b iL_law) 936 = .ok (.if_icmp .eq 5, 3) := by decide +kernel
theorem wL_law_936 {x y : Int32} (kt : x = y → QW V iL_law 941 [a0, a1, a2, a3, a4, a5, a6, a7, a8] (st) h z bc bs Kr Kx) (kf : ¬ x = y → QW V iL_law 939 [a0, a1, a2, a3, a4, a5, a6, a7, a8] (st) h z bc bs Kr Kx) : QW V iL_law 936 [a0, a1, a2, a3, a4, a5, a6, a7, a8] (.int y :: .int x :: st) h z bc bs Kr Kx := q_icmp_eq dL_law_936 (by decide) kt kf
theorem dL_law_939 : decode (i_b iL_law) 939 = .ok (.iconst 0, 1) := by decide +kernel
theorem wL_law_939  (kk : QW V iL_law 940 [a0, a1, a2, a3, a4, a5, a6, a7, a8] (.int (0) :: st) h z bc bs Kr Kx) : QW V iL_law 939 [a0, a1, a2, a3, a4, a5, a6, a7, a8] (st) h z bc bs Kr Kx := q_iconst dL_law_939 (by decide) kk
theorem dL_law_940 : decode (i_b iL_law) 940 = .ok (.ireturn, 1) := by decide +kernel
theorem wL_law_940 {x : Int32} {P : Int32 → q_H → Option Nat → Prop} (hk : P x h z) (hn : narrow .boolean (.int x) = .int x := by first | rfl | exact q_b_n _) : QW V iL_law 940 [a0, a1, a2, a3, a4, a5, a6, a7, a8] [.int x] h z bc bs (q_Ki P) Kx := q_iret dL_law_940 rfl hn ⟨x, rfl, hk⟩
theorem dL_law_941 : decode (i_b iL_law) 941 = .ok (.iload 6, 2) := by decide +kernel
theorem wL_law_941 {x : Int32} (kk : QW V iL_law 943 [a0, a1, a2, a3, a4, a5, some (.int x), a7, a8] (.int x :: st) h z bc bs Kr Kx) : QW V iL_law 941 [a0, a1, a2, a3, a4, a5, some (.int x), a7, a8] (st) h z bc bs Kr Kx := q_iload dL_law_941 rfl kk
theorem dL_law_943 : decode (i_b iL_law) 943 = .ok (.ifCond .ne 15, 3) := by decide +kernel
theorem wL_law_943 {x : Int32} (kt : ¬ x = 0 → QW V iL_law 958 [a0, a1, a2, a3, a4, a5, a6, a7, a8] (st) h z bc bs Kr Kx) (kf : x = 0 → QW V iL_law 946 [a0, a1, a2, a3, a4, a5, a6, a7, a8] (st) h z bc bs Kr Kx) : QW V iL_law 943 [a0, a1, a2, a3, a4, a5, a6, a7, a8] (.int x :: st) h z bc bs Kr Kx := q_if_ne dL_law_943 (by decide) kt kf
theorem dL_law_946 : decode (i_b iL_law) 946 = .ok (.aload_n 3, 1) := by decide +kernel
theorem wL_law_946 {x : Nat} (kk : QW V iL_law 947 [a0, a1, a2, some (.ref x), a4, a5, a6, a7, a8] (.ref x :: st) h z bc bs Kr Kx) : QW V iL_law 946 [a0, a1, a2, some (.ref x), a4, a5, a6, a7, a8] (st) h z bc bs Kr Kx := q_aload_n dL_law_946 rfl rfl kk
theorem dL_law_947 : decode (i_b iL_law) 947 = .ok (.iconst 0, 1) := by decide +kernel
theorem wL_law_947  (kk : QW V iL_law 948 [a0, a1, a2, a3, a4, a5, a6, a7, a8] (.int (0) :: st) h z bc bs Kr Kx) : QW V iL_law 947 [a0, a1, a2, a3, a4, a5, a6, a7, a8] (st) h z bc bs Kr Kx := q_iconst dL_law_947 (by decide) kk
theorem dL_law_948 : decode (i_b iL_law) 948 = .ok (.laload, 1) := by decide +kernel
theorem wL_law_948 {a n j : Nat} {f : Nat → Int64} {i : Int32} (ha : h a = some (.inl (2, n, .inr (.inl f)))) (hi : i = nI j) (hj : j < n) (hn : n < 2147483648) (kk : QW V iL_law 949 [a0, a1, a2, a3, a4, a5, a6, a7, a8] (.long (f j) :: st) h z bc bs Kr Kx) : QW V iL_law 948 [a0, a1, a2, a3, a4, a5, a6, a7, a8] (.int i :: .ref a :: st) h z bc bs Kr Kx := q_lald dL_law_948 ha hi hj hn kk
theorem dL_law_949 : decode (i_b iL_law) 949 = .ok (.iload 7, 2) := by decide +kernel
theorem wL_law_949 {x : Int32} (kk : QW V iL_law 951 [a0, a1, a2, a3, a4, a5, a6, some (.int x), a8] (.int x :: st) h z bc bs Kr Kx) : QW V iL_law 949 [a0, a1, a2, a3, a4, a5, a6, some (.int x), a8] (st) h z bc bs Kr Kx := q_iload dL_law_949 rfl kk
theorem dL_law_951 : decode (i_b iL_law) 951 = .ok (.i2l, 1) := by decide +kernel
theorem wL_law_951 {x : Int32} (kk : QW V iL_law 952 [a0, a1, a2, a3, a4, a5, a6, a7, a8] (.long (x.toInt64) :: st) h z bc bs Kr Kx) : QW V iL_law 951 [a0, a1, a2, a3, a4, a5, a6, a7, a8] (.int x :: st) h z bc bs Kr Kx := q_i2l dL_law_951 kk
theorem dL_law_952 : decode (i_b iL_law) 952 = .ok (.lcmp, 1) := by decide +kernel
theorem dL_law_953 : decode (i_b iL_law) 953 = .ok (.ifCond .eq 5, 3) := by decide +kernel
theorem wL_law_952 {x y : Int64} (kt : x = y → QW V iL_law 958 [a0, a1, a2, a3, a4, a5, a6, a7, a8] (st) h z bc bs Kr Kx) (kf : ¬ x = y → QW V iL_law 956 [a0, a1, a2, a3, a4, a5, a6, a7, a8] (st) h z bc bs Kr Kx) : QW V iL_law 952 [a0, a1, a2, a3, a4, a5, a6, a7, a8] (.long y :: .long x :: st) h z bc bs Kr Kx := q_lcmp dL_law_952 (q_if_eq dL_law_953 (by decide) (fun q => kt ((q_lc_eq x y).mp q)) (fun q => kf (q_lcn_eq q)))
theorem dL_law_956 : decode (i_b iL_law) 956 = .ok (.iconst 0, 1) := by decide +kernel
theorem wL_law_956  (kk : QW V iL_law 957 [a0, a1, a2, a3, a4, a5, a6, a7, a8] (.int (0) :: st) h z bc bs Kr Kx) : QW V iL_law 956 [a0, a1, a2, a3, a4, a5, a6, a7, a8] (st) h z bc bs Kr Kx := q_iconst dL_law_956 (by decide) kk
theorem dL_law_957 : decode (i_b iL_law) 957 = .ok (.ireturn, 1) := by decide +kernel
theorem wL_law_957 {x : Int32} {P : Int32 → q_H → Option Nat → Prop} (hk : P x h z) (hn : narrow .boolean (.int x) = .int x := by first | rfl | exact q_b_n _) : QW V iL_law 957 [a0, a1, a2, a3, a4, a5, a6, a7, a8] [.int x] h z bc bs (q_Ki P) Kx := q_iret dL_law_957 rfl hn ⟨x, rfl, hk⟩
theorem dL_law_958 : decode (i_b iL_law) 958 = .ok (.goto 1793, 3) := by decide +kernel
theorem wL_law_958  (kk : QW V iL_law 2751 [a0, a1, a2, a3, a4, a5, a6, a7, a8] (st) h z bc bs Kr Kx) : QW V iL_law 958 [a0, a1, a2, a3, a4, a5, a6, a7, a8] (st) h z bc bs Kr Kx := q_goto dL_law_958 (by decide) kk
theorem dL_law_961 : decode (i_b iL_law) 961 = .ok (.aload_n 1, 1) := by decide +kernel
theorem wL_law_961 {x : Nat} (kk : QW V iL_law 962 [a0, some (.ref x), a2, a3, a4, a5, a6, a7, a8] (.ref x :: st) h z bc bs Kr Kx) : QW V iL_law 961 [a0, some (.ref x), a2, a3, a4, a5, a6, a7, a8] (st) h z bc bs Kr Kx := q_aload_n dL_law_961 rfl rfl kk
theorem dL_law_962 : decode (i_b iL_law) 962 = .ok (.aload_n 0, 1) := by decide +kernel
theorem wL_law_962 {x : Nat} (kk : QW V iL_law 963 [some (.ref x), a1, a2, a3, a4, a5, a6, a7, a8] (.ref x :: st) h z bc bs Kr Kx) : QW V iL_law 962 [some (.ref x), a1, a2, a3, a4, a5, a6, a7, a8] (st) h z bc bs Kr Kx := q_aload_n dL_law_962 rfl rfl kk
theorem dL_law_963 : decode (i_b iL_law) 963 = .ok (.iload 5, 2) := by decide +kernel
theorem wL_law_963 {x : Int32} (kk : QW V iL_law 965 [a0, a1, a2, a3, a4, some (.int x), a6, a7, a8] (.int x :: st) h z bc bs Kr Kx) : QW V iL_law 963 [a0, a1, a2, a3, a4, some (.int x), a6, a7, a8] (st) h z bc bs Kr Kx := q_iload dL_law_963 rfl kk
theorem dL_law_965 : decode (i_b iL_law) 965 = .ok (.iconst 1, 1) := by decide +kernel
theorem wL_law_965  (kk : QW V iL_law 966 [a0, a1, a2, a3, a4, a5, a6, a7, a8] (.int (1) :: st) h z bc bs Kr Kx) : QW V iL_law 965 [a0, a1, a2, a3, a4, a5, a6, a7, a8] (st) h z bc bs Kr Kx := q_iconst dL_law_965 (by decide) kk
theorem dL_law_966 : decode (i_b iL_law) 966 = .ok (.iadd, 1) := by decide +kernel
theorem wL_law_966 {x y : Int32} (kk : QW V iL_law 967 [a0, a1, a2, a3, a4, a5, a6, a7, a8] (.int (x + y) :: st) h z bc bs Kr Kx) : QW V iL_law 966 [a0, a1, a2, a3, a4, a5, a6, a7, a8] (.int y :: .int x :: st) h z bc bs Kr Kx := q_iadd dL_law_966 kk
theorem dL_law_967 : decode (i_b iL_law) 967 = .ok (.iaload, 1) := by decide +kernel
theorem wL_law_967 {j : Nat} {i : Int32} (hi : i = nI j) (hj : j < e_sL V) (hn : e_sL V < 2147483648) (kk : QW V iL_law 968 [a0, a1, a2, a3, a4, a5, a6, a7, a8] (.int (e_xs V j) :: st) h z bc bs Kr Kx) : QW V iL_law 967 [a0, a1, a2, a3, a4, a5, a6, a7, a8] (.int i :: .ref (e_sb V) :: st) h z bc bs Kr Kx := q_sld dL_law_967 hi hj hn kk
theorem dL_law_968 : decode (i_b iL_law) 968 = .ok (.aload_n 3, 1) := by decide +kernel
theorem wL_law_968 {x : Nat} (kk : QW V iL_law 969 [a0, a1, a2, some (.ref x), a4, a5, a6, a7, a8] (.ref x :: st) h z bc bs Kr Kx) : QW V iL_law 968 [a0, a1, a2, some (.ref x), a4, a5, a6, a7, a8] (st) h z bc bs Kr Kx := q_aload_n dL_law_968 rfl rfl kk
theorem dL_law_969 : decode (i_b iL_law) 969 = .ok (.invokestatic 193, 3) := by decide +kernel
theorem wL_law_969 {x0 : Nat} {x1 : Int32} {x2 : Nat} (hm : QMi V iL_offer [.ref x0, .int x1, .ref x2] h z (fun r h' z' => QW V iL_law 972 [a0, a1, a2, a3, a4, a5, a6, a7, a8] (.int r :: st) h' z' bc bs Kr Kx) Kx) (hW : (st.map fun v => v.category).sum ≤ 8 := by exact Nat.le_of_ble_eq_true rfl) : QW V iL_law 969 [a0, a1, a2, a3, a4, a5, a6, a7, a8] (.ref x2 :: .int x1 :: .ref x0 :: st) h z (bc + 2) (bs + 12) Kr Kx := q_callSX (y' := iL_offer) (As := [.ref x0, .int x1, .ref x2]) (rest := st) dL_law_969 k4_140 k4_141 k1_0 hhL_offer (by decide) hdL_offer rfl (Nat.le_of_ble_eq_true rfl) (Nat.le_of_ble_eq_true rfl) hW rfl (QMi.run hm)
theorem dL_law_972 : decode (i_b iL_law) 972 = .ok (.istore 6, 2) := by decide +kernel
theorem wL_law_972 {x : Int32} (kk : QW V iL_law 974 [a0, a1, a2, a3, a4, a5, some (.int x), a7, a8] (st) h z bc bs Kr Kx) (hp : q_n2 a5 = true := by rfl) : QW V iL_law 972 [a0, a1, a2, a3, a4, a5, a6, a7, a8] (.int x :: st) h z bc bs Kr Kx := q_istore dL_law_972 (Nat.le_of_ble_eq_true rfl) hp kk
theorem dL_law_974 : decode (i_b iL_law) 974 = .ok (.aload_n 2, 1) := by decide +kernel
theorem wL_law_974 {x : Nat} (kk : QW V iL_law 975 [a0, a1, some (.ref x), a3, a4, a5, a6, a7, a8] (.ref x :: st) h z bc bs Kr Kx) : QW V iL_law 974 [a0, a1, some (.ref x), a3, a4, a5, a6, a7, a8] (st) h z bc bs Kr Kx := q_aload_n dL_law_974 rfl rfl kk
theorem dL_law_975 : decode (i_b iL_law) 975 = .ok (.aload_n 0, 1) := by decide +kernel
theorem wL_law_975 {x : Nat} (kk : QW V iL_law 976 [some (.ref x), a1, a2, a3, a4, a5, a6, a7, a8] (.ref x :: st) h z bc bs Kr Kx) : QW V iL_law 975 [some (.ref x), a1, a2, a3, a4, a5, a6, a7, a8] (st) h z bc bs Kr Kx := q_aload_n dL_law_975 rfl rfl kk
theorem dL_law_976 : decode (i_b iL_law) 976 = .ok (.iload 5, 2) := by decide +kernel
theorem wL_law_976 {x : Int32} (kk : QW V iL_law 978 [a0, a1, a2, a3, a4, some (.int x), a6, a7, a8] (.int x :: st) h z bc bs Kr Kx) : QW V iL_law 976 [a0, a1, a2, a3, a4, some (.int x), a6, a7, a8] (st) h z bc bs Kr Kx := q_iload dL_law_976 rfl kk
theorem dL_law_978 : decode (i_b iL_law) 978 = .ok (.iconst 1, 1) := by decide +kernel
theorem wL_law_978  (kk : QW V iL_law 979 [a0, a1, a2, a3, a4, a5, a6, a7, a8] (.int (1) :: st) h z bc bs Kr Kx) : QW V iL_law 978 [a0, a1, a2, a3, a4, a5, a6, a7, a8] (st) h z bc bs Kr Kx := q_iconst dL_law_978 (by decide) kk
theorem dL_law_979 : decode (i_b iL_law) 979 = .ok (.iadd, 1) := by decide +kernel
theorem wL_law_979 {x y : Int32} (kk : QW V iL_law 980 [a0, a1, a2, a3, a4, a5, a6, a7, a8] (.int (x + y) :: st) h z bc bs Kr Kx) : QW V iL_law 979 [a0, a1, a2, a3, a4, a5, a6, a7, a8] (.int y :: .int x :: st) h z bc bs Kr Kx := q_iadd dL_law_979 kk
theorem dL_law_980 : decode (i_b iL_law) 980 = .ok (.iaload, 1) := by decide +kernel
theorem wL_law_980 {j : Nat} {i : Int32} (hi : i = nI j) (hj : j < e_sL V) (hn : e_sL V < 2147483648) (kk : QW V iL_law 981 [a0, a1, a2, a3, a4, a5, a6, a7, a8] (.int (e_xs V j) :: st) h z bc bs Kr Kx) : QW V iL_law 980 [a0, a1, a2, a3, a4, a5, a6, a7, a8] (.int i :: .ref (e_sb V) :: st) h z bc bs Kr Kx := q_sld dL_law_980 hi hj hn kk
theorem dL_law_981 : decode (i_b iL_law) 981 = .ok (.invokevirtual 195, 3) := by decide +kernel
theorem wL_law_981 {a : Nat} {fs : List Value} {x0 : Int32} (hb : h a = some (.inr (10, fs))) (hm : QMi V iX9_offer [.ref a, .int x0] h z (fun r h' z' => QW V iL_law 984 [a0, a1, a2, a3, a4, a5, a6, a7, a8] (.int r :: st) h' z' bc bs Kr Kx) Kx) (hW : (st.map fun v => v.category).sum ≤ 8 := by exact Nat.le_of_ble_eq_true rfl) : QW V iL_law 981 [a0, a1, a2, a3, a4, a5, a6, a7, a8] (.int x0 :: .ref a :: st) h z bc bs Kr Kx := q_callV (y' := iX9_offer) (As := [.int x0]) (rest := st) dL_law_981 k7_168 k7_169 k7_170 k1_10 hhX9_offer rfl hdX9_offer rfl rfl (Nat.le_of_ble_eq_true rfl) (Nat.le_of_ble_eq_true rfl) hW rfl hb (QMi.run hm)
theorem dL_law_984 : decode (i_b iL_law) 984 = .ok (.istore 7, 2) := by decide +kernel
theorem wL_law_984 {x : Int32} (kk : QW V iL_law 986 [a0, a1, a2, a3, a4, a5, a6, some (.int x), a8] (st) h z bc bs Kr Kx) (hp : q_n2 a6 = true := by rfl) : QW V iL_law 984 [a0, a1, a2, a3, a4, a5, a6, a7, a8] (.int x :: st) h z bc bs Kr Kx := q_istore dL_law_984 (Nat.le_of_ble_eq_true rfl) hp kk
theorem dL_law_986 : decode (i_b iL_law) 986 = .ok (.aload_n 2, 1) := by decide +kernel
theorem wL_law_986 {x : Nat} (kk : QW V iL_law 987 [a0, a1, some (.ref x), a3, a4, a5, a6, a7, a8] (.ref x :: st) h z bc bs Kr Kx) : QW V iL_law 986 [a0, a1, some (.ref x), a3, a4, a5, a6, a7, a8] (st) h z bc bs Kr Kx := q_aload_n dL_law_986 rfl rfl kk
theorem dL_law_987 : decode (i_b iL_law) 987 = .ok (.invokevirtual 150, 3) := by decide +kernel
theorem wL_law_987 {a : Nat} {fs : List Value}  (hb : h a = some (.inr (10, fs))) (hm : QMi V iX9_thrown [.ref a] h z (fun r h' z' => QW V iL_law 990 [a0, a1, a2, a3, a4, a5, a6, a7, a8] (.int r :: st) h' z' bc bs Kr Kx) Kx) (hW : (st.map fun v => v.category).sum ≤ 8 := by exact Nat.le_of_ble_eq_true rfl) : QW V iL_law 987 [a0, a1, a2, a3, a4, a5, a6, a7, a8] (.ref a :: st) h z bc bs Kr Kx := q_callV (y' := iX9_thrown) (As := []) (rest := st) dL_law_987 k6_80 k6_81 k6_82 k1_10 hhX9_thrown rfl hdX9_thrown rfl rfl (Nat.le_of_ble_eq_true rfl) (Nat.le_of_ble_eq_true rfl) hW rfl hb (QMi.run hm)
theorem dL_law_990 : decode (i_b iL_law) 990 = .ok (.iload 6, 2) := by decide +kernel
theorem wL_law_990 {x : Int32} (kk : QW V iL_law 992 [a0, a1, a2, a3, a4, a5, some (.int x), a7, a8] (.int x :: st) h z bc bs Kr Kx) : QW V iL_law 990 [a0, a1, a2, a3, a4, a5, some (.int x), a7, a8] (st) h z bc bs Kr Kx := q_iload dL_law_990 rfl kk
theorem dL_law_992 : decode (i_b iL_law) 992 = .ok (.if_icmp .eq 5, 3) := by decide +kernel
theorem wL_law_992 {x y : Int32} (kt : x = y → QW V iL_law 997 [a0, a1, a2, a3, a4, a5, a6, a7, a8] (st) h z bc bs Kr Kx) (kf : ¬ x = y → QW V iL_law 995 [a0, a1, a2, a3, a4, a5, a6, a7, a8] (st) h z bc bs Kr Kx) : QW V iL_law 992 [a0, a1, a2, a3, a4, a5, a6, a7, a8] (.int y :: .int x :: st) h z bc bs Kr Kx := q_icmp_eq dL_law_992 (by decide) kt kf
theorem dL_law_995 : decode (i_b iL_law) 995 = .ok (.iconst 0, 1) := by decide +kernel
theorem wL_law_995  (kk : QW V iL_law 996 [a0, a1, a2, a3, a4, a5, a6, a7, a8] (.int (0) :: st) h z bc bs Kr Kx) : QW V iL_law 995 [a0, a1, a2, a3, a4, a5, a6, a7, a8] (st) h z bc bs Kr Kx := q_iconst dL_law_995 (by decide) kk
theorem dL_law_996 : decode (i_b iL_law) 996 = .ok (.ireturn, 1) := by decide +kernel
theorem wL_law_996 {x : Int32} {P : Int32 → q_H → Option Nat → Prop} (hk : P x h z) (hn : narrow .boolean (.int x) = .int x := by first | rfl | exact q_b_n _) : QW V iL_law 996 [a0, a1, a2, a3, a4, a5, a6, a7, a8] [.int x] h z bc bs (q_Ki P) Kx := q_iret dL_law_996 rfl hn ⟨x, rfl, hk⟩
theorem dL_law_997 : decode (i_b iL_law) 997 = .ok (.iload 6, 2) := by decide +kernel
theorem wL_law_997 {x : Int32} (kk : QW V iL_law 999 [a0, a1, a2, a3, a4, a5, some (.int x), a7, a8] (.int x :: st) h z bc bs Kr Kx) : QW V iL_law 997 [a0, a1, a2, a3, a4, a5, some (.int x), a7, a8] (st) h z bc bs Kr Kx := q_iload dL_law_997 rfl kk
theorem dL_law_999 : decode (i_b iL_law) 999 = .ok (.ifCond .ne 15, 3) := by decide +kernel
theorem wL_law_999 {x : Int32} (kt : ¬ x = 0 → QW V iL_law 1014 [a0, a1, a2, a3, a4, a5, a6, a7, a8] (st) h z bc bs Kr Kx) (kf : x = 0 → QW V iL_law 1002 [a0, a1, a2, a3, a4, a5, a6, a7, a8] (st) h z bc bs Kr Kx) : QW V iL_law 999 [a0, a1, a2, a3, a4, a5, a6, a7, a8] (.int x :: st) h z bc bs Kr Kx := q_if_ne dL_law_999 (by decide) kt kf
theorem dL_law_1002 : decode (i_b iL_law) 1002 = .ok (.aload_n 3, 1) := by decide +kernel
theorem wL_law_1002 {x : Nat} (kk : QW V iL_law 1003 [a0, a1, a2, some (.ref x), a4, a5, a6, a7, a8] (.ref x :: st) h z bc bs Kr Kx) : QW V iL_law 1002 [a0, a1, a2, some (.ref x), a4, a5, a6, a7, a8] (st) h z bc bs Kr Kx := q_aload_n dL_law_1002 rfl rfl kk
theorem dL_law_1003 : decode (i_b iL_law) 1003 = .ok (.iconst 0, 1) := by decide +kernel
theorem wL_law_1003  (kk : QW V iL_law 1004 [a0, a1, a2, a3, a4, a5, a6, a7, a8] (.int (0) :: st) h z bc bs Kr Kx) : QW V iL_law 1003 [a0, a1, a2, a3, a4, a5, a6, a7, a8] (st) h z bc bs Kr Kx := q_iconst dL_law_1003 (by decide) kk
theorem dL_law_1004 : decode (i_b iL_law) 1004 = .ok (.laload, 1) := by decide +kernel
theorem wL_law_1004 {a n j : Nat} {f : Nat → Int64} {i : Int32} (ha : h a = some (.inl (2, n, .inr (.inl f)))) (hi : i = nI j) (hj : j < n) (hn : n < 2147483648) (kk : QW V iL_law 1005 [a0, a1, a2, a3, a4, a5, a6, a7, a8] (.long (f j) :: st) h z bc bs Kr Kx) : QW V iL_law 1004 [a0, a1, a2, a3, a4, a5, a6, a7, a8] (.int i :: .ref a :: st) h z bc bs Kr Kx := q_lald dL_law_1004 ha hi hj hn kk
theorem dL_law_1005 : decode (i_b iL_law) 1005 = .ok (.iload 7, 2) := by decide +kernel
theorem wL_law_1005 {x : Int32} (kk : QW V iL_law 1007 [a0, a1, a2, a3, a4, a5, a6, some (.int x), a8] (.int x :: st) h z bc bs Kr Kx) : QW V iL_law 1005 [a0, a1, a2, a3, a4, a5, a6, some (.int x), a8] (st) h z bc bs Kr Kx := q_iload dL_law_1005 rfl kk
theorem dL_law_1007 : decode (i_b iL_law) 1007 = .ok (.i2l, 1) := by decide +kernel
theorem wL_law_1007 {x : Int32} (kk : QW V iL_law 1008 [a0, a1, a2, a3, a4, a5, a6, a7, a8] (.long (x.toInt64) :: st) h z bc bs Kr Kx) : QW V iL_law 1007 [a0, a1, a2, a3, a4, a5, a6, a7, a8] (.int x :: st) h z bc bs Kr Kx := q_i2l dL_law_1007 kk
theorem dL_law_1008 : decode (i_b iL_law) 1008 = .ok (.lcmp, 1) := by decide +kernel
theorem dL_law_1009 : decode (i_b iL_law) 1009 = .ok (.ifCond .eq 5, 3) := by decide +kernel
theorem wL_law_1008 {x y : Int64} (kt : x = y → QW V iL_law 1014 [a0, a1, a2, a3, a4, a5, a6, a7, a8] (st) h z bc bs Kr Kx) (kf : ¬ x = y → QW V iL_law 1012 [a0, a1, a2, a3, a4, a5, a6, a7, a8] (st) h z bc bs Kr Kx) : QW V iL_law 1008 [a0, a1, a2, a3, a4, a5, a6, a7, a8] (.long y :: .long x :: st) h z bc bs Kr Kx := q_lcmp dL_law_1008 (q_if_eq dL_law_1009 (by decide) (fun q => kt ((q_lc_eq x y).mp q)) (fun q => kf (q_lcn_eq q)))
theorem dL_law_1012 : decode (i_b iL_law) 1012 = .ok (.iconst 0, 1) := by decide +kernel
theorem wL_law_1012  (kk : QW V iL_law 1013 [a0, a1, a2, a3, a4, a5, a6, a7, a8] (.int (0) :: st) h z bc bs Kr Kx) : QW V iL_law 1012 [a0, a1, a2, a3, a4, a5, a6, a7, a8] (st) h z bc bs Kr Kx := q_iconst dL_law_1012 (by decide) kk
theorem dL_law_1013 : decode (i_b iL_law) 1013 = .ok (.ireturn, 1) := by decide +kernel
theorem wL_law_1013 {x : Int32} {P : Int32 → q_H → Option Nat → Prop} (hk : P x h z) (hn : narrow .boolean (.int x) = .int x := by first | rfl | exact q_b_n _) : QW V iL_law 1013 [a0, a1, a2, a3, a4, a5, a6, a7, a8] [.int x] h z bc bs (q_Ki P) Kx := q_iret dL_law_1013 rfl hn ⟨x, rfl, hk⟩
theorem dL_law_1014 : decode (i_b iL_law) 1014 = .ok (.goto 1737, 3) := by decide +kernel
theorem wL_law_1014  (kk : QW V iL_law 2751 [a0, a1, a2, a3, a4, a5, a6, a7, a8] (st) h z bc bs Kr Kx) : QW V iL_law 1014 [a0, a1, a2, a3, a4, a5, a6, a7, a8] (st) h z bc bs Kr Kx := q_goto dL_law_1014 (by decide) kk
theorem dL_law_1017 : decode (i_b iL_law) 1017 = .ok (.aload_n 1, 1) := by decide +kernel
theorem wL_law_1017 {x : Nat} (kk : QW V iL_law 1018 [a0, some (.ref x), a2, a3, a4, a5, a6, a7, a8] (.ref x :: st) h z bc bs Kr Kx) : QW V iL_law 1017 [a0, some (.ref x), a2, a3, a4, a5, a6, a7, a8] (st) h z bc bs Kr Kx := q_aload_n dL_law_1017 rfl rfl kk
theorem dL_law_1018 : decode (i_b iL_law) 1018 = .ok (.aload_n 0, 1) := by decide +kernel
theorem wL_law_1018 {x : Nat} (kk : QW V iL_law 1019 [some (.ref x), a1, a2, a3, a4, a5, a6, a7, a8] (.ref x :: st) h z bc bs Kr Kx) : QW V iL_law 1018 [some (.ref x), a1, a2, a3, a4, a5, a6, a7, a8] (st) h z bc bs Kr Kx := q_aload_n dL_law_1018 rfl rfl kk
theorem dL_law_1019 : decode (i_b iL_law) 1019 = .ok (.iload 5, 2) := by decide +kernel
theorem wL_law_1019 {x : Int32} (kk : QW V iL_law 1021 [a0, a1, a2, a3, a4, some (.int x), a6, a7, a8] (.int x :: st) h z bc bs Kr Kx) : QW V iL_law 1019 [a0, a1, a2, a3, a4, some (.int x), a6, a7, a8] (st) h z bc bs Kr Kx := q_iload dL_law_1019 rfl kk
theorem dL_law_1021 : decode (i_b iL_law) 1021 = .ok (.iconst 1, 1) := by decide +kernel
theorem wL_law_1021  (kk : QW V iL_law 1022 [a0, a1, a2, a3, a4, a5, a6, a7, a8] (.int (1) :: st) h z bc bs Kr Kx) : QW V iL_law 1021 [a0, a1, a2, a3, a4, a5, a6, a7, a8] (st) h z bc bs Kr Kx := q_iconst dL_law_1021 (by decide) kk
theorem dL_law_1022 : decode (i_b iL_law) 1022 = .ok (.iadd, 1) := by decide +kernel
theorem wL_law_1022 {x y : Int32} (kk : QW V iL_law 1023 [a0, a1, a2, a3, a4, a5, a6, a7, a8] (.int (x + y) :: st) h z bc bs Kr Kx) : QW V iL_law 1022 [a0, a1, a2, a3, a4, a5, a6, a7, a8] (.int y :: .int x :: st) h z bc bs Kr Kx := q_iadd dL_law_1022 kk
theorem dL_law_1023 : decode (i_b iL_law) 1023 = .ok (.iaload, 1) := by decide +kernel
theorem wL_law_1023 {j : Nat} {i : Int32} (hi : i = nI j) (hj : j < e_sL V) (hn : e_sL V < 2147483648) (kk : QW V iL_law 1024 [a0, a1, a2, a3, a4, a5, a6, a7, a8] (.int (e_xs V j) :: st) h z bc bs Kr Kx) : QW V iL_law 1023 [a0, a1, a2, a3, a4, a5, a6, a7, a8] (.int i :: .ref (e_sb V) :: st) h z bc bs Kr Kx := q_sld dL_law_1023 hi hj hn kk
theorem dL_law_1024 : decode (i_b iL_law) 1024 = .ok (.aload_n 0, 1) := by decide +kernel
theorem wL_law_1024 {x : Nat} (kk : QW V iL_law 1025 [some (.ref x), a1, a2, a3, a4, a5, a6, a7, a8] (.ref x :: st) h z bc bs Kr Kx) : QW V iL_law 1024 [some (.ref x), a1, a2, a3, a4, a5, a6, a7, a8] (st) h z bc bs Kr Kx := q_aload_n dL_law_1024 rfl rfl kk
theorem dL_law_1025 : decode (i_b iL_law) 1025 = .ok (.iload 5, 2) := by decide +kernel
theorem wL_law_1025 {x : Int32} (kk : QW V iL_law 1027 [a0, a1, a2, a3, a4, some (.int x), a6, a7, a8] (.int x :: st) h z bc bs Kr Kx) : QW V iL_law 1025 [a0, a1, a2, a3, a4, some (.int x), a6, a7, a8] (st) h z bc bs Kr Kx := q_iload dL_law_1025 rfl kk
theorem dL_law_1027 : decode (i_b iL_law) 1027 = .ok (.iconst 2, 1) := by decide +kernel
theorem wL_law_1027  (kk : QW V iL_law 1028 [a0, a1, a2, a3, a4, a5, a6, a7, a8] (.int (2) :: st) h z bc bs Kr Kx) : QW V iL_law 1027 [a0, a1, a2, a3, a4, a5, a6, a7, a8] (st) h z bc bs Kr Kx := q_iconst dL_law_1027 (by decide) kk
theorem dL_law_1028 : decode (i_b iL_law) 1028 = .ok (.iadd, 1) := by decide +kernel
theorem wL_law_1028 {x y : Int32} (kk : QW V iL_law 1029 [a0, a1, a2, a3, a4, a5, a6, a7, a8] (.int (x + y) :: st) h z bc bs Kr Kx) : QW V iL_law 1028 [a0, a1, a2, a3, a4, a5, a6, a7, a8] (.int y :: .int x :: st) h z bc bs Kr Kx := q_iadd dL_law_1028 kk
theorem dL_law_1029 : decode (i_b iL_law) 1029 = .ok (.iaload, 1) := by decide +kernel
theorem wL_law_1029 {j : Nat} {i : Int32} (hi : i = nI j) (hj : j < e_sL V) (hn : e_sL V < 2147483648) (kk : QW V iL_law 1030 [a0, a1, a2, a3, a4, a5, a6, a7, a8] (.int (e_xs V j) :: st) h z bc bs Kr Kx) : QW V iL_law 1029 [a0, a1, a2, a3, a4, a5, a6, a7, a8] (.int i :: .ref (e_sb V) :: st) h z bc bs Kr Kx := q_sld dL_law_1029 hi hj hn kk
theorem dL_law_1030 : decode (i_b iL_law) 1030 = .ok (.aload_n 3, 1) := by decide +kernel
theorem wL_law_1030 {x : Nat} (kk : QW V iL_law 1031 [a0, a1, a2, some (.ref x), a4, a5, a6, a7, a8] (.ref x :: st) h z bc bs Kr Kx) : QW V iL_law 1030 [a0, a1, a2, some (.ref x), a4, a5, a6, a7, a8] (st) h z bc bs Kr Kx := q_aload_n dL_law_1030 rfl rfl kk
theorem dL_law_1031 : decode (i_b iL_law) 1031 = .ok (.invokestatic 196, 3) := by decide +kernel
theorem wL_law_1031 {x0 : Nat} {x1 : Int32} {x2 : Int32} {x3 : Nat} (hm : QMi V iL_charge [.ref x0, .int x1, .int x2, .ref x3] h z (fun r h' z' => QW V iL_law 1034 [a0, a1, a2, a3, a4, a5, a6, a7, a8] (.int r :: st) h' z' bc bs Kr Kx) Kx) (hW : (st.map fun v => v.category).sum ≤ 8 := by exact Nat.le_of_ble_eq_true rfl) : QW V iL_law 1031 [a0, a1, a2, a3, a4, a5, a6, a7, a8] (.ref x3 :: .int x2 :: .int x1 :: .ref x0 :: st) h z (bc + 3) (bs + 18) Kr Kx := q_callSX (y' := iL_charge) (As := [.ref x0, .int x1, .int x2, .ref x3]) (rest := st) dL_law_1031 k4_147 k4_148 k1_0 hhL_charge (by decide) hdL_charge rfl (Nat.le_of_ble_eq_true rfl) (Nat.le_of_ble_eq_true rfl) hW rfl (QMi.run hm)
theorem dL_law_1034 : decode (i_b iL_law) 1034 = .ok (.istore 6, 2) := by decide +kernel
theorem wL_law_1034 {x : Int32} (kk : QW V iL_law 1036 [a0, a1, a2, a3, a4, a5, some (.int x), a7, a8] (st) h z bc bs Kr Kx) (hp : q_n2 a5 = true := by rfl) : QW V iL_law 1034 [a0, a1, a2, a3, a4, a5, a6, a7, a8] (.int x :: st) h z bc bs Kr Kx := q_istore dL_law_1034 (Nat.le_of_ble_eq_true rfl) hp kk
theorem dL_law_1036 : decode (i_b iL_law) 1036 = .ok (.aload_n 2, 1) := by decide +kernel
theorem wL_law_1036 {x : Nat} (kk : QW V iL_law 1037 [a0, a1, some (.ref x), a3, a4, a5, a6, a7, a8] (.ref x :: st) h z bc bs Kr Kx) : QW V iL_law 1036 [a0, a1, some (.ref x), a3, a4, a5, a6, a7, a8] (st) h z bc bs Kr Kx := q_aload_n dL_law_1036 rfl rfl kk
theorem dL_law_1037 : decode (i_b iL_law) 1037 = .ok (.aload_n 0, 1) := by decide +kernel
theorem wL_law_1037 {x : Nat} (kk : QW V iL_law 1038 [some (.ref x), a1, a2, a3, a4, a5, a6, a7, a8] (.ref x :: st) h z bc bs Kr Kx) : QW V iL_law 1037 [some (.ref x), a1, a2, a3, a4, a5, a6, a7, a8] (st) h z bc bs Kr Kx := q_aload_n dL_law_1037 rfl rfl kk
theorem dL_law_1038 : decode (i_b iL_law) 1038 = .ok (.iload 5, 2) := by decide +kernel
theorem wL_law_1038 {x : Int32} (kk : QW V iL_law 1040 [a0, a1, a2, a3, a4, some (.int x), a6, a7, a8] (.int x :: st) h z bc bs Kr Kx) : QW V iL_law 1038 [a0, a1, a2, a3, a4, some (.int x), a6, a7, a8] (st) h z bc bs Kr Kx := q_iload dL_law_1038 rfl kk
theorem dL_law_1040 : decode (i_b iL_law) 1040 = .ok (.iconst 1, 1) := by decide +kernel
theorem wL_law_1040  (kk : QW V iL_law 1041 [a0, a1, a2, a3, a4, a5, a6, a7, a8] (.int (1) :: st) h z bc bs Kr Kx) : QW V iL_law 1040 [a0, a1, a2, a3, a4, a5, a6, a7, a8] (st) h z bc bs Kr Kx := q_iconst dL_law_1040 (by decide) kk
theorem dL_law_1041 : decode (i_b iL_law) 1041 = .ok (.iadd, 1) := by decide +kernel
theorem wL_law_1041 {x y : Int32} (kk : QW V iL_law 1042 [a0, a1, a2, a3, a4, a5, a6, a7, a8] (.int (x + y) :: st) h z bc bs Kr Kx) : QW V iL_law 1041 [a0, a1, a2, a3, a4, a5, a6, a7, a8] (.int y :: .int x :: st) h z bc bs Kr Kx := q_iadd dL_law_1041 kk
theorem dL_law_1042 : decode (i_b iL_law) 1042 = .ok (.iaload, 1) := by decide +kernel
theorem wL_law_1042 {j : Nat} {i : Int32} (hi : i = nI j) (hj : j < e_sL V) (hn : e_sL V < 2147483648) (kk : QW V iL_law 1043 [a0, a1, a2, a3, a4, a5, a6, a7, a8] (.int (e_xs V j) :: st) h z bc bs Kr Kx) : QW V iL_law 1042 [a0, a1, a2, a3, a4, a5, a6, a7, a8] (.int i :: .ref (e_sb V) :: st) h z bc bs Kr Kx := q_sld dL_law_1042 hi hj hn kk
theorem dL_law_1043 : decode (i_b iL_law) 1043 = .ok (.aload_n 0, 1) := by decide +kernel
theorem wL_law_1043 {x : Nat} (kk : QW V iL_law 1044 [some (.ref x), a1, a2, a3, a4, a5, a6, a7, a8] (.ref x :: st) h z bc bs Kr Kx) : QW V iL_law 1043 [some (.ref x), a1, a2, a3, a4, a5, a6, a7, a8] (st) h z bc bs Kr Kx := q_aload_n dL_law_1043 rfl rfl kk
theorem dL_law_1044 : decode (i_b iL_law) 1044 = .ok (.iload 5, 2) := by decide +kernel
theorem wL_law_1044 {x : Int32} (kk : QW V iL_law 1046 [a0, a1, a2, a3, a4, some (.int x), a6, a7, a8] (.int x :: st) h z bc bs Kr Kx) : QW V iL_law 1044 [a0, a1, a2, a3, a4, some (.int x), a6, a7, a8] (st) h z bc bs Kr Kx := q_iload dL_law_1044 rfl kk
theorem dL_law_1046 : decode (i_b iL_law) 1046 = .ok (.iconst 2, 1) := by decide +kernel
theorem wL_law_1046  (kk : QW V iL_law 1047 [a0, a1, a2, a3, a4, a5, a6, a7, a8] (.int (2) :: st) h z bc bs Kr Kx) : QW V iL_law 1046 [a0, a1, a2, a3, a4, a5, a6, a7, a8] (st) h z bc bs Kr Kx := q_iconst dL_law_1046 (by decide) kk
theorem dL_law_1047 : decode (i_b iL_law) 1047 = .ok (.iadd, 1) := by decide +kernel
theorem wL_law_1047 {x y : Int32} (kk : QW V iL_law 1048 [a0, a1, a2, a3, a4, a5, a6, a7, a8] (.int (x + y) :: st) h z bc bs Kr Kx) : QW V iL_law 1047 [a0, a1, a2, a3, a4, a5, a6, a7, a8] (.int y :: .int x :: st) h z bc bs Kr Kx := q_iadd dL_law_1047 kk
theorem dL_law_1048 : decode (i_b iL_law) 1048 = .ok (.iaload, 1) := by decide +kernel
theorem wL_law_1048 {j : Nat} {i : Int32} (hi : i = nI j) (hj : j < e_sL V) (hn : e_sL V < 2147483648) (kk : QW V iL_law 1049 [a0, a1, a2, a3, a4, a5, a6, a7, a8] (.int (e_xs V j) :: st) h z bc bs Kr Kx) : QW V iL_law 1048 [a0, a1, a2, a3, a4, a5, a6, a7, a8] (.int i :: .ref (e_sb V) :: st) h z bc bs Kr Kx := q_sld dL_law_1048 hi hj hn kk
theorem dL_law_1049 : decode (i_b iL_law) 1049 = .ok (.invokevirtual 199, 3) := by decide +kernel
theorem wL_law_1049 {a : Nat} {fs : List Value} {x0 : Int32} {x1 : Int32} (hb : h a = some (.inr (10, fs))) (hm : QMi V iX9_charge [.ref a, .int x0, .int x1] h z (fun r h' z' => QW V iL_law 1052 [a0, a1, a2, a3, a4, a5, a6, a7, a8] (.int r :: st) h' z' bc bs Kr Kx) Kx) (hW : (st.map fun v => v.category).sum ≤ 8 := by exact Nat.le_of_ble_eq_true rfl) : QW V iL_law 1049 [a0, a1, a2, a3, a4, a5, a6, a7, a8] (.int x1 :: .int x0 :: .ref a :: st) h z bc bs Kr Kx := q_callV (y' := iX9_charge) (As := [.int x0, .int x1]) (rest := st) dL_law_1049 k7_173 k7_174 k7_175 k1_10 hhX9_charge rfl hdX9_charge rfl rfl (Nat.le_of_ble_eq_true rfl) (Nat.le_of_ble_eq_true rfl) hW rfl hb (QMi.run hm)
theorem dL_law_1052 : decode (i_b iL_law) 1052 = .ok (.istore 7, 2) := by decide +kernel
theorem wL_law_1052 {x : Int32} (kk : QW V iL_law 1054 [a0, a1, a2, a3, a4, a5, a6, some (.int x), a8] (st) h z bc bs Kr Kx) (hp : q_n2 a6 = true := by rfl) : QW V iL_law 1052 [a0, a1, a2, a3, a4, a5, a6, a7, a8] (.int x :: st) h z bc bs Kr Kx := q_istore dL_law_1052 (Nat.le_of_ble_eq_true rfl) hp kk
theorem dL_law_1054 : decode (i_b iL_law) 1054 = .ok (.aload_n 2, 1) := by decide +kernel
theorem wL_law_1054 {x : Nat} (kk : QW V iL_law 1055 [a0, a1, some (.ref x), a3, a4, a5, a6, a7, a8] (.ref x :: st) h z bc bs Kr Kx) : QW V iL_law 1054 [a0, a1, some (.ref x), a3, a4, a5, a6, a7, a8] (st) h z bc bs Kr Kx := q_aload_n dL_law_1054 rfl rfl kk
theorem dL_law_1055 : decode (i_b iL_law) 1055 = .ok (.invokevirtual 150, 3) := by decide +kernel
theorem wL_law_1055 {a : Nat} {fs : List Value}  (hb : h a = some (.inr (10, fs))) (hm : QMi V iX9_thrown [.ref a] h z (fun r h' z' => QW V iL_law 1058 [a0, a1, a2, a3, a4, a5, a6, a7, a8] (.int r :: st) h' z' bc bs Kr Kx) Kx) (hW : (st.map fun v => v.category).sum ≤ 8 := by exact Nat.le_of_ble_eq_true rfl) : QW V iL_law 1055 [a0, a1, a2, a3, a4, a5, a6, a7, a8] (.ref a :: st) h z bc bs Kr Kx := q_callV (y' := iX9_thrown) (As := []) (rest := st) dL_law_1055 k6_80 k6_81 k6_82 k1_10 hhX9_thrown rfl hdX9_thrown rfl rfl (Nat.le_of_ble_eq_true rfl) (Nat.le_of_ble_eq_true rfl) hW rfl hb (QMi.run hm)
theorem dL_law_1058 : decode (i_b iL_law) 1058 = .ok (.iload 6, 2) := by decide +kernel
theorem wL_law_1058 {x : Int32} (kk : QW V iL_law 1060 [a0, a1, a2, a3, a4, a5, some (.int x), a7, a8] (.int x :: st) h z bc bs Kr Kx) : QW V iL_law 1058 [a0, a1, a2, a3, a4, a5, some (.int x), a7, a8] (st) h z bc bs Kr Kx := q_iload dL_law_1058 rfl kk
theorem dL_law_1060 : decode (i_b iL_law) 1060 = .ok (.if_icmp .eq 5, 3) := by decide +kernel
theorem wL_law_1060 {x y : Int32} (kt : x = y → QW V iL_law 1065 [a0, a1, a2, a3, a4, a5, a6, a7, a8] (st) h z bc bs Kr Kx) (kf : ¬ x = y → QW V iL_law 1063 [a0, a1, a2, a3, a4, a5, a6, a7, a8] (st) h z bc bs Kr Kx) : QW V iL_law 1060 [a0, a1, a2, a3, a4, a5, a6, a7, a8] (.int y :: .int x :: st) h z bc bs Kr Kx := q_icmp_eq dL_law_1060 (by decide) kt kf
theorem dL_law_1063 : decode (i_b iL_law) 1063 = .ok (.iconst 0, 1) := by decide +kernel
theorem wL_law_1063  (kk : QW V iL_law 1064 [a0, a1, a2, a3, a4, a5, a6, a7, a8] (.int (0) :: st) h z bc bs Kr Kx) : QW V iL_law 1063 [a0, a1, a2, a3, a4, a5, a6, a7, a8] (st) h z bc bs Kr Kx := q_iconst dL_law_1063 (by decide) kk
theorem dL_law_1064 : decode (i_b iL_law) 1064 = .ok (.ireturn, 1) := by decide +kernel
theorem wL_law_1064 {x : Int32} {P : Int32 → q_H → Option Nat → Prop} (hk : P x h z) (hn : narrow .boolean (.int x) = .int x := by first | rfl | exact q_b_n _) : QW V iL_law 1064 [a0, a1, a2, a3, a4, a5, a6, a7, a8] [.int x] h z bc bs (q_Ki P) Kx := q_iret dL_law_1064 rfl hn ⟨x, rfl, hk⟩
theorem dL_law_1065 : decode (i_b iL_law) 1065 = .ok (.iload 6, 2) := by decide +kernel
theorem wL_law_1065 {x : Int32} (kk : QW V iL_law 1067 [a0, a1, a2, a3, a4, a5, some (.int x), a7, a8] (.int x :: st) h z bc bs Kr Kx) : QW V iL_law 1065 [a0, a1, a2, a3, a4, a5, some (.int x), a7, a8] (st) h z bc bs Kr Kx := q_iload dL_law_1065 rfl kk
theorem dL_law_1067 : decode (i_b iL_law) 1067 = .ok (.ifCond .ne 15, 3) := by decide +kernel
theorem wL_law_1067 {x : Int32} (kt : ¬ x = 0 → QW V iL_law 1082 [a0, a1, a2, a3, a4, a5, a6, a7, a8] (st) h z bc bs Kr Kx) (kf : x = 0 → QW V iL_law 1070 [a0, a1, a2, a3, a4, a5, a6, a7, a8] (st) h z bc bs Kr Kx) : QW V iL_law 1067 [a0, a1, a2, a3, a4, a5, a6, a7, a8] (.int x :: st) h z bc bs Kr Kx := q_if_ne dL_law_1067 (by decide) kt kf
theorem dL_law_1070 : decode (i_b iL_law) 1070 = .ok (.aload_n 3, 1) := by decide +kernel
theorem wL_law_1070 {x : Nat} (kk : QW V iL_law 1071 [a0, a1, a2, some (.ref x), a4, a5, a6, a7, a8] (.ref x :: st) h z bc bs Kr Kx) : QW V iL_law 1070 [a0, a1, a2, some (.ref x), a4, a5, a6, a7, a8] (st) h z bc bs Kr Kx := q_aload_n dL_law_1070 rfl rfl kk
theorem dL_law_1071 : decode (i_b iL_law) 1071 = .ok (.iconst 0, 1) := by decide +kernel
theorem wL_law_1071  (kk : QW V iL_law 1072 [a0, a1, a2, a3, a4, a5, a6, a7, a8] (.int (0) :: st) h z bc bs Kr Kx) : QW V iL_law 1071 [a0, a1, a2, a3, a4, a5, a6, a7, a8] (st) h z bc bs Kr Kx := q_iconst dL_law_1071 (by decide) kk
theorem dL_law_1072 : decode (i_b iL_law) 1072 = .ok (.laload, 1) := by decide +kernel
theorem wL_law_1072 {a n j : Nat} {f : Nat → Int64} {i : Int32} (ha : h a = some (.inl (2, n, .inr (.inl f)))) (hi : i = nI j) (hj : j < n) (hn : n < 2147483648) (kk : QW V iL_law 1073 [a0, a1, a2, a3, a4, a5, a6, a7, a8] (.long (f j) :: st) h z bc bs Kr Kx) : QW V iL_law 1072 [a0, a1, a2, a3, a4, a5, a6, a7, a8] (.int i :: .ref a :: st) h z bc bs Kr Kx := q_lald dL_law_1072 ha hi hj hn kk
theorem dL_law_1073 : decode (i_b iL_law) 1073 = .ok (.iload 7, 2) := by decide +kernel
theorem wL_law_1073 {x : Int32} (kk : QW V iL_law 1075 [a0, a1, a2, a3, a4, a5, a6, some (.int x), a8] (.int x :: st) h z bc bs Kr Kx) : QW V iL_law 1073 [a0, a1, a2, a3, a4, a5, a6, some (.int x), a8] (st) h z bc bs Kr Kx := q_iload dL_law_1073 rfl kk
theorem dL_law_1075 : decode (i_b iL_law) 1075 = .ok (.i2l, 1) := by decide +kernel
theorem wL_law_1075 {x : Int32} (kk : QW V iL_law 1076 [a0, a1, a2, a3, a4, a5, a6, a7, a8] (.long (x.toInt64) :: st) h z bc bs Kr Kx) : QW V iL_law 1075 [a0, a1, a2, a3, a4, a5, a6, a7, a8] (.int x :: st) h z bc bs Kr Kx := q_i2l dL_law_1075 kk
theorem dL_law_1076 : decode (i_b iL_law) 1076 = .ok (.lcmp, 1) := by decide +kernel
theorem dL_law_1077 : decode (i_b iL_law) 1077 = .ok (.ifCond .eq 5, 3) := by decide +kernel
theorem wL_law_1076 {x y : Int64} (kt : x = y → QW V iL_law 1082 [a0, a1, a2, a3, a4, a5, a6, a7, a8] (st) h z bc bs Kr Kx) (kf : ¬ x = y → QW V iL_law 1080 [a0, a1, a2, a3, a4, a5, a6, a7, a8] (st) h z bc bs Kr Kx) : QW V iL_law 1076 [a0, a1, a2, a3, a4, a5, a6, a7, a8] (.long y :: .long x :: st) h z bc bs Kr Kx := q_lcmp dL_law_1076 (q_if_eq dL_law_1077 (by decide) (fun q => kt ((q_lc_eq x y).mp q)) (fun q => kf (q_lcn_eq q)))
theorem dL_law_1080 : decode (i_b iL_law) 1080 = .ok (.iconst 0, 1) := by decide +kernel
theorem wL_law_1080  (kk : QW V iL_law 1081 [a0, a1, a2, a3, a4, a5, a6, a7, a8] (.int (0) :: st) h z bc bs Kr Kx) : QW V iL_law 1080 [a0, a1, a2, a3, a4, a5, a6, a7, a8] (st) h z bc bs Kr Kx := q_iconst dL_law_1080 (by decide) kk
theorem dL_law_1081 : decode (i_b iL_law) 1081 = .ok (.ireturn, 1) := by decide +kernel
theorem wL_law_1081 {x : Int32} {P : Int32 → q_H → Option Nat → Prop} (hk : P x h z) (hn : narrow .boolean (.int x) = .int x := by first | rfl | exact q_b_n _) : QW V iL_law 1081 [a0, a1, a2, a3, a4, a5, a6, a7, a8] [.int x] h z bc bs (q_Ki P) Kx := q_iret dL_law_1081 rfl hn ⟨x, rfl, hk⟩
theorem dL_law_1082 : decode (i_b iL_law) 1082 = .ok (.goto 1669, 3) := by decide +kernel
theorem wL_law_1082  (kk : QW V iL_law 2751 [a0, a1, a2, a3, a4, a5, a6, a7, a8] (st) h z bc bs Kr Kx) : QW V iL_law 1082 [a0, a1, a2, a3, a4, a5, a6, a7, a8] (st) h z bc bs Kr Kx := q_goto dL_law_1082 (by decide) kk
theorem dL_law_1085 : decode (i_b iL_law) 1085 = .ok (.aload_n 1, 1) := by decide +kernel
theorem wL_law_1085 {x : Nat} (kk : QW V iL_law 1086 [a0, some (.ref x), a2, a3, a4, a5, a6, a7, a8] (.ref x :: st) h z bc bs Kr Kx) : QW V iL_law 1085 [a0, some (.ref x), a2, a3, a4, a5, a6, a7, a8] (st) h z bc bs Kr Kx := q_aload_n dL_law_1085 rfl rfl kk
theorem dL_law_1086 : decode (i_b iL_law) 1086 = .ok (.aload_n 0, 1) := by decide +kernel
theorem wL_law_1086 {x : Nat} (kk : QW V iL_law 1087 [some (.ref x), a1, a2, a3, a4, a5, a6, a7, a8] (.ref x :: st) h z bc bs Kr Kx) : QW V iL_law 1086 [some (.ref x), a1, a2, a3, a4, a5, a6, a7, a8] (st) h z bc bs Kr Kx := q_aload_n dL_law_1086 rfl rfl kk
theorem dL_law_1087 : decode (i_b iL_law) 1087 = .ok (.iload 5, 2) := by decide +kernel
theorem wL_law_1087 {x : Int32} (kk : QW V iL_law 1089 [a0, a1, a2, a3, a4, some (.int x), a6, a7, a8] (.int x :: st) h z bc bs Kr Kx) : QW V iL_law 1087 [a0, a1, a2, a3, a4, some (.int x), a6, a7, a8] (st) h z bc bs Kr Kx := q_iload dL_law_1087 rfl kk
theorem dL_law_1089 : decode (i_b iL_law) 1089 = .ok (.iconst 1, 1) := by decide +kernel
theorem wL_law_1089  (kk : QW V iL_law 1090 [a0, a1, a2, a3, a4, a5, a6, a7, a8] (.int (1) :: st) h z bc bs Kr Kx) : QW V iL_law 1089 [a0, a1, a2, a3, a4, a5, a6, a7, a8] (st) h z bc bs Kr Kx := q_iconst dL_law_1089 (by decide) kk
theorem dL_law_1090 : decode (i_b iL_law) 1090 = .ok (.iadd, 1) := by decide +kernel
theorem wL_law_1090 {x y : Int32} (kk : QW V iL_law 1091 [a0, a1, a2, a3, a4, a5, a6, a7, a8] (.int (x + y) :: st) h z bc bs Kr Kx) : QW V iL_law 1090 [a0, a1, a2, a3, a4, a5, a6, a7, a8] (.int y :: .int x :: st) h z bc bs Kr Kx := q_iadd dL_law_1090 kk
theorem dL_law_1091 : decode (i_b iL_law) 1091 = .ok (.iaload, 1) := by decide +kernel
theorem wL_law_1091 {j : Nat} {i : Int32} (hi : i = nI j) (hj : j < e_sL V) (hn : e_sL V < 2147483648) (kk : QW V iL_law 1092 [a0, a1, a2, a3, a4, a5, a6, a7, a8] (.int (e_xs V j) :: st) h z bc bs Kr Kx) : QW V iL_law 1091 [a0, a1, a2, a3, a4, a5, a6, a7, a8] (.int i :: .ref (e_sb V) :: st) h z bc bs Kr Kx := q_sld dL_law_1091 hi hj hn kk
theorem dL_law_1092 : decode (i_b iL_law) 1092 = .ok (.aload_n 0, 1) := by decide +kernel
theorem wL_law_1092 {x : Nat} (kk : QW V iL_law 1093 [some (.ref x), a1, a2, a3, a4, a5, a6, a7, a8] (.ref x :: st) h z bc bs Kr Kx) : QW V iL_law 1092 [some (.ref x), a1, a2, a3, a4, a5, a6, a7, a8] (st) h z bc bs Kr Kx := q_aload_n dL_law_1092 rfl rfl kk
theorem dL_law_1093 : decode (i_b iL_law) 1093 = .ok (.iload 5, 2) := by decide +kernel
theorem wL_law_1093 {x : Int32} (kk : QW V iL_law 1095 [a0, a1, a2, a3, a4, some (.int x), a6, a7, a8] (.int x :: st) h z bc bs Kr Kx) : QW V iL_law 1093 [a0, a1, a2, a3, a4, some (.int x), a6, a7, a8] (st) h z bc bs Kr Kx := q_iload dL_law_1093 rfl kk
theorem dL_law_1095 : decode (i_b iL_law) 1095 = .ok (.iconst 2, 1) := by decide +kernel
theorem wL_law_1095  (kk : QW V iL_law 1096 [a0, a1, a2, a3, a4, a5, a6, a7, a8] (.int (2) :: st) h z bc bs Kr Kx) : QW V iL_law 1095 [a0, a1, a2, a3, a4, a5, a6, a7, a8] (st) h z bc bs Kr Kx := q_iconst dL_law_1095 (by decide) kk
theorem dL_law_1096 : decode (i_b iL_law) 1096 = .ok (.iadd, 1) := by decide +kernel
theorem wL_law_1096 {x y : Int32} (kk : QW V iL_law 1097 [a0, a1, a2, a3, a4, a5, a6, a7, a8] (.int (x + y) :: st) h z bc bs Kr Kx) : QW V iL_law 1096 [a0, a1, a2, a3, a4, a5, a6, a7, a8] (.int y :: .int x :: st) h z bc bs Kr Kx := q_iadd dL_law_1096 kk
theorem dL_law_1097 : decode (i_b iL_law) 1097 = .ok (.iaload, 1) := by decide +kernel
theorem wL_law_1097 {j : Nat} {i : Int32} (hi : i = nI j) (hj : j < e_sL V) (hn : e_sL V < 2147483648) (kk : QW V iL_law 1098 [a0, a1, a2, a3, a4, a5, a6, a7, a8] (.int (e_xs V j) :: st) h z bc bs Kr Kx) : QW V iL_law 1097 [a0, a1, a2, a3, a4, a5, a6, a7, a8] (.int i :: .ref (e_sb V) :: st) h z bc bs Kr Kx := q_sld dL_law_1097 hi hj hn kk
theorem dL_law_1098 : decode (i_b iL_law) 1098 = .ok (.aload_n 3, 1) := by decide +kernel
theorem wL_law_1098 {x : Nat} (kk : QW V iL_law 1099 [a0, a1, a2, some (.ref x), a4, a5, a6, a7, a8] (.ref x :: st) h z bc bs Kr Kx) : QW V iL_law 1098 [a0, a1, a2, some (.ref x), a4, a5, a6, a7, a8] (st) h z bc bs Kr Kx := q_aload_n dL_law_1098 rfl rfl kk
theorem dL_law_1099 : decode (i_b iL_law) 1099 = .ok (.invokestatic 200, 3) := by decide +kernel
theorem wL_law_1099 {x0 : Nat} {x1 : Int32} {x2 : Int32} {x3 : Nat} (hm : QMi V iL_deadMoney [.ref x0, .int x1, .int x2, .ref x3] h z (fun r h' z' => QW V iL_law 1102 [a0, a1, a2, a3, a4, a5, a6, a7, a8] (.int r :: st) h' z' bc bs Kr Kx) Kx) (hW : (st.map fun v => v.category).sum ≤ 8 := by exact Nat.le_of_ble_eq_true rfl) : QW V iL_law 1099 [a0, a1, a2, a3, a4, a5, a6, a7, a8] (.ref x3 :: .int x2 :: .int x1 :: .ref x0 :: st) h z (bc + 3) (bs + 18) Kr Kx := q_callSX (y' := iL_deadMoney) (As := [.ref x0, .int x1, .int x2, .ref x3]) (rest := st) dL_law_1099 k4_154 k4_155 k1_0 hhL_deadMoney (by decide) hdL_deadMoney rfl (Nat.le_of_ble_eq_true rfl) (Nat.le_of_ble_eq_true rfl) hW rfl (QMi.run hm)
theorem dL_law_1102 : decode (i_b iL_law) 1102 = .ok (.istore 6, 2) := by decide +kernel
theorem wL_law_1102 {x : Int32} (kk : QW V iL_law 1104 [a0, a1, a2, a3, a4, a5, some (.int x), a7, a8] (st) h z bc bs Kr Kx) (hp : q_n2 a5 = true := by rfl) : QW V iL_law 1102 [a0, a1, a2, a3, a4, a5, a6, a7, a8] (.int x :: st) h z bc bs Kr Kx := q_istore dL_law_1102 (Nat.le_of_ble_eq_true rfl) hp kk
theorem dL_law_1104 : decode (i_b iL_law) 1104 = .ok (.aload_n 2, 1) := by decide +kernel
theorem wL_law_1104 {x : Nat} (kk : QW V iL_law 1105 [a0, a1, some (.ref x), a3, a4, a5, a6, a7, a8] (.ref x :: st) h z bc bs Kr Kx) : QW V iL_law 1104 [a0, a1, some (.ref x), a3, a4, a5, a6, a7, a8] (st) h z bc bs Kr Kx := q_aload_n dL_law_1104 rfl rfl kk
theorem dL_law_1105 : decode (i_b iL_law) 1105 = .ok (.aload_n 0, 1) := by decide +kernel
theorem wL_law_1105 {x : Nat} (kk : QW V iL_law 1106 [some (.ref x), a1, a2, a3, a4, a5, a6, a7, a8] (.ref x :: st) h z bc bs Kr Kx) : QW V iL_law 1105 [some (.ref x), a1, a2, a3, a4, a5, a6, a7, a8] (st) h z bc bs Kr Kx := q_aload_n dL_law_1105 rfl rfl kk
theorem dL_law_1106 : decode (i_b iL_law) 1106 = .ok (.iload 5, 2) := by decide +kernel
theorem wL_law_1106 {x : Int32} (kk : QW V iL_law 1108 [a0, a1, a2, a3, a4, some (.int x), a6, a7, a8] (.int x :: st) h z bc bs Kr Kx) : QW V iL_law 1106 [a0, a1, a2, a3, a4, some (.int x), a6, a7, a8] (st) h z bc bs Kr Kx := q_iload dL_law_1106 rfl kk
theorem dL_law_1108 : decode (i_b iL_law) 1108 = .ok (.iconst 1, 1) := by decide +kernel
theorem wL_law_1108  (kk : QW V iL_law 1109 [a0, a1, a2, a3, a4, a5, a6, a7, a8] (.int (1) :: st) h z bc bs Kr Kx) : QW V iL_law 1108 [a0, a1, a2, a3, a4, a5, a6, a7, a8] (st) h z bc bs Kr Kx := q_iconst dL_law_1108 (by decide) kk
theorem dL_law_1109 : decode (i_b iL_law) 1109 = .ok (.iadd, 1) := by decide +kernel
theorem wL_law_1109 {x y : Int32} (kk : QW V iL_law 1110 [a0, a1, a2, a3, a4, a5, a6, a7, a8] (.int (x + y) :: st) h z bc bs Kr Kx) : QW V iL_law 1109 [a0, a1, a2, a3, a4, a5, a6, a7, a8] (.int y :: .int x :: st) h z bc bs Kr Kx := q_iadd dL_law_1109 kk
theorem dL_law_1110 : decode (i_b iL_law) 1110 = .ok (.iaload, 1) := by decide +kernel
theorem wL_law_1110 {j : Nat} {i : Int32} (hi : i = nI j) (hj : j < e_sL V) (hn : e_sL V < 2147483648) (kk : QW V iL_law 1111 [a0, a1, a2, a3, a4, a5, a6, a7, a8] (.int (e_xs V j) :: st) h z bc bs Kr Kx) : QW V iL_law 1110 [a0, a1, a2, a3, a4, a5, a6, a7, a8] (.int i :: .ref (e_sb V) :: st) h z bc bs Kr Kx := q_sld dL_law_1110 hi hj hn kk
theorem dL_law_1111 : decode (i_b iL_law) 1111 = .ok (.aload_n 0, 1) := by decide +kernel
theorem wL_law_1111 {x : Nat} (kk : QW V iL_law 1112 [some (.ref x), a1, a2, a3, a4, a5, a6, a7, a8] (.ref x :: st) h z bc bs Kr Kx) : QW V iL_law 1111 [some (.ref x), a1, a2, a3, a4, a5, a6, a7, a8] (st) h z bc bs Kr Kx := q_aload_n dL_law_1111 rfl rfl kk
theorem dL_law_1112 : decode (i_b iL_law) 1112 = .ok (.iload 5, 2) := by decide +kernel
theorem wL_law_1112 {x : Int32} (kk : QW V iL_law 1114 [a0, a1, a2, a3, a4, some (.int x), a6, a7, a8] (.int x :: st) h z bc bs Kr Kx) : QW V iL_law 1112 [a0, a1, a2, a3, a4, some (.int x), a6, a7, a8] (st) h z bc bs Kr Kx := q_iload dL_law_1112 rfl kk
theorem dL_law_1114 : decode (i_b iL_law) 1114 = .ok (.iconst 2, 1) := by decide +kernel
theorem wL_law_1114  (kk : QW V iL_law 1115 [a0, a1, a2, a3, a4, a5, a6, a7, a8] (.int (2) :: st) h z bc bs Kr Kx) : QW V iL_law 1114 [a0, a1, a2, a3, a4, a5, a6, a7, a8] (st) h z bc bs Kr Kx := q_iconst dL_law_1114 (by decide) kk
theorem dL_law_1115 : decode (i_b iL_law) 1115 = .ok (.iadd, 1) := by decide +kernel
theorem wL_law_1115 {x y : Int32} (kk : QW V iL_law 1116 [a0, a1, a2, a3, a4, a5, a6, a7, a8] (.int (x + y) :: st) h z bc bs Kr Kx) : QW V iL_law 1115 [a0, a1, a2, a3, a4, a5, a6, a7, a8] (.int y :: .int x :: st) h z bc bs Kr Kx := q_iadd dL_law_1115 kk
theorem dL_law_1116 : decode (i_b iL_law) 1116 = .ok (.iaload, 1) := by decide +kernel
theorem wL_law_1116 {j : Nat} {i : Int32} (hi : i = nI j) (hj : j < e_sL V) (hn : e_sL V < 2147483648) (kk : QW V iL_law 1117 [a0, a1, a2, a3, a4, a5, a6, a7, a8] (.int (e_xs V j) :: st) h z bc bs Kr Kx) : QW V iL_law 1116 [a0, a1, a2, a3, a4, a5, a6, a7, a8] (.int i :: .ref (e_sb V) :: st) h z bc bs Kr Kx := q_sld dL_law_1116 hi hj hn kk
theorem dL_law_1117 : decode (i_b iL_law) 1117 = .ok (.invokevirtual 202, 3) := by decide +kernel
theorem wL_law_1117 {a : Nat} {fs : List Value} {x0 : Int32} {x1 : Int32} (hb : h a = some (.inr (10, fs))) (hm : QMi V iX9_deadMoney [.ref a, .int x0, .int x1] h z (fun r h' z' => QW V iL_law 1120 [a0, a1, a2, a3, a4, a5, a6, a7, a8] (.int r :: st) h' z' bc bs Kr Kx) Kx) (hW : (st.map fun v => v.category).sum ≤ 8 := by exact Nat.le_of_ble_eq_true rfl) : QW V iL_law 1117 [a0, a1, a2, a3, a4, a5, a6, a7, a8] (.int x1 :: .int x0 :: .ref a :: st) h z bc bs Kr Kx := q_callV (y' := iX9_deadMoney) (As := [.int x0, .int x1]) (rest := st) dL_law_1117 k7_177 k7_178 k7_179 k1_10 hhX9_deadMoney rfl hdX9_deadMoney rfl rfl (Nat.le_of_ble_eq_true rfl) (Nat.le_of_ble_eq_true rfl) hW rfl hb (QMi.run hm)
theorem dL_law_1120 : decode (i_b iL_law) 1120 = .ok (.istore 7, 2) := by decide +kernel
theorem wL_law_1120 {x : Int32} (kk : QW V iL_law 1122 [a0, a1, a2, a3, a4, a5, a6, some (.int x), a8] (st) h z bc bs Kr Kx) (hp : q_n2 a6 = true := by rfl) : QW V iL_law 1120 [a0, a1, a2, a3, a4, a5, a6, a7, a8] (.int x :: st) h z bc bs Kr Kx := q_istore dL_law_1120 (Nat.le_of_ble_eq_true rfl) hp kk
theorem dL_law_1122 : decode (i_b iL_law) 1122 = .ok (.aload_n 2, 1) := by decide +kernel
theorem wL_law_1122 {x : Nat} (kk : QW V iL_law 1123 [a0, a1, some (.ref x), a3, a4, a5, a6, a7, a8] (.ref x :: st) h z bc bs Kr Kx) : QW V iL_law 1122 [a0, a1, some (.ref x), a3, a4, a5, a6, a7, a8] (st) h z bc bs Kr Kx := q_aload_n dL_law_1122 rfl rfl kk
theorem dL_law_1123 : decode (i_b iL_law) 1123 = .ok (.invokevirtual 150, 3) := by decide +kernel
theorem wL_law_1123 {a : Nat} {fs : List Value}  (hb : h a = some (.inr (10, fs))) (hm : QMi V iX9_thrown [.ref a] h z (fun r h' z' => QW V iL_law 1126 [a0, a1, a2, a3, a4, a5, a6, a7, a8] (.int r :: st) h' z' bc bs Kr Kx) Kx) (hW : (st.map fun v => v.category).sum ≤ 8 := by exact Nat.le_of_ble_eq_true rfl) : QW V iL_law 1123 [a0, a1, a2, a3, a4, a5, a6, a7, a8] (.ref a :: st) h z bc bs Kr Kx := q_callV (y' := iX9_thrown) (As := []) (rest := st) dL_law_1123 k6_80 k6_81 k6_82 k1_10 hhX9_thrown rfl hdX9_thrown rfl rfl (Nat.le_of_ble_eq_true rfl) (Nat.le_of_ble_eq_true rfl) hW rfl hb (QMi.run hm)
theorem dL_law_1126 : decode (i_b iL_law) 1126 = .ok (.iload 6, 2) := by decide +kernel
theorem wL_law_1126 {x : Int32} (kk : QW V iL_law 1128 [a0, a1, a2, a3, a4, a5, some (.int x), a7, a8] (.int x :: st) h z bc bs Kr Kx) : QW V iL_law 1126 [a0, a1, a2, a3, a4, a5, some (.int x), a7, a8] (st) h z bc bs Kr Kx := q_iload dL_law_1126 rfl kk
theorem dL_law_1128 : decode (i_b iL_law) 1128 = .ok (.if_icmp .eq 5, 3) := by decide +kernel
theorem wL_law_1128 {x y : Int32} (kt : x = y → QW V iL_law 1133 [a0, a1, a2, a3, a4, a5, a6, a7, a8] (st) h z bc bs Kr Kx) (kf : ¬ x = y → QW V iL_law 1131 [a0, a1, a2, a3, a4, a5, a6, a7, a8] (st) h z bc bs Kr Kx) : QW V iL_law 1128 [a0, a1, a2, a3, a4, a5, a6, a7, a8] (.int y :: .int x :: st) h z bc bs Kr Kx := q_icmp_eq dL_law_1128 (by decide) kt kf
theorem dL_law_1131 : decode (i_b iL_law) 1131 = .ok (.iconst 0, 1) := by decide +kernel
theorem wL_law_1131  (kk : QW V iL_law 1132 [a0, a1, a2, a3, a4, a5, a6, a7, a8] (.int (0) :: st) h z bc bs Kr Kx) : QW V iL_law 1131 [a0, a1, a2, a3, a4, a5, a6, a7, a8] (st) h z bc bs Kr Kx := q_iconst dL_law_1131 (by decide) kk
theorem dL_law_1132 : decode (i_b iL_law) 1132 = .ok (.ireturn, 1) := by decide +kernel
theorem wL_law_1132 {x : Int32} {P : Int32 → q_H → Option Nat → Prop} (hk : P x h z) (hn : narrow .boolean (.int x) = .int x := by first | rfl | exact q_b_n _) : QW V iL_law 1132 [a0, a1, a2, a3, a4, a5, a6, a7, a8] [.int x] h z bc bs (q_Ki P) Kx := q_iret dL_law_1132 rfl hn ⟨x, rfl, hk⟩
theorem dL_law_1133 : decode (i_b iL_law) 1133 = .ok (.iload 6, 2) := by decide +kernel
theorem wL_law_1133 {x : Int32} (kk : QW V iL_law 1135 [a0, a1, a2, a3, a4, a5, some (.int x), a7, a8] (.int x :: st) h z bc bs Kr Kx) : QW V iL_law 1133 [a0, a1, a2, a3, a4, a5, some (.int x), a7, a8] (st) h z bc bs Kr Kx := q_iload dL_law_1133 rfl kk
theorem dL_law_1135 : decode (i_b iL_law) 1135 = .ok (.ifCond .ne 15, 3) := by decide +kernel
theorem wL_law_1135 {x : Int32} (kt : ¬ x = 0 → QW V iL_law 1150 [a0, a1, a2, a3, a4, a5, a6, a7, a8] (st) h z bc bs Kr Kx) (kf : x = 0 → QW V iL_law 1138 [a0, a1, a2, a3, a4, a5, a6, a7, a8] (st) h z bc bs Kr Kx) : QW V iL_law 1135 [a0, a1, a2, a3, a4, a5, a6, a7, a8] (.int x :: st) h z bc bs Kr Kx := q_if_ne dL_law_1135 (by decide) kt kf
theorem dL_law_1138 : decode (i_b iL_law) 1138 = .ok (.aload_n 3, 1) := by decide +kernel
theorem wL_law_1138 {x : Nat} (kk : QW V iL_law 1139 [a0, a1, a2, some (.ref x), a4, a5, a6, a7, a8] (.ref x :: st) h z bc bs Kr Kx) : QW V iL_law 1138 [a0, a1, a2, some (.ref x), a4, a5, a6, a7, a8] (st) h z bc bs Kr Kx := q_aload_n dL_law_1138 rfl rfl kk
theorem dL_law_1139 : decode (i_b iL_law) 1139 = .ok (.iconst 0, 1) := by decide +kernel
theorem wL_law_1139  (kk : QW V iL_law 1140 [a0, a1, a2, a3, a4, a5, a6, a7, a8] (.int (0) :: st) h z bc bs Kr Kx) : QW V iL_law 1139 [a0, a1, a2, a3, a4, a5, a6, a7, a8] (st) h z bc bs Kr Kx := q_iconst dL_law_1139 (by decide) kk
theorem dL_law_1140 : decode (i_b iL_law) 1140 = .ok (.laload, 1) := by decide +kernel
theorem wL_law_1140 {a n j : Nat} {f : Nat → Int64} {i : Int32} (ha : h a = some (.inl (2, n, .inr (.inl f)))) (hi : i = nI j) (hj : j < n) (hn : n < 2147483648) (kk : QW V iL_law 1141 [a0, a1, a2, a3, a4, a5, a6, a7, a8] (.long (f j) :: st) h z bc bs Kr Kx) : QW V iL_law 1140 [a0, a1, a2, a3, a4, a5, a6, a7, a8] (.int i :: .ref a :: st) h z bc bs Kr Kx := q_lald dL_law_1140 ha hi hj hn kk
theorem dL_law_1141 : decode (i_b iL_law) 1141 = .ok (.iload 7, 2) := by decide +kernel
theorem wL_law_1141 {x : Int32} (kk : QW V iL_law 1143 [a0, a1, a2, a3, a4, a5, a6, some (.int x), a8] (.int x :: st) h z bc bs Kr Kx) : QW V iL_law 1141 [a0, a1, a2, a3, a4, a5, a6, some (.int x), a8] (st) h z bc bs Kr Kx := q_iload dL_law_1141 rfl kk
theorem dL_law_1143 : decode (i_b iL_law) 1143 = .ok (.i2l, 1) := by decide +kernel
theorem wL_law_1143 {x : Int32} (kk : QW V iL_law 1144 [a0, a1, a2, a3, a4, a5, a6, a7, a8] (.long (x.toInt64) :: st) h z bc bs Kr Kx) : QW V iL_law 1143 [a0, a1, a2, a3, a4, a5, a6, a7, a8] (.int x :: st) h z bc bs Kr Kx := q_i2l dL_law_1143 kk
theorem dL_law_1144 : decode (i_b iL_law) 1144 = .ok (.lcmp, 1) := by decide +kernel
theorem dL_law_1145 : decode (i_b iL_law) 1145 = .ok (.ifCond .eq 5, 3) := by decide +kernel
theorem wL_law_1144 {x y : Int64} (kt : x = y → QW V iL_law 1150 [a0, a1, a2, a3, a4, a5, a6, a7, a8] (st) h z bc bs Kr Kx) (kf : ¬ x = y → QW V iL_law 1148 [a0, a1, a2, a3, a4, a5, a6, a7, a8] (st) h z bc bs Kr Kx) : QW V iL_law 1144 [a0, a1, a2, a3, a4, a5, a6, a7, a8] (.long y :: .long x :: st) h z bc bs Kr Kx := q_lcmp dL_law_1144 (q_if_eq dL_law_1145 (by decide) (fun q => kt ((q_lc_eq x y).mp q)) (fun q => kf (q_lcn_eq q)))
theorem dL_law_1148 : decode (i_b iL_law) 1148 = .ok (.iconst 0, 1) := by decide +kernel
theorem wL_law_1148  (kk : QW V iL_law 1149 [a0, a1, a2, a3, a4, a5, a6, a7, a8] (.int (0) :: st) h z bc bs Kr Kx) : QW V iL_law 1148 [a0, a1, a2, a3, a4, a5, a6, a7, a8] (st) h z bc bs Kr Kx := q_iconst dL_law_1148 (by decide) kk
theorem dL_law_1149 : decode (i_b iL_law) 1149 = .ok (.ireturn, 1) := by decide +kernel
theorem wL_law_1149 {x : Int32} {P : Int32 → q_H → Option Nat → Prop} (hk : P x h z) (hn : narrow .boolean (.int x) = .int x := by first | rfl | exact q_b_n _) : QW V iL_law 1149 [a0, a1, a2, a3, a4, a5, a6, a7, a8] [.int x] h z bc bs (q_Ki P) Kx := q_iret dL_law_1149 rfl hn ⟨x, rfl, hk⟩
theorem dL_law_1150 : decode (i_b iL_law) 1150 = .ok (.goto 1601, 3) := by decide +kernel
theorem wL_law_1150  (kk : QW V iL_law 2751 [a0, a1, a2, a3, a4, a5, a6, a7, a8] (st) h z bc bs Kr Kx) : QW V iL_law 1150 [a0, a1, a2, a3, a4, a5, a6, a7, a8] (st) h z bc bs Kr Kx := q_goto dL_law_1150 (by decide) kk
theorem dL_law_1153 : decode (i_b iL_law) 1153 = .ok (.aload_n 1, 1) := by decide +kernel
theorem wL_law_1153 {x : Nat} (kk : QW V iL_law 1154 [a0, some (.ref x), a2, a3, a4, a5, a6, a7, a8] (.ref x :: st) h z bc bs Kr Kx) : QW V iL_law 1153 [a0, some (.ref x), a2, a3, a4, a5, a6, a7, a8] (st) h z bc bs Kr Kx := q_aload_n dL_law_1153 rfl rfl kk
theorem dL_law_1154 : decode (i_b iL_law) 1154 = .ok (.aload_n 0, 1) := by decide +kernel
theorem wL_law_1154 {x : Nat} (kk : QW V iL_law 1155 [some (.ref x), a1, a2, a3, a4, a5, a6, a7, a8] (.ref x :: st) h z bc bs Kr Kx) : QW V iL_law 1154 [some (.ref x), a1, a2, a3, a4, a5, a6, a7, a8] (st) h z bc bs Kr Kx := q_aload_n dL_law_1154 rfl rfl kk
theorem dL_law_1155 : decode (i_b iL_law) 1155 = .ok (.iload 5, 2) := by decide +kernel
theorem wL_law_1155 {x : Int32} (kk : QW V iL_law 1157 [a0, a1, a2, a3, a4, some (.int x), a6, a7, a8] (.int x :: st) h z bc bs Kr Kx) : QW V iL_law 1155 [a0, a1, a2, a3, a4, some (.int x), a6, a7, a8] (st) h z bc bs Kr Kx := q_iload dL_law_1155 rfl kk
theorem dL_law_1157 : decode (i_b iL_law) 1157 = .ok (.iconst 1, 1) := by decide +kernel
theorem wL_law_1157  (kk : QW V iL_law 1158 [a0, a1, a2, a3, a4, a5, a6, a7, a8] (.int (1) :: st) h z bc bs Kr Kx) : QW V iL_law 1157 [a0, a1, a2, a3, a4, a5, a6, a7, a8] (st) h z bc bs Kr Kx := q_iconst dL_law_1157 (by decide) kk
theorem dL_law_1158 : decode (i_b iL_law) 1158 = .ok (.iadd, 1) := by decide +kernel
theorem wL_law_1158 {x y : Int32} (kk : QW V iL_law 1159 [a0, a1, a2, a3, a4, a5, a6, a7, a8] (.int (x + y) :: st) h z bc bs Kr Kx) : QW V iL_law 1158 [a0, a1, a2, a3, a4, a5, a6, a7, a8] (.int y :: .int x :: st) h z bc bs Kr Kx := q_iadd dL_law_1158 kk
theorem dL_law_1159 : decode (i_b iL_law) 1159 = .ok (.iaload, 1) := by decide +kernel
theorem wL_law_1159 {j : Nat} {i : Int32} (hi : i = nI j) (hj : j < e_sL V) (hn : e_sL V < 2147483648) (kk : QW V iL_law 1160 [a0, a1, a2, a3, a4, a5, a6, a7, a8] (.int (e_xs V j) :: st) h z bc bs Kr Kx) : QW V iL_law 1159 [a0, a1, a2, a3, a4, a5, a6, a7, a8] (.int i :: .ref (e_sb V) :: st) h z bc bs Kr Kx := q_sld dL_law_1159 hi hj hn kk
theorem dL_law_1160 : decode (i_b iL_law) 1160 = .ok (.aload_n 3, 1) := by decide +kernel
theorem wL_law_1160 {x : Nat} (kk : QW V iL_law 1161 [a0, a1, a2, some (.ref x), a4, a5, a6, a7, a8] (.ref x :: st) h z bc bs Kr Kx) : QW V iL_law 1160 [a0, a1, a2, some (.ref x), a4, a5, a6, a7, a8] (st) h z bc bs Kr Kx := q_aload_n dL_law_1160 rfl rfl kk
theorem dL_law_1161 : decode (i_b iL_law) 1161 = .ok (.invokestatic 203, 3) := by decide +kernel
theorem wL_law_1161 {x0 : Nat} {x1 : Int32} {x2 : Nat} (hm : QMi V iL_room [.ref x0, .int x1, .ref x2] h z (fun r h' z' => QW V iL_law 1164 [a0, a1, a2, a3, a4, a5, a6, a7, a8] (.int r :: st) h' z' bc bs Kr Kx) Kx) (hW : (st.map fun v => v.category).sum ≤ 8 := by exact Nat.le_of_ble_eq_true rfl) : QW V iL_law 1161 [a0, a1, a2, a3, a4, a5, a6, a7, a8] (.ref x2 :: .int x1 :: .ref x0 :: st) h z (bc + 2) (bs + 12) Kr Kx := q_callSX (y' := iL_room) (As := [.ref x0, .int x1, .ref x2]) (rest := st) dL_law_1161 k4_162 k4_163 k1_0 hhL_room (by decide) hdL_room rfl (Nat.le_of_ble_eq_true rfl) (Nat.le_of_ble_eq_true rfl) hW rfl (QMi.run hm)
theorem dL_law_1164 : decode (i_b iL_law) 1164 = .ok (.istore 6, 2) := by decide +kernel
theorem wL_law_1164 {x : Int32} (kk : QW V iL_law 1166 [a0, a1, a2, a3, a4, a5, some (.int x), a7, a8] (st) h z bc bs Kr Kx) (hp : q_n2 a5 = true := by rfl) : QW V iL_law 1164 [a0, a1, a2, a3, a4, a5, a6, a7, a8] (.int x :: st) h z bc bs Kr Kx := q_istore dL_law_1164 (Nat.le_of_ble_eq_true rfl) hp kk
theorem dL_law_1166 : decode (i_b iL_law) 1166 = .ok (.aload_n 2, 1) := by decide +kernel
theorem wL_law_1166 {x : Nat} (kk : QW V iL_law 1167 [a0, a1, some (.ref x), a3, a4, a5, a6, a7, a8] (.ref x :: st) h z bc bs Kr Kx) : QW V iL_law 1166 [a0, a1, some (.ref x), a3, a4, a5, a6, a7, a8] (st) h z bc bs Kr Kx := q_aload_n dL_law_1166 rfl rfl kk
theorem dL_law_1167 : decode (i_b iL_law) 1167 = .ok (.aload_n 0, 1) := by decide +kernel
theorem wL_law_1167 {x : Nat} (kk : QW V iL_law 1168 [some (.ref x), a1, a2, a3, a4, a5, a6, a7, a8] (.ref x :: st) h z bc bs Kr Kx) : QW V iL_law 1167 [some (.ref x), a1, a2, a3, a4, a5, a6, a7, a8] (st) h z bc bs Kr Kx := q_aload_n dL_law_1167 rfl rfl kk
theorem dL_law_1168 : decode (i_b iL_law) 1168 = .ok (.iload 5, 2) := by decide +kernel
theorem wL_law_1168 {x : Int32} (kk : QW V iL_law 1170 [a0, a1, a2, a3, a4, some (.int x), a6, a7, a8] (.int x :: st) h z bc bs Kr Kx) : QW V iL_law 1168 [a0, a1, a2, a3, a4, some (.int x), a6, a7, a8] (st) h z bc bs Kr Kx := q_iload dL_law_1168 rfl kk
theorem dL_law_1170 : decode (i_b iL_law) 1170 = .ok (.iconst 1, 1) := by decide +kernel
theorem wL_law_1170  (kk : QW V iL_law 1171 [a0, a1, a2, a3, a4, a5, a6, a7, a8] (.int (1) :: st) h z bc bs Kr Kx) : QW V iL_law 1170 [a0, a1, a2, a3, a4, a5, a6, a7, a8] (st) h z bc bs Kr Kx := q_iconst dL_law_1170 (by decide) kk
theorem dL_law_1171 : decode (i_b iL_law) 1171 = .ok (.iadd, 1) := by decide +kernel
theorem wL_law_1171 {x y : Int32} (kk : QW V iL_law 1172 [a0, a1, a2, a3, a4, a5, a6, a7, a8] (.int (x + y) :: st) h z bc bs Kr Kx) : QW V iL_law 1171 [a0, a1, a2, a3, a4, a5, a6, a7, a8] (.int y :: .int x :: st) h z bc bs Kr Kx := q_iadd dL_law_1171 kk
theorem dL_law_1172 : decode (i_b iL_law) 1172 = .ok (.iaload, 1) := by decide +kernel
theorem wL_law_1172 {j : Nat} {i : Int32} (hi : i = nI j) (hj : j < e_sL V) (hn : e_sL V < 2147483648) (kk : QW V iL_law 1173 [a0, a1, a2, a3, a4, a5, a6, a7, a8] (.int (e_xs V j) :: st) h z bc bs Kr Kx) : QW V iL_law 1172 [a0, a1, a2, a3, a4, a5, a6, a7, a8] (.int i :: .ref (e_sb V) :: st) h z bc bs Kr Kx := q_sld dL_law_1172 hi hj hn kk
theorem dL_law_1173 : decode (i_b iL_law) 1173 = .ok (.invokevirtual 205, 3) := by decide +kernel
theorem wL_law_1173 {a : Nat} {fs : List Value} {x0 : Int32} (hb : h a = some (.inr (10, fs))) (hm : QMi V iX9_room [.ref a, .int x0] h z (fun r h' z' => QW V iL_law 1176 [a0, a1, a2, a3, a4, a5, a6, a7, a8] (.int r :: st) h' z' bc bs Kr Kx) Kx) (hW : (st.map fun v => v.category).sum ≤ 8 := by exact Nat.le_of_ble_eq_true rfl) : QW V iL_law 1173 [a0, a1, a2, a3, a4, a5, a6, a7, a8] (.int x0 :: .ref a :: st) h z bc bs Kr Kx := q_callV (y' := iX9_room) (As := [.int x0]) (rest := st) dL_law_1173 k7_181 k7_182 k7_183 k1_10 hhX9_room rfl hdX9_room rfl rfl (Nat.le_of_ble_eq_true rfl) (Nat.le_of_ble_eq_true rfl) hW rfl hb (QMi.run hm)
theorem dL_law_1176 : decode (i_b iL_law) 1176 = .ok (.istore 7, 2) := by decide +kernel
theorem wL_law_1176 {x : Int32} (kk : QW V iL_law 1178 [a0, a1, a2, a3, a4, a5, a6, some (.int x), a8] (st) h z bc bs Kr Kx) (hp : q_n2 a6 = true := by rfl) : QW V iL_law 1176 [a0, a1, a2, a3, a4, a5, a6, a7, a8] (.int x :: st) h z bc bs Kr Kx := q_istore dL_law_1176 (Nat.le_of_ble_eq_true rfl) hp kk
theorem dL_law_1178 : decode (i_b iL_law) 1178 = .ok (.aload_n 2, 1) := by decide +kernel
theorem wL_law_1178 {x : Nat} (kk : QW V iL_law 1179 [a0, a1, some (.ref x), a3, a4, a5, a6, a7, a8] (.ref x :: st) h z bc bs Kr Kx) : QW V iL_law 1178 [a0, a1, some (.ref x), a3, a4, a5, a6, a7, a8] (st) h z bc bs Kr Kx := q_aload_n dL_law_1178 rfl rfl kk
theorem dL_law_1179 : decode (i_b iL_law) 1179 = .ok (.invokevirtual 150, 3) := by decide +kernel
theorem wL_law_1179 {a : Nat} {fs : List Value}  (hb : h a = some (.inr (10, fs))) (hm : QMi V iX9_thrown [.ref a] h z (fun r h' z' => QW V iL_law 1182 [a0, a1, a2, a3, a4, a5, a6, a7, a8] (.int r :: st) h' z' bc bs Kr Kx) Kx) (hW : (st.map fun v => v.category).sum ≤ 8 := by exact Nat.le_of_ble_eq_true rfl) : QW V iL_law 1179 [a0, a1, a2, a3, a4, a5, a6, a7, a8] (.ref a :: st) h z bc bs Kr Kx := q_callV (y' := iX9_thrown) (As := []) (rest := st) dL_law_1179 k6_80 k6_81 k6_82 k1_10 hhX9_thrown rfl hdX9_thrown rfl rfl (Nat.le_of_ble_eq_true rfl) (Nat.le_of_ble_eq_true rfl) hW rfl hb (QMi.run hm)
theorem dL_law_1182 : decode (i_b iL_law) 1182 = .ok (.iload 6, 2) := by decide +kernel
theorem wL_law_1182 {x : Int32} (kk : QW V iL_law 1184 [a0, a1, a2, a3, a4, a5, some (.int x), a7, a8] (.int x :: st) h z bc bs Kr Kx) : QW V iL_law 1182 [a0, a1, a2, a3, a4, a5, some (.int x), a7, a8] (st) h z bc bs Kr Kx := q_iload dL_law_1182 rfl kk
theorem dL_law_1184 : decode (i_b iL_law) 1184 = .ok (.if_icmp .eq 5, 3) := by decide +kernel
theorem wL_law_1184 {x y : Int32} (kt : x = y → QW V iL_law 1189 [a0, a1, a2, a3, a4, a5, a6, a7, a8] (st) h z bc bs Kr Kx) (kf : ¬ x = y → QW V iL_law 1187 [a0, a1, a2, a3, a4, a5, a6, a7, a8] (st) h z bc bs Kr Kx) : QW V iL_law 1184 [a0, a1, a2, a3, a4, a5, a6, a7, a8] (.int y :: .int x :: st) h z bc bs Kr Kx := q_icmp_eq dL_law_1184 (by decide) kt kf
theorem dL_law_1187 : decode (i_b iL_law) 1187 = .ok (.iconst 0, 1) := by decide +kernel
theorem wL_law_1187  (kk : QW V iL_law 1188 [a0, a1, a2, a3, a4, a5, a6, a7, a8] (.int (0) :: st) h z bc bs Kr Kx) : QW V iL_law 1187 [a0, a1, a2, a3, a4, a5, a6, a7, a8] (st) h z bc bs Kr Kx := q_iconst dL_law_1187 (by decide) kk
theorem dL_law_1188 : decode (i_b iL_law) 1188 = .ok (.ireturn, 1) := by decide +kernel
theorem wL_law_1188 {x : Int32} {P : Int32 → q_H → Option Nat → Prop} (hk : P x h z) (hn : narrow .boolean (.int x) = .int x := by first | rfl | exact q_b_n _) : QW V iL_law 1188 [a0, a1, a2, a3, a4, a5, a6, a7, a8] [.int x] h z bc bs (q_Ki P) Kx := q_iret dL_law_1188 rfl hn ⟨x, rfl, hk⟩
theorem dL_law_1189 : decode (i_b iL_law) 1189 = .ok (.iload 6, 2) := by decide +kernel
theorem wL_law_1189 {x : Int32} (kk : QW V iL_law 1191 [a0, a1, a2, a3, a4, a5, some (.int x), a7, a8] (.int x :: st) h z bc bs Kr Kx) : QW V iL_law 1189 [a0, a1, a2, a3, a4, a5, some (.int x), a7, a8] (st) h z bc bs Kr Kx := q_iload dL_law_1189 rfl kk
theorem dL_law_1191 : decode (i_b iL_law) 1191 = .ok (.ifCond .ne 15, 3) := by decide +kernel
theorem wL_law_1191 {x : Int32} (kt : ¬ x = 0 → QW V iL_law 1206 [a0, a1, a2, a3, a4, a5, a6, a7, a8] (st) h z bc bs Kr Kx) (kf : x = 0 → QW V iL_law 1194 [a0, a1, a2, a3, a4, a5, a6, a7, a8] (st) h z bc bs Kr Kx) : QW V iL_law 1191 [a0, a1, a2, a3, a4, a5, a6, a7, a8] (.int x :: st) h z bc bs Kr Kx := q_if_ne dL_law_1191 (by decide) kt kf
theorem dL_law_1194 : decode (i_b iL_law) 1194 = .ok (.aload_n 3, 1) := by decide +kernel
theorem wL_law_1194 {x : Nat} (kk : QW V iL_law 1195 [a0, a1, a2, some (.ref x), a4, a5, a6, a7, a8] (.ref x :: st) h z bc bs Kr Kx) : QW V iL_law 1194 [a0, a1, a2, some (.ref x), a4, a5, a6, a7, a8] (st) h z bc bs Kr Kx := q_aload_n dL_law_1194 rfl rfl kk
theorem dL_law_1195 : decode (i_b iL_law) 1195 = .ok (.iconst 0, 1) := by decide +kernel
theorem wL_law_1195  (kk : QW V iL_law 1196 [a0, a1, a2, a3, a4, a5, a6, a7, a8] (.int (0) :: st) h z bc bs Kr Kx) : QW V iL_law 1195 [a0, a1, a2, a3, a4, a5, a6, a7, a8] (st) h z bc bs Kr Kx := q_iconst dL_law_1195 (by decide) kk
theorem dL_law_1196 : decode (i_b iL_law) 1196 = .ok (.laload, 1) := by decide +kernel
theorem wL_law_1196 {a n j : Nat} {f : Nat → Int64} {i : Int32} (ha : h a = some (.inl (2, n, .inr (.inl f)))) (hi : i = nI j) (hj : j < n) (hn : n < 2147483648) (kk : QW V iL_law 1197 [a0, a1, a2, a3, a4, a5, a6, a7, a8] (.long (f j) :: st) h z bc bs Kr Kx) : QW V iL_law 1196 [a0, a1, a2, a3, a4, a5, a6, a7, a8] (.int i :: .ref a :: st) h z bc bs Kr Kx := q_lald dL_law_1196 ha hi hj hn kk
theorem dL_law_1197 : decode (i_b iL_law) 1197 = .ok (.iload 7, 2) := by decide +kernel
theorem wL_law_1197 {x : Int32} (kk : QW V iL_law 1199 [a0, a1, a2, a3, a4, a5, a6, some (.int x), a8] (.int x :: st) h z bc bs Kr Kx) : QW V iL_law 1197 [a0, a1, a2, a3, a4, a5, a6, some (.int x), a8] (st) h z bc bs Kr Kx := q_iload dL_law_1197 rfl kk
theorem dL_law_1199 : decode (i_b iL_law) 1199 = .ok (.i2l, 1) := by decide +kernel
theorem wL_law_1199 {x : Int32} (kk : QW V iL_law 1200 [a0, a1, a2, a3, a4, a5, a6, a7, a8] (.long (x.toInt64) :: st) h z bc bs Kr Kx) : QW V iL_law 1199 [a0, a1, a2, a3, a4, a5, a6, a7, a8] (.int x :: st) h z bc bs Kr Kx := q_i2l dL_law_1199 kk
theorem dL_law_1200 : decode (i_b iL_law) 1200 = .ok (.lcmp, 1) := by decide +kernel
theorem dL_law_1201 : decode (i_b iL_law) 1201 = .ok (.ifCond .eq 5, 3) := by decide +kernel
theorem wL_law_1200 {x y : Int64} (kt : x = y → QW V iL_law 1206 [a0, a1, a2, a3, a4, a5, a6, a7, a8] (st) h z bc bs Kr Kx) (kf : ¬ x = y → QW V iL_law 1204 [a0, a1, a2, a3, a4, a5, a6, a7, a8] (st) h z bc bs Kr Kx) : QW V iL_law 1200 [a0, a1, a2, a3, a4, a5, a6, a7, a8] (.long y :: .long x :: st) h z bc bs Kr Kx := q_lcmp dL_law_1200 (q_if_eq dL_law_1201 (by decide) (fun q => kt ((q_lc_eq x y).mp q)) (fun q => kf (q_lcn_eq q)))
theorem dL_law_1204 : decode (i_b iL_law) 1204 = .ok (.iconst 0, 1) := by decide +kernel
theorem wL_law_1204  (kk : QW V iL_law 1205 [a0, a1, a2, a3, a4, a5, a6, a7, a8] (.int (0) :: st) h z bc bs Kr Kx) : QW V iL_law 1204 [a0, a1, a2, a3, a4, a5, a6, a7, a8] (st) h z bc bs Kr Kx := q_iconst dL_law_1204 (by decide) kk
theorem dL_law_1205 : decode (i_b iL_law) 1205 = .ok (.ireturn, 1) := by decide +kernel
theorem wL_law_1205 {x : Int32} {P : Int32 → q_H → Option Nat → Prop} (hk : P x h z) (hn : narrow .boolean (.int x) = .int x := by first | rfl | exact q_b_n _) : QW V iL_law 1205 [a0, a1, a2, a3, a4, a5, a6, a7, a8] [.int x] h z bc bs (q_Ki P) Kx := q_iret dL_law_1205 rfl hn ⟨x, rfl, hk⟩
theorem dL_law_1206 : decode (i_b iL_law) 1206 = .ok (.goto 1545, 3) := by decide +kernel
theorem wL_law_1206  (kk : QW V iL_law 2751 [a0, a1, a2, a3, a4, a5, a6, a7, a8] (st) h z bc bs Kr Kx) : QW V iL_law 1206 [a0, a1, a2, a3, a4, a5, a6, a7, a8] (st) h z bc bs Kr Kx := q_goto dL_law_1206 (by decide) kk
theorem dL_law_1209 : decode (i_b iL_law) 1209 = .ok (.aload_n 1, 1) := by decide +kernel
theorem wL_law_1209 {x : Nat} (kk : QW V iL_law 1210 [a0, some (.ref x), a2, a3, a4, a5, a6, a7, a8] (.ref x :: st) h z bc bs Kr Kx) : QW V iL_law 1209 [a0, some (.ref x), a2, a3, a4, a5, a6, a7, a8] (st) h z bc bs Kr Kx := q_aload_n dL_law_1209 rfl rfl kk
theorem dL_law_1210 : decode (i_b iL_law) 1210 = .ok (.aload_n 0, 1) := by decide +kernel
theorem wL_law_1210 {x : Nat} (kk : QW V iL_law 1211 [some (.ref x), a1, a2, a3, a4, a5, a6, a7, a8] (.ref x :: st) h z bc bs Kr Kx) : QW V iL_law 1210 [some (.ref x), a1, a2, a3, a4, a5, a6, a7, a8] (st) h z bc bs Kr Kx := q_aload_n dL_law_1210 rfl rfl kk
theorem dL_law_1211 : decode (i_b iL_law) 1211 = .ok (.iload 5, 2) := by decide +kernel
theorem wL_law_1211 {x : Int32} (kk : QW V iL_law 1213 [a0, a1, a2, a3, a4, some (.int x), a6, a7, a8] (.int x :: st) h z bc bs Kr Kx) : QW V iL_law 1211 [a0, a1, a2, a3, a4, some (.int x), a6, a7, a8] (st) h z bc bs Kr Kx := q_iload dL_law_1211 rfl kk
theorem dL_law_1213 : decode (i_b iL_law) 1213 = .ok (.iconst 1, 1) := by decide +kernel
theorem wL_law_1213  (kk : QW V iL_law 1214 [a0, a1, a2, a3, a4, a5, a6, a7, a8] (.int (1) :: st) h z bc bs Kr Kx) : QW V iL_law 1213 [a0, a1, a2, a3, a4, a5, a6, a7, a8] (st) h z bc bs Kr Kx := q_iconst dL_law_1213 (by decide) kk
theorem dL_law_1214 : decode (i_b iL_law) 1214 = .ok (.iadd, 1) := by decide +kernel
theorem wL_law_1214 {x y : Int32} (kk : QW V iL_law 1215 [a0, a1, a2, a3, a4, a5, a6, a7, a8] (.int (x + y) :: st) h z bc bs Kr Kx) : QW V iL_law 1214 [a0, a1, a2, a3, a4, a5, a6, a7, a8] (.int y :: .int x :: st) h z bc bs Kr Kx := q_iadd dL_law_1214 kk
theorem dL_law_1215 : decode (i_b iL_law) 1215 = .ok (.iaload, 1) := by decide +kernel
theorem wL_law_1215 {j : Nat} {i : Int32} (hi : i = nI j) (hj : j < e_sL V) (hn : e_sL V < 2147483648) (kk : QW V iL_law 1216 [a0, a1, a2, a3, a4, a5, a6, a7, a8] (.int (e_xs V j) :: st) h z bc bs Kr Kx) : QW V iL_law 1215 [a0, a1, a2, a3, a4, a5, a6, a7, a8] (.int i :: .ref (e_sb V) :: st) h z bc bs Kr Kx := q_sld dL_law_1215 hi hj hn kk
theorem dL_law_1216 : decode (i_b iL_law) 1216 = .ok (.aload_n 3, 1) := by decide +kernel
theorem wL_law_1216 {x : Nat} (kk : QW V iL_law 1217 [a0, a1, a2, some (.ref x), a4, a5, a6, a7, a8] (.ref x :: st) h z bc bs Kr Kx) : QW V iL_law 1216 [a0, a1, a2, some (.ref x), a4, a5, a6, a7, a8] (st) h z bc bs Kr Kx := q_aload_n dL_law_1216 rfl rfl kk
theorem dL_law_1217 : decode (i_b iL_law) 1217 = .ok (.invokestatic 206, 3) := by decide +kernel
theorem wL_law_1217 {x0 : Nat} {x1 : Int32} {x2 : Nat} (hm : QMi V iL_tax [.ref x0, .int x1, .ref x2] h z (fun r h' z' => QW V iL_law 1220 [a0, a1, a2, a3, a4, a5, a6, a7, a8] (.int r :: st) h' z' bc bs Kr Kx) Kx) (hW : (st.map fun v => v.category).sum ≤ 8 := by exact Nat.le_of_ble_eq_true rfl) : QW V iL_law 1217 [a0, a1, a2, a3, a4, a5, a6, a7, a8] (.ref x2 :: .int x1 :: .ref x0 :: st) h z (bc + 2) (bs + 12) Kr Kx := q_callSX (y' := iL_tax) (As := [.ref x0, .int x1, .ref x2]) (rest := st) dL_law_1217 k4_169 k4_170 k1_0 hhL_tax (by decide) hdL_tax rfl (Nat.le_of_ble_eq_true rfl) (Nat.le_of_ble_eq_true rfl) hW rfl (QMi.run hm)
theorem dL_law_1220 : decode (i_b iL_law) 1220 = .ok (.istore 6, 2) := by decide +kernel
theorem wL_law_1220 {x : Int32} (kk : QW V iL_law 1222 [a0, a1, a2, a3, a4, a5, some (.int x), a7, a8] (st) h z bc bs Kr Kx) (hp : q_n2 a5 = true := by rfl) : QW V iL_law 1220 [a0, a1, a2, a3, a4, a5, a6, a7, a8] (.int x :: st) h z bc bs Kr Kx := q_istore dL_law_1220 (Nat.le_of_ble_eq_true rfl) hp kk
theorem dL_law_1222 : decode (i_b iL_law) 1222 = .ok (.aload_n 2, 1) := by decide +kernel
theorem wL_law_1222 {x : Nat} (kk : QW V iL_law 1223 [a0, a1, some (.ref x), a3, a4, a5, a6, a7, a8] (.ref x :: st) h z bc bs Kr Kx) : QW V iL_law 1222 [a0, a1, some (.ref x), a3, a4, a5, a6, a7, a8] (st) h z bc bs Kr Kx := q_aload_n dL_law_1222 rfl rfl kk
theorem dL_law_1223 : decode (i_b iL_law) 1223 = .ok (.aload_n 0, 1) := by decide +kernel
theorem wL_law_1223 {x : Nat} (kk : QW V iL_law 1224 [some (.ref x), a1, a2, a3, a4, a5, a6, a7, a8] (.ref x :: st) h z bc bs Kr Kx) : QW V iL_law 1223 [some (.ref x), a1, a2, a3, a4, a5, a6, a7, a8] (st) h z bc bs Kr Kx := q_aload_n dL_law_1223 rfl rfl kk
theorem dL_law_1224 : decode (i_b iL_law) 1224 = .ok (.iload 5, 2) := by decide +kernel
theorem wL_law_1224 {x : Int32} (kk : QW V iL_law 1226 [a0, a1, a2, a3, a4, some (.int x), a6, a7, a8] (.int x :: st) h z bc bs Kr Kx) : QW V iL_law 1224 [a0, a1, a2, a3, a4, some (.int x), a6, a7, a8] (st) h z bc bs Kr Kx := q_iload dL_law_1224 rfl kk
theorem dL_law_1226 : decode (i_b iL_law) 1226 = .ok (.iconst 1, 1) := by decide +kernel
theorem wL_law_1226  (kk : QW V iL_law 1227 [a0, a1, a2, a3, a4, a5, a6, a7, a8] (.int (1) :: st) h z bc bs Kr Kx) : QW V iL_law 1226 [a0, a1, a2, a3, a4, a5, a6, a7, a8] (st) h z bc bs Kr Kx := q_iconst dL_law_1226 (by decide) kk
theorem dL_law_1227 : decode (i_b iL_law) 1227 = .ok (.iadd, 1) := by decide +kernel
theorem wL_law_1227 {x y : Int32} (kk : QW V iL_law 1228 [a0, a1, a2, a3, a4, a5, a6, a7, a8] (.int (x + y) :: st) h z bc bs Kr Kx) : QW V iL_law 1227 [a0, a1, a2, a3, a4, a5, a6, a7, a8] (.int y :: .int x :: st) h z bc bs Kr Kx := q_iadd dL_law_1227 kk
theorem dL_law_1228 : decode (i_b iL_law) 1228 = .ok (.iaload, 1) := by decide +kernel
theorem wL_law_1228 {j : Nat} {i : Int32} (hi : i = nI j) (hj : j < e_sL V) (hn : e_sL V < 2147483648) (kk : QW V iL_law 1229 [a0, a1, a2, a3, a4, a5, a6, a7, a8] (.int (e_xs V j) :: st) h z bc bs Kr Kx) : QW V iL_law 1228 [a0, a1, a2, a3, a4, a5, a6, a7, a8] (.int i :: .ref (e_sb V) :: st) h z bc bs Kr Kx := q_sld dL_law_1228 hi hj hn kk
theorem dL_law_1229 : decode (i_b iL_law) 1229 = .ok (.invokevirtual 208, 3) := by decide +kernel
theorem wL_law_1229 {a : Nat} {fs : List Value} {x0 : Int32} (hb : h a = some (.inr (10, fs))) (hm : QMl V iX9_tax [.ref a, .int x0] h z (fun r h' z' => QW V iL_law 1232 [a0, a1, a2, a3, a4, a5, a6, a7, a8] (.long r :: st) h' z' bc bs Kr Kx) Kx) (hW : (st.map fun v => v.category).sum ≤ 8 := by exact Nat.le_of_ble_eq_true rfl) : QW V iL_law 1229 [a0, a1, a2, a3, a4, a5, a6, a7, a8] (.int x0 :: .ref a :: st) h z bc bs Kr Kx := q_callV (y' := iX9_tax) (As := [.int x0]) (rest := st) dL_law_1229 k7_185 k7_186 k7_187 k1_10 hhX9_tax rfl hdX9_tax rfl rfl (Nat.le_of_ble_eq_true rfl) (Nat.le_of_ble_eq_true rfl) hW rfl hb (QMl.run hm)
theorem dL_law_1232 : decode (i_b iL_law) 1232 = .ok (.lstore 7, 2) := by decide +kernel
theorem wL_law_1232 {x : Int64} (kk : QW V iL_law 1234 [a0, a1, a2, a3, a4, a5, a6, some (.long x), none] (st) h z bc bs Kr Kx) (hp : q_n2 a6 = true := by rfl) : QW V iL_law 1232 [a0, a1, a2, a3, a4, a5, a6, a7, a8] (.long x :: st) h z bc bs Kr Kx := q_lstore dL_law_1232 (Nat.le_of_ble_eq_true rfl) hp kk
theorem dL_law_1234 : decode (i_b iL_law) 1234 = .ok (.aload_n 2, 1) := by decide +kernel
theorem wL_law_1234 {x : Nat} (kk : QW V iL_law 1235 [a0, a1, some (.ref x), a3, a4, a5, a6, a7, a8] (.ref x :: st) h z bc bs Kr Kx) : QW V iL_law 1234 [a0, a1, some (.ref x), a3, a4, a5, a6, a7, a8] (st) h z bc bs Kr Kx := q_aload_n dL_law_1234 rfl rfl kk
theorem dL_law_1235 : decode (i_b iL_law) 1235 = .ok (.invokevirtual 150, 3) := by decide +kernel
theorem wL_law_1235 {a : Nat} {fs : List Value}  (hb : h a = some (.inr (10, fs))) (hm : QMi V iX9_thrown [.ref a] h z (fun r h' z' => QW V iL_law 1238 [a0, a1, a2, a3, a4, a5, a6, a7, a8] (.int r :: st) h' z' bc bs Kr Kx) Kx) (hW : (st.map fun v => v.category).sum ≤ 8 := by exact Nat.le_of_ble_eq_true rfl) : QW V iL_law 1235 [a0, a1, a2, a3, a4, a5, a6, a7, a8] (.ref a :: st) h z bc bs Kr Kx := q_callV (y' := iX9_thrown) (As := []) (rest := st) dL_law_1235 k6_80 k6_81 k6_82 k1_10 hhX9_thrown rfl hdX9_thrown rfl rfl (Nat.le_of_ble_eq_true rfl) (Nat.le_of_ble_eq_true rfl) hW rfl hb (QMi.run hm)
theorem dL_law_1238 : decode (i_b iL_law) 1238 = .ok (.iload 6, 2) := by decide +kernel
theorem wL_law_1238 {x : Int32} (kk : QW V iL_law 1240 [a0, a1, a2, a3, a4, a5, some (.int x), a7, a8] (.int x :: st) h z bc bs Kr Kx) : QW V iL_law 1238 [a0, a1, a2, a3, a4, a5, some (.int x), a7, a8] (st) h z bc bs Kr Kx := q_iload dL_law_1238 rfl kk
theorem dL_law_1240 : decode (i_b iL_law) 1240 = .ok (.if_icmp .eq 5, 3) := by decide +kernel
theorem wL_law_1240 {x y : Int32} (kt : x = y → QW V iL_law 1245 [a0, a1, a2, a3, a4, a5, a6, a7, a8] (st) h z bc bs Kr Kx) (kf : ¬ x = y → QW V iL_law 1243 [a0, a1, a2, a3, a4, a5, a6, a7, a8] (st) h z bc bs Kr Kx) : QW V iL_law 1240 [a0, a1, a2, a3, a4, a5, a6, a7, a8] (.int y :: .int x :: st) h z bc bs Kr Kx := q_icmp_eq dL_law_1240 (by decide) kt kf
theorem dL_law_1243 : decode (i_b iL_law) 1243 = .ok (.iconst 0, 1) := by decide +kernel
theorem wL_law_1243  (kk : QW V iL_law 1244 [a0, a1, a2, a3, a4, a5, a6, a7, a8] (.int (0) :: st) h z bc bs Kr Kx) : QW V iL_law 1243 [a0, a1, a2, a3, a4, a5, a6, a7, a8] (st) h z bc bs Kr Kx := q_iconst dL_law_1243 (by decide) kk
theorem dL_law_1244 : decode (i_b iL_law) 1244 = .ok (.ireturn, 1) := by decide +kernel
theorem wL_law_1244 {x : Int32} {P : Int32 → q_H → Option Nat → Prop} (hk : P x h z) (hn : narrow .boolean (.int x) = .int x := by first | rfl | exact q_b_n _) : QW V iL_law 1244 [a0, a1, a2, a3, a4, a5, a6, a7, a8] [.int x] h z bc bs (q_Ki P) Kx := q_iret dL_law_1244 rfl hn ⟨x, rfl, hk⟩
theorem dL_law_1245 : decode (i_b iL_law) 1245 = .ok (.iload 6, 2) := by decide +kernel
theorem wL_law_1245 {x : Int32} (kk : QW V iL_law 1247 [a0, a1, a2, a3, a4, a5, some (.int x), a7, a8] (.int x :: st) h z bc bs Kr Kx) : QW V iL_law 1245 [a0, a1, a2, a3, a4, a5, some (.int x), a7, a8] (st) h z bc bs Kr Kx := q_iload dL_law_1245 rfl kk
theorem dL_law_1247 : decode (i_b iL_law) 1247 = .ok (.ifCond .ne 14, 3) := by decide +kernel
theorem wL_law_1247 {x : Int32} (kt : ¬ x = 0 → QW V iL_law 1261 [a0, a1, a2, a3, a4, a5, a6, a7, a8] (st) h z bc bs Kr Kx) (kf : x = 0 → QW V iL_law 1250 [a0, a1, a2, a3, a4, a5, a6, a7, a8] (st) h z bc bs Kr Kx) : QW V iL_law 1247 [a0, a1, a2, a3, a4, a5, a6, a7, a8] (.int x :: st) h z bc bs Kr Kx := q_if_ne dL_law_1247 (by decide) kt kf
theorem dL_law_1250 : decode (i_b iL_law) 1250 = .ok (.aload_n 3, 1) := by decide +kernel
theorem wL_law_1250 {x : Nat} (kk : QW V iL_law 1251 [a0, a1, a2, some (.ref x), a4, a5, a6, a7, a8] (.ref x :: st) h z bc bs Kr Kx) : QW V iL_law 1250 [a0, a1, a2, some (.ref x), a4, a5, a6, a7, a8] (st) h z bc bs Kr Kx := q_aload_n dL_law_1250 rfl rfl kk
theorem dL_law_1251 : decode (i_b iL_law) 1251 = .ok (.iconst 0, 1) := by decide +kernel
theorem wL_law_1251  (kk : QW V iL_law 1252 [a0, a1, a2, a3, a4, a5, a6, a7, a8] (.int (0) :: st) h z bc bs Kr Kx) : QW V iL_law 1251 [a0, a1, a2, a3, a4, a5, a6, a7, a8] (st) h z bc bs Kr Kx := q_iconst dL_law_1251 (by decide) kk
theorem dL_law_1252 : decode (i_b iL_law) 1252 = .ok (.laload, 1) := by decide +kernel
theorem wL_law_1252 {a n j : Nat} {f : Nat → Int64} {i : Int32} (ha : h a = some (.inl (2, n, .inr (.inl f)))) (hi : i = nI j) (hj : j < n) (hn : n < 2147483648) (kk : QW V iL_law 1253 [a0, a1, a2, a3, a4, a5, a6, a7, a8] (.long (f j) :: st) h z bc bs Kr Kx) : QW V iL_law 1252 [a0, a1, a2, a3, a4, a5, a6, a7, a8] (.int i :: .ref a :: st) h z bc bs Kr Kx := q_lald dL_law_1252 ha hi hj hn kk
theorem dL_law_1253 : decode (i_b iL_law) 1253 = .ok (.lload 7, 2) := by decide +kernel
theorem wL_law_1253 {x : Int64} (kk : QW V iL_law 1255 [a0, a1, a2, a3, a4, a5, a6, some (.long x), a8] (.long x :: st) h z bc bs Kr Kx) : QW V iL_law 1253 [a0, a1, a2, a3, a4, a5, a6, some (.long x), a8] (st) h z bc bs Kr Kx := q_lload dL_law_1253 rfl kk
theorem dL_law_1255 : decode (i_b iL_law) 1255 = .ok (.lcmp, 1) := by decide +kernel
theorem dL_law_1256 : decode (i_b iL_law) 1256 = .ok (.ifCond .eq 5, 3) := by decide +kernel
theorem wL_law_1255 {x y : Int64} (kt : x = y → QW V iL_law 1261 [a0, a1, a2, a3, a4, a5, a6, a7, a8] (st) h z bc bs Kr Kx) (kf : ¬ x = y → QW V iL_law 1259 [a0, a1, a2, a3, a4, a5, a6, a7, a8] (st) h z bc bs Kr Kx) : QW V iL_law 1255 [a0, a1, a2, a3, a4, a5, a6, a7, a8] (.long y :: .long x :: st) h z bc bs Kr Kx := q_lcmp dL_law_1255 (q_if_eq dL_law_1256 (by decide) (fun q => kt ((q_lc_eq x y).mp q)) (fun q => kf (q_lcn_eq q)))
theorem dL_law_1259 : decode (i_b iL_law) 1259 = .ok (.iconst 0, 1) := by decide +kernel
theorem wL_law_1259  (kk : QW V iL_law 1260 [a0, a1, a2, a3, a4, a5, a6, a7, a8] (.int (0) :: st) h z bc bs Kr Kx) : QW V iL_law 1259 [a0, a1, a2, a3, a4, a5, a6, a7, a8] (st) h z bc bs Kr Kx := q_iconst dL_law_1259 (by decide) kk
theorem dL_law_1260 : decode (i_b iL_law) 1260 = .ok (.ireturn, 1) := by decide +kernel
theorem wL_law_1260 {x : Int32} {P : Int32 → q_H → Option Nat → Prop} (hk : P x h z) (hn : narrow .boolean (.int x) = .int x := by first | rfl | exact q_b_n _) : QW V iL_law 1260 [a0, a1, a2, a3, a4, a5, a6, a7, a8] [.int x] h z bc bs (q_Ki P) Kx := q_iret dL_law_1260 rfl hn ⟨x, rfl, hk⟩
theorem dL_law_1261 : decode (i_b iL_law) 1261 = .ok (.goto 1490, 3) := by decide +kernel
theorem wL_law_1261  (kk : QW V iL_law 2751 [a0, a1, a2, a3, a4, a5, a6, a7, a8] (st) h z bc bs Kr Kx) : QW V iL_law 1261 [a0, a1, a2, a3, a4, a5, a6, a7, a8] (st) h z bc bs Kr Kx := q_goto dL_law_1261 (by decide) kk
theorem dL_law_1264 : decode (i_b iL_law) 1264 = .ok (.aload_n 1, 1) := by decide +kernel
theorem wL_law_1264 {x : Nat} (kk : QW V iL_law 1265 [a0, some (.ref x), a2, a3, a4, a5, a6, a7, a8] (.ref x :: st) h z bc bs Kr Kx) : QW V iL_law 1264 [a0, some (.ref x), a2, a3, a4, a5, a6, a7, a8] (st) h z bc bs Kr Kx := q_aload_n dL_law_1264 rfl rfl kk
theorem dL_law_1265 : decode (i_b iL_law) 1265 = .ok (.aload_n 0, 1) := by decide +kernel
theorem wL_law_1265 {x : Nat} (kk : QW V iL_law 1266 [some (.ref x), a1, a2, a3, a4, a5, a6, a7, a8] (.ref x :: st) h z bc bs Kr Kx) : QW V iL_law 1265 [some (.ref x), a1, a2, a3, a4, a5, a6, a7, a8] (st) h z bc bs Kr Kx := q_aload_n dL_law_1265 rfl rfl kk
theorem dL_law_1266 : decode (i_b iL_law) 1266 = .ok (.iload 5, 2) := by decide +kernel
theorem wL_law_1266 {x : Int32} (kk : QW V iL_law 1268 [a0, a1, a2, a3, a4, some (.int x), a6, a7, a8] (.int x :: st) h z bc bs Kr Kx) : QW V iL_law 1266 [a0, a1, a2, a3, a4, some (.int x), a6, a7, a8] (st) h z bc bs Kr Kx := q_iload dL_law_1266 rfl kk
theorem dL_law_1268 : decode (i_b iL_law) 1268 = .ok (.iconst 1, 1) := by decide +kernel
theorem wL_law_1268  (kk : QW V iL_law 1269 [a0, a1, a2, a3, a4, a5, a6, a7, a8] (.int (1) :: st) h z bc bs Kr Kx) : QW V iL_law 1268 [a0, a1, a2, a3, a4, a5, a6, a7, a8] (st) h z bc bs Kr Kx := q_iconst dL_law_1268 (by decide) kk
theorem dL_law_1269 : decode (i_b iL_law) 1269 = .ok (.iadd, 1) := by decide +kernel
theorem wL_law_1269 {x y : Int32} (kk : QW V iL_law 1270 [a0, a1, a2, a3, a4, a5, a6, a7, a8] (.int (x + y) :: st) h z bc bs Kr Kx) : QW V iL_law 1269 [a0, a1, a2, a3, a4, a5, a6, a7, a8] (.int y :: .int x :: st) h z bc bs Kr Kx := q_iadd dL_law_1269 kk
theorem dL_law_1270 : decode (i_b iL_law) 1270 = .ok (.iaload, 1) := by decide +kernel
theorem wL_law_1270 {j : Nat} {i : Int32} (hi : i = nI j) (hj : j < e_sL V) (hn : e_sL V < 2147483648) (kk : QW V iL_law 1271 [a0, a1, a2, a3, a4, a5, a6, a7, a8] (.int (e_xs V j) :: st) h z bc bs Kr Kx) : QW V iL_law 1270 [a0, a1, a2, a3, a4, a5, a6, a7, a8] (.int i :: .ref (e_sb V) :: st) h z bc bs Kr Kx := q_sld dL_law_1270 hi hj hn kk
theorem dL_law_1271 : decode (i_b iL_law) 1271 = .ok (.aload_n 3, 1) := by decide +kernel
theorem wL_law_1271 {x : Nat} (kk : QW V iL_law 1272 [a0, a1, a2, some (.ref x), a4, a5, a6, a7, a8] (.ref x :: st) h z bc bs Kr Kx) : QW V iL_law 1271 [a0, a1, a2, some (.ref x), a4, a5, a6, a7, a8] (st) h z bc bs Kr Kx := q_aload_n dL_law_1271 rfl rfl kk
theorem dL_law_1272 : decode (i_b iL_law) 1272 = .ok (.invokestatic 209, 3) := by decide +kernel
theorem wL_law_1272 {x0 : Nat} {x1 : Int32} {x2 : Nat} (hm : QMi V iL_paid [.ref x0, .int x1, .ref x2] h z (fun r h' z' => QW V iL_law 1275 [a0, a1, a2, a3, a4, a5, a6, a7, a8] (.int r :: st) h' z' bc bs Kr Kx) Kx) (hW : (st.map fun v => v.category).sum ≤ 8 := by exact Nat.le_of_ble_eq_true rfl) : QW V iL_law 1272 [a0, a1, a2, a3, a4, a5, a6, a7, a8] (.ref x2 :: .int x1 :: .ref x0 :: st) h z (bc + 2) (bs + 12) Kr Kx := q_callSX (y' := iL_paid) (As := [.ref x0, .int x1, .ref x2]) (rest := st) dL_law_1272 k4_176 k4_177 k1_0 hhL_paid (by decide) hdL_paid rfl (Nat.le_of_ble_eq_true rfl) (Nat.le_of_ble_eq_true rfl) hW rfl (QMi.run hm)
theorem dL_law_1275 : decode (i_b iL_law) 1275 = .ok (.istore 6, 2) := by decide +kernel
theorem wL_law_1275 {x : Int32} (kk : QW V iL_law 1277 [a0, a1, a2, a3, a4, a5, some (.int x), a7, a8] (st) h z bc bs Kr Kx) (hp : q_n2 a5 = true := by rfl) : QW V iL_law 1275 [a0, a1, a2, a3, a4, a5, a6, a7, a8] (.int x :: st) h z bc bs Kr Kx := q_istore dL_law_1275 (Nat.le_of_ble_eq_true rfl) hp kk
theorem dL_law_1277 : decode (i_b iL_law) 1277 = .ok (.aload_n 2, 1) := by decide +kernel
theorem wL_law_1277 {x : Nat} (kk : QW V iL_law 1278 [a0, a1, some (.ref x), a3, a4, a5, a6, a7, a8] (.ref x :: st) h z bc bs Kr Kx) : QW V iL_law 1277 [a0, a1, some (.ref x), a3, a4, a5, a6, a7, a8] (st) h z bc bs Kr Kx := q_aload_n dL_law_1277 rfl rfl kk
theorem dL_law_1278 : decode (i_b iL_law) 1278 = .ok (.aload_n 0, 1) := by decide +kernel
theorem wL_law_1278 {x : Nat} (kk : QW V iL_law 1279 [some (.ref x), a1, a2, a3, a4, a5, a6, a7, a8] (.ref x :: st) h z bc bs Kr Kx) : QW V iL_law 1278 [some (.ref x), a1, a2, a3, a4, a5, a6, a7, a8] (st) h z bc bs Kr Kx := q_aload_n dL_law_1278 rfl rfl kk
theorem dL_law_1279 : decode (i_b iL_law) 1279 = .ok (.iload 5, 2) := by decide +kernel
theorem wL_law_1279 {x : Int32} (kk : QW V iL_law 1281 [a0, a1, a2, a3, a4, some (.int x), a6, a7, a8] (.int x :: st) h z bc bs Kr Kx) : QW V iL_law 1279 [a0, a1, a2, a3, a4, some (.int x), a6, a7, a8] (st) h z bc bs Kr Kx := q_iload dL_law_1279 rfl kk
theorem dL_law_1281 : decode (i_b iL_law) 1281 = .ok (.iconst 1, 1) := by decide +kernel
theorem wL_law_1281  (kk : QW V iL_law 1282 [a0, a1, a2, a3, a4, a5, a6, a7, a8] (.int (1) :: st) h z bc bs Kr Kx) : QW V iL_law 1281 [a0, a1, a2, a3, a4, a5, a6, a7, a8] (st) h z bc bs Kr Kx := q_iconst dL_law_1281 (by decide) kk
theorem dL_law_1282 : decode (i_b iL_law) 1282 = .ok (.iadd, 1) := by decide +kernel
theorem wL_law_1282 {x y : Int32} (kk : QW V iL_law 1283 [a0, a1, a2, a3, a4, a5, a6, a7, a8] (.int (x + y) :: st) h z bc bs Kr Kx) : QW V iL_law 1282 [a0, a1, a2, a3, a4, a5, a6, a7, a8] (.int y :: .int x :: st) h z bc bs Kr Kx := q_iadd dL_law_1282 kk
theorem dL_law_1283 : decode (i_b iL_law) 1283 = .ok (.iaload, 1) := by decide +kernel
theorem wL_law_1283 {j : Nat} {i : Int32} (hi : i = nI j) (hj : j < e_sL V) (hn : e_sL V < 2147483648) (kk : QW V iL_law 1284 [a0, a1, a2, a3, a4, a5, a6, a7, a8] (.int (e_xs V j) :: st) h z bc bs Kr Kx) : QW V iL_law 1283 [a0, a1, a2, a3, a4, a5, a6, a7, a8] (.int i :: .ref (e_sb V) :: st) h z bc bs Kr Kx := q_sld dL_law_1283 hi hj hn kk
theorem dL_law_1284 : decode (i_b iL_law) 1284 = .ok (.invokevirtual 211, 3) := by decide +kernel
theorem wL_law_1284 {a : Nat} {fs : List Value} {x0 : Int32} (hb : h a = some (.inr (10, fs))) (hm : QMl V iX9_paid [.ref a, .int x0] h z (fun r h' z' => QW V iL_law 1287 [a0, a1, a2, a3, a4, a5, a6, a7, a8] (.long r :: st) h' z' bc bs Kr Kx) Kx) (hW : (st.map fun v => v.category).sum ≤ 8 := by exact Nat.le_of_ble_eq_true rfl) : QW V iL_law 1284 [a0, a1, a2, a3, a4, a5, a6, a7, a8] (.int x0 :: .ref a :: st) h z bc bs Kr Kx := q_callV (y' := iX9_paid) (As := [.int x0]) (rest := st) dL_law_1284 k7_189 k7_190 k7_191 k1_10 hhX9_paid rfl hdX9_paid rfl rfl (Nat.le_of_ble_eq_true rfl) (Nat.le_of_ble_eq_true rfl) hW rfl hb (QMl.run hm)
theorem dL_law_1287 : decode (i_b iL_law) 1287 = .ok (.lstore 7, 2) := by decide +kernel
theorem wL_law_1287 {x : Int64} (kk : QW V iL_law 1289 [a0, a1, a2, a3, a4, a5, a6, some (.long x), none] (st) h z bc bs Kr Kx) (hp : q_n2 a6 = true := by rfl) : QW V iL_law 1287 [a0, a1, a2, a3, a4, a5, a6, a7, a8] (.long x :: st) h z bc bs Kr Kx := q_lstore dL_law_1287 (Nat.le_of_ble_eq_true rfl) hp kk
theorem dL_law_1289 : decode (i_b iL_law) 1289 = .ok (.aload_n 2, 1) := by decide +kernel
theorem wL_law_1289 {x : Nat} (kk : QW V iL_law 1290 [a0, a1, some (.ref x), a3, a4, a5, a6, a7, a8] (.ref x :: st) h z bc bs Kr Kx) : QW V iL_law 1289 [a0, a1, some (.ref x), a3, a4, a5, a6, a7, a8] (st) h z bc bs Kr Kx := q_aload_n dL_law_1289 rfl rfl kk
theorem dL_law_1290 : decode (i_b iL_law) 1290 = .ok (.invokevirtual 150, 3) := by decide +kernel
theorem wL_law_1290 {a : Nat} {fs : List Value}  (hb : h a = some (.inr (10, fs))) (hm : QMi V iX9_thrown [.ref a] h z (fun r h' z' => QW V iL_law 1293 [a0, a1, a2, a3, a4, a5, a6, a7, a8] (.int r :: st) h' z' bc bs Kr Kx) Kx) (hW : (st.map fun v => v.category).sum ≤ 8 := by exact Nat.le_of_ble_eq_true rfl) : QW V iL_law 1290 [a0, a1, a2, a3, a4, a5, a6, a7, a8] (.ref a :: st) h z bc bs Kr Kx := q_callV (y' := iX9_thrown) (As := []) (rest := st) dL_law_1290 k6_80 k6_81 k6_82 k1_10 hhX9_thrown rfl hdX9_thrown rfl rfl (Nat.le_of_ble_eq_true rfl) (Nat.le_of_ble_eq_true rfl) hW rfl hb (QMi.run hm)
theorem dL_law_1293 : decode (i_b iL_law) 1293 = .ok (.iload 6, 2) := by decide +kernel
theorem wL_law_1293 {x : Int32} (kk : QW V iL_law 1295 [a0, a1, a2, a3, a4, a5, some (.int x), a7, a8] (.int x :: st) h z bc bs Kr Kx) : QW V iL_law 1293 [a0, a1, a2, a3, a4, a5, some (.int x), a7, a8] (st) h z bc bs Kr Kx := q_iload dL_law_1293 rfl kk
theorem dL_law_1295 : decode (i_b iL_law) 1295 = .ok (.if_icmp .eq 5, 3) := by decide +kernel
theorem wL_law_1295 {x y : Int32} (kt : x = y → QW V iL_law 1300 [a0, a1, a2, a3, a4, a5, a6, a7, a8] (st) h z bc bs Kr Kx) (kf : ¬ x = y → QW V iL_law 1298 [a0, a1, a2, a3, a4, a5, a6, a7, a8] (st) h z bc bs Kr Kx) : QW V iL_law 1295 [a0, a1, a2, a3, a4, a5, a6, a7, a8] (.int y :: .int x :: st) h z bc bs Kr Kx := q_icmp_eq dL_law_1295 (by decide) kt kf
theorem dL_law_1298 : decode (i_b iL_law) 1298 = .ok (.iconst 0, 1) := by decide +kernel
theorem wL_law_1298  (kk : QW V iL_law 1299 [a0, a1, a2, a3, a4, a5, a6, a7, a8] (.int (0) :: st) h z bc bs Kr Kx) : QW V iL_law 1298 [a0, a1, a2, a3, a4, a5, a6, a7, a8] (st) h z bc bs Kr Kx := q_iconst dL_law_1298 (by decide) kk
theorem dL_law_1299 : decode (i_b iL_law) 1299 = .ok (.ireturn, 1) := by decide +kernel
theorem wL_law_1299 {x : Int32} {P : Int32 → q_H → Option Nat → Prop} (hk : P x h z) (hn : narrow .boolean (.int x) = .int x := by first | rfl | exact q_b_n _) : QW V iL_law 1299 [a0, a1, a2, a3, a4, a5, a6, a7, a8] [.int x] h z bc bs (q_Ki P) Kx := q_iret dL_law_1299 rfl hn ⟨x, rfl, hk⟩
theorem dL_law_1300 : decode (i_b iL_law) 1300 = .ok (.iload 6, 2) := by decide +kernel
theorem wL_law_1300 {x : Int32} (kk : QW V iL_law 1302 [a0, a1, a2, a3, a4, a5, some (.int x), a7, a8] (.int x :: st) h z bc bs Kr Kx) : QW V iL_law 1300 [a0, a1, a2, a3, a4, a5, some (.int x), a7, a8] (st) h z bc bs Kr Kx := q_iload dL_law_1300 rfl kk
theorem dL_law_1302 : decode (i_b iL_law) 1302 = .ok (.ifCond .ne 14, 3) := by decide +kernel
theorem wL_law_1302 {x : Int32} (kt : ¬ x = 0 → QW V iL_law 1316 [a0, a1, a2, a3, a4, a5, a6, a7, a8] (st) h z bc bs Kr Kx) (kf : x = 0 → QW V iL_law 1305 [a0, a1, a2, a3, a4, a5, a6, a7, a8] (st) h z bc bs Kr Kx) : QW V iL_law 1302 [a0, a1, a2, a3, a4, a5, a6, a7, a8] (.int x :: st) h z bc bs Kr Kx := q_if_ne dL_law_1302 (by decide) kt kf
theorem dL_law_1305 : decode (i_b iL_law) 1305 = .ok (.aload_n 3, 1) := by decide +kernel
theorem wL_law_1305 {x : Nat} (kk : QW V iL_law 1306 [a0, a1, a2, some (.ref x), a4, a5, a6, a7, a8] (.ref x :: st) h z bc bs Kr Kx) : QW V iL_law 1305 [a0, a1, a2, some (.ref x), a4, a5, a6, a7, a8] (st) h z bc bs Kr Kx := q_aload_n dL_law_1305 rfl rfl kk
theorem dL_law_1306 : decode (i_b iL_law) 1306 = .ok (.iconst 0, 1) := by decide +kernel
theorem wL_law_1306  (kk : QW V iL_law 1307 [a0, a1, a2, a3, a4, a5, a6, a7, a8] (.int (0) :: st) h z bc bs Kr Kx) : QW V iL_law 1306 [a0, a1, a2, a3, a4, a5, a6, a7, a8] (st) h z bc bs Kr Kx := q_iconst dL_law_1306 (by decide) kk
theorem dL_law_1307 : decode (i_b iL_law) 1307 = .ok (.laload, 1) := by decide +kernel
theorem wL_law_1307 {a n j : Nat} {f : Nat → Int64} {i : Int32} (ha : h a = some (.inl (2, n, .inr (.inl f)))) (hi : i = nI j) (hj : j < n) (hn : n < 2147483648) (kk : QW V iL_law 1308 [a0, a1, a2, a3, a4, a5, a6, a7, a8] (.long (f j) :: st) h z bc bs Kr Kx) : QW V iL_law 1307 [a0, a1, a2, a3, a4, a5, a6, a7, a8] (.int i :: .ref a :: st) h z bc bs Kr Kx := q_lald dL_law_1307 ha hi hj hn kk
theorem dL_law_1308 : decode (i_b iL_law) 1308 = .ok (.lload 7, 2) := by decide +kernel
theorem wL_law_1308 {x : Int64} (kk : QW V iL_law 1310 [a0, a1, a2, a3, a4, a5, a6, some (.long x), a8] (.long x :: st) h z bc bs Kr Kx) : QW V iL_law 1308 [a0, a1, a2, a3, a4, a5, a6, some (.long x), a8] (st) h z bc bs Kr Kx := q_lload dL_law_1308 rfl kk
theorem dL_law_1310 : decode (i_b iL_law) 1310 = .ok (.lcmp, 1) := by decide +kernel
theorem dL_law_1311 : decode (i_b iL_law) 1311 = .ok (.ifCond .eq 5, 3) := by decide +kernel
theorem wL_law_1310 {x y : Int64} (kt : x = y → QW V iL_law 1316 [a0, a1, a2, a3, a4, a5, a6, a7, a8] (st) h z bc bs Kr Kx) (kf : ¬ x = y → QW V iL_law 1314 [a0, a1, a2, a3, a4, a5, a6, a7, a8] (st) h z bc bs Kr Kx) : QW V iL_law 1310 [a0, a1, a2, a3, a4, a5, a6, a7, a8] (.long y :: .long x :: st) h z bc bs Kr Kx := q_lcmp dL_law_1310 (q_if_eq dL_law_1311 (by decide) (fun q => kt ((q_lc_eq x y).mp q)) (fun q => kf (q_lcn_eq q)))
theorem dL_law_1314 : decode (i_b iL_law) 1314 = .ok (.iconst 0, 1) := by decide +kernel
theorem wL_law_1314  (kk : QW V iL_law 1315 [a0, a1, a2, a3, a4, a5, a6, a7, a8] (.int (0) :: st) h z bc bs Kr Kx) : QW V iL_law 1314 [a0, a1, a2, a3, a4, a5, a6, a7, a8] (st) h z bc bs Kr Kx := q_iconst dL_law_1314 (by decide) kk
theorem dL_law_1315 : decode (i_b iL_law) 1315 = .ok (.ireturn, 1) := by decide +kernel
theorem wL_law_1315 {x : Int32} {P : Int32 → q_H → Option Nat → Prop} (hk : P x h z) (hn : narrow .boolean (.int x) = .int x := by first | rfl | exact q_b_n _) : QW V iL_law 1315 [a0, a1, a2, a3, a4, a5, a6, a7, a8] [.int x] h z bc bs (q_Ki P) Kx := q_iret dL_law_1315 rfl hn ⟨x, rfl, hk⟩
theorem dL_law_1316 : decode (i_b iL_law) 1316 = .ok (.goto 1435, 3) := by decide +kernel
theorem wL_law_1316  (kk : QW V iL_law 2751 [a0, a1, a2, a3, a4, a5, a6, a7, a8] (st) h z bc bs Kr Kx) : QW V iL_law 1316 [a0, a1, a2, a3, a4, a5, a6, a7, a8] (st) h z bc bs Kr Kx := q_goto dL_law_1316 (by decide) kk
theorem dL_law_1319 : decode (i_b iL_law) 1319 = .ok (.aload_n 1, 1) := by decide +kernel
theorem wL_law_1319 {x : Nat} (kk : QW V iL_law 1320 [a0, some (.ref x), a2, a3, a4, a5, a6, a7, a8] (.ref x :: st) h z bc bs Kr Kx) : QW V iL_law 1319 [a0, some (.ref x), a2, a3, a4, a5, a6, a7, a8] (st) h z bc bs Kr Kx := q_aload_n dL_law_1319 rfl rfl kk
theorem dL_law_1320 : decode (i_b iL_law) 1320 = .ok (.aload_n 0, 1) := by decide +kernel
theorem wL_law_1320 {x : Nat} (kk : QW V iL_law 1321 [some (.ref x), a1, a2, a3, a4, a5, a6, a7, a8] (.ref x :: st) h z bc bs Kr Kx) : QW V iL_law 1320 [some (.ref x), a1, a2, a3, a4, a5, a6, a7, a8] (st) h z bc bs Kr Kx := q_aload_n dL_law_1320 rfl rfl kk
theorem dL_law_1321 : decode (i_b iL_law) 1321 = .ok (.iload 5, 2) := by decide +kernel
theorem wL_law_1321 {x : Int32} (kk : QW V iL_law 1323 [a0, a1, a2, a3, a4, some (.int x), a6, a7, a8] (.int x :: st) h z bc bs Kr Kx) : QW V iL_law 1321 [a0, a1, a2, a3, a4, some (.int x), a6, a7, a8] (st) h z bc bs Kr Kx := q_iload dL_law_1321 rfl kk
theorem dL_law_1323 : decode (i_b iL_law) 1323 = .ok (.iconst 1, 1) := by decide +kernel
theorem wL_law_1323  (kk : QW V iL_law 1324 [a0, a1, a2, a3, a4, a5, a6, a7, a8] (.int (1) :: st) h z bc bs Kr Kx) : QW V iL_law 1323 [a0, a1, a2, a3, a4, a5, a6, a7, a8] (st) h z bc bs Kr Kx := q_iconst dL_law_1323 (by decide) kk
theorem dL_law_1324 : decode (i_b iL_law) 1324 = .ok (.iadd, 1) := by decide +kernel
theorem wL_law_1324 {x y : Int32} (kk : QW V iL_law 1325 [a0, a1, a2, a3, a4, a5, a6, a7, a8] (.int (x + y) :: st) h z bc bs Kr Kx) : QW V iL_law 1324 [a0, a1, a2, a3, a4, a5, a6, a7, a8] (.int y :: .int x :: st) h z bc bs Kr Kx := q_iadd dL_law_1324 kk
theorem dL_law_1325 : decode (i_b iL_law) 1325 = .ok (.iaload, 1) := by decide +kernel
theorem wL_law_1325 {j : Nat} {i : Int32} (hi : i = nI j) (hj : j < e_sL V) (hn : e_sL V < 2147483648) (kk : QW V iL_law 1326 [a0, a1, a2, a3, a4, a5, a6, a7, a8] (.int (e_xs V j) :: st) h z bc bs Kr Kx) : QW V iL_law 1325 [a0, a1, a2, a3, a4, a5, a6, a7, a8] (.int i :: .ref (e_sb V) :: st) h z bc bs Kr Kx := q_sld dL_law_1325 hi hj hn kk
theorem dL_law_1326 : decode (i_b iL_law) 1326 = .ok (.aload_n 3, 1) := by decide +kernel
theorem wL_law_1326 {x : Nat} (kk : QW V iL_law 1327 [a0, a1, a2, some (.ref x), a4, a5, a6, a7, a8] (.ref x :: st) h z bc bs Kr Kx) : QW V iL_law 1326 [a0, a1, a2, some (.ref x), a4, a5, a6, a7, a8] (st) h z bc bs Kr Kx := q_aload_n dL_law_1326 rfl rfl kk
theorem dL_law_1327 : decode (i_b iL_law) 1327 = .ok (.invokestatic 212, 3) := by decide +kernel
theorem wL_law_1327 {x0 : Nat} {x1 : Int32} {x2 : Nat} (hm : QMi V iL_taxedYears [.ref x0, .int x1, .ref x2] h z (fun r h' z' => QW V iL_law 1330 [a0, a1, a2, a3, a4, a5, a6, a7, a8] (.int r :: st) h' z' bc bs Kr Kx) Kx) (hW : (st.map fun v => v.category).sum ≤ 8 := by exact Nat.le_of_ble_eq_true rfl) : QW V iL_law 1327 [a0, a1, a2, a3, a4, a5, a6, a7, a8] (.ref x2 :: .int x1 :: .ref x0 :: st) h z (bc + 2) (bs + 12) Kr Kx := q_callSX (y' := iL_taxedYears) (As := [.ref x0, .int x1, .ref x2]) (rest := st) dL_law_1327 k4_183 k4_184 k1_0 hhL_taxedYears (by decide) hdL_taxedYears rfl (Nat.le_of_ble_eq_true rfl) (Nat.le_of_ble_eq_true rfl) hW rfl (QMi.run hm)
theorem dL_law_1330 : decode (i_b iL_law) 1330 = .ok (.istore 6, 2) := by decide +kernel
theorem wL_law_1330 {x : Int32} (kk : QW V iL_law 1332 [a0, a1, a2, a3, a4, a5, some (.int x), a7, a8] (st) h z bc bs Kr Kx) (hp : q_n2 a5 = true := by rfl) : QW V iL_law 1330 [a0, a1, a2, a3, a4, a5, a6, a7, a8] (.int x :: st) h z bc bs Kr Kx := q_istore dL_law_1330 (Nat.le_of_ble_eq_true rfl) hp kk
theorem dL_law_1332 : decode (i_b iL_law) 1332 = .ok (.aload_n 2, 1) := by decide +kernel
theorem wL_law_1332 {x : Nat} (kk : QW V iL_law 1333 [a0, a1, some (.ref x), a3, a4, a5, a6, a7, a8] (.ref x :: st) h z bc bs Kr Kx) : QW V iL_law 1332 [a0, a1, some (.ref x), a3, a4, a5, a6, a7, a8] (st) h z bc bs Kr Kx := q_aload_n dL_law_1332 rfl rfl kk
theorem dL_law_1333 : decode (i_b iL_law) 1333 = .ok (.aload_n 0, 1) := by decide +kernel
theorem wL_law_1333 {x : Nat} (kk : QW V iL_law 1334 [some (.ref x), a1, a2, a3, a4, a5, a6, a7, a8] (.ref x :: st) h z bc bs Kr Kx) : QW V iL_law 1333 [some (.ref x), a1, a2, a3, a4, a5, a6, a7, a8] (st) h z bc bs Kr Kx := q_aload_n dL_law_1333 rfl rfl kk
theorem dL_law_1334 : decode (i_b iL_law) 1334 = .ok (.iload 5, 2) := by decide +kernel
theorem wL_law_1334 {x : Int32} (kk : QW V iL_law 1336 [a0, a1, a2, a3, a4, some (.int x), a6, a7, a8] (.int x :: st) h z bc bs Kr Kx) : QW V iL_law 1334 [a0, a1, a2, a3, a4, some (.int x), a6, a7, a8] (st) h z bc bs Kr Kx := q_iload dL_law_1334 rfl kk
theorem dL_law_1336 : decode (i_b iL_law) 1336 = .ok (.iconst 1, 1) := by decide +kernel
theorem wL_law_1336  (kk : QW V iL_law 1337 [a0, a1, a2, a3, a4, a5, a6, a7, a8] (.int (1) :: st) h z bc bs Kr Kx) : QW V iL_law 1336 [a0, a1, a2, a3, a4, a5, a6, a7, a8] (st) h z bc bs Kr Kx := q_iconst dL_law_1336 (by decide) kk
theorem dL_law_1337 : decode (i_b iL_law) 1337 = .ok (.iadd, 1) := by decide +kernel
theorem wL_law_1337 {x y : Int32} (kk : QW V iL_law 1338 [a0, a1, a2, a3, a4, a5, a6, a7, a8] (.int (x + y) :: st) h z bc bs Kr Kx) : QW V iL_law 1337 [a0, a1, a2, a3, a4, a5, a6, a7, a8] (.int y :: .int x :: st) h z bc bs Kr Kx := q_iadd dL_law_1337 kk
theorem dL_law_1338 : decode (i_b iL_law) 1338 = .ok (.iaload, 1) := by decide +kernel
theorem wL_law_1338 {j : Nat} {i : Int32} (hi : i = nI j) (hj : j < e_sL V) (hn : e_sL V < 2147483648) (kk : QW V iL_law 1339 [a0, a1, a2, a3, a4, a5, a6, a7, a8] (.int (e_xs V j) :: st) h z bc bs Kr Kx) : QW V iL_law 1338 [a0, a1, a2, a3, a4, a5, a6, a7, a8] (.int i :: .ref (e_sb V) :: st) h z bc bs Kr Kx := q_sld dL_law_1338 hi hj hn kk
theorem dL_law_1339 : decode (i_b iL_law) 1339 = .ok (.invokevirtual 214, 3) := by decide +kernel
theorem wL_law_1339 {a : Nat} {fs : List Value} {x0 : Int32} (hb : h a = some (.inr (10, fs))) (hm : QMi V iX9_taxedYears [.ref a, .int x0] h z (fun r h' z' => QW V iL_law 1342 [a0, a1, a2, a3, a4, a5, a6, a7, a8] (.int r :: st) h' z' bc bs Kr Kx) Kx) (hW : (st.map fun v => v.category).sum ≤ 8 := by exact Nat.le_of_ble_eq_true rfl) : QW V iL_law 1339 [a0, a1, a2, a3, a4, a5, a6, a7, a8] (.int x0 :: .ref a :: st) h z bc bs Kr Kx := q_callV (y' := iX9_taxedYears) (As := [.int x0]) (rest := st) dL_law_1339 k7_193 k7_194 k7_195 k1_10 hhX9_taxedYears rfl hdX9_taxedYears rfl rfl (Nat.le_of_ble_eq_true rfl) (Nat.le_of_ble_eq_true rfl) hW rfl hb (QMi.run hm)
theorem dL_law_1342 : decode (i_b iL_law) 1342 = .ok (.istore 7, 2) := by decide +kernel
theorem wL_law_1342 {x : Int32} (kk : QW V iL_law 1344 [a0, a1, a2, a3, a4, a5, a6, some (.int x), a8] (st) h z bc bs Kr Kx) (hp : q_n2 a6 = true := by rfl) : QW V iL_law 1342 [a0, a1, a2, a3, a4, a5, a6, a7, a8] (.int x :: st) h z bc bs Kr Kx := q_istore dL_law_1342 (Nat.le_of_ble_eq_true rfl) hp kk
theorem dL_law_1344 : decode (i_b iL_law) 1344 = .ok (.aload_n 2, 1) := by decide +kernel
theorem wL_law_1344 {x : Nat} (kk : QW V iL_law 1345 [a0, a1, some (.ref x), a3, a4, a5, a6, a7, a8] (.ref x :: st) h z bc bs Kr Kx) : QW V iL_law 1344 [a0, a1, some (.ref x), a3, a4, a5, a6, a7, a8] (st) h z bc bs Kr Kx := q_aload_n dL_law_1344 rfl rfl kk
theorem dL_law_1345 : decode (i_b iL_law) 1345 = .ok (.invokevirtual 150, 3) := by decide +kernel
theorem wL_law_1345 {a : Nat} {fs : List Value}  (hb : h a = some (.inr (10, fs))) (hm : QMi V iX9_thrown [.ref a] h z (fun r h' z' => QW V iL_law 1348 [a0, a1, a2, a3, a4, a5, a6, a7, a8] (.int r :: st) h' z' bc bs Kr Kx) Kx) (hW : (st.map fun v => v.category).sum ≤ 8 := by exact Nat.le_of_ble_eq_true rfl) : QW V iL_law 1345 [a0, a1, a2, a3, a4, a5, a6, a7, a8] (.ref a :: st) h z bc bs Kr Kx := q_callV (y' := iX9_thrown) (As := []) (rest := st) dL_law_1345 k6_80 k6_81 k6_82 k1_10 hhX9_thrown rfl hdX9_thrown rfl rfl (Nat.le_of_ble_eq_true rfl) (Nat.le_of_ble_eq_true rfl) hW rfl hb (QMi.run hm)
theorem dL_law_1348 : decode (i_b iL_law) 1348 = .ok (.iload 6, 2) := by decide +kernel
theorem wL_law_1348 {x : Int32} (kk : QW V iL_law 1350 [a0, a1, a2, a3, a4, a5, some (.int x), a7, a8] (.int x :: st) h z bc bs Kr Kx) : QW V iL_law 1348 [a0, a1, a2, a3, a4, a5, some (.int x), a7, a8] (st) h z bc bs Kr Kx := q_iload dL_law_1348 rfl kk
theorem dL_law_1350 : decode (i_b iL_law) 1350 = .ok (.if_icmp .eq 5, 3) := by decide +kernel
theorem wL_law_1350 {x y : Int32} (kt : x = y → QW V iL_law 1355 [a0, a1, a2, a3, a4, a5, a6, a7, a8] (st) h z bc bs Kr Kx) (kf : ¬ x = y → QW V iL_law 1353 [a0, a1, a2, a3, a4, a5, a6, a7, a8] (st) h z bc bs Kr Kx) : QW V iL_law 1350 [a0, a1, a2, a3, a4, a5, a6, a7, a8] (.int y :: .int x :: st) h z bc bs Kr Kx := q_icmp_eq dL_law_1350 (by decide) kt kf
theorem dL_law_1353 : decode (i_b iL_law) 1353 = .ok (.iconst 0, 1) := by decide +kernel
theorem wL_law_1353  (kk : QW V iL_law 1354 [a0, a1, a2, a3, a4, a5, a6, a7, a8] (.int (0) :: st) h z bc bs Kr Kx) : QW V iL_law 1353 [a0, a1, a2, a3, a4, a5, a6, a7, a8] (st) h z bc bs Kr Kx := q_iconst dL_law_1353 (by decide) kk
theorem dL_law_1354 : decode (i_b iL_law) 1354 = .ok (.ireturn, 1) := by decide +kernel
theorem wL_law_1354 {x : Int32} {P : Int32 → q_H → Option Nat → Prop} (hk : P x h z) (hn : narrow .boolean (.int x) = .int x := by first | rfl | exact q_b_n _) : QW V iL_law 1354 [a0, a1, a2, a3, a4, a5, a6, a7, a8] [.int x] h z bc bs (q_Ki P) Kx := q_iret dL_law_1354 rfl hn ⟨x, rfl, hk⟩
theorem dL_law_1355 : decode (i_b iL_law) 1355 = .ok (.iload 6, 2) := by decide +kernel
theorem wL_law_1355 {x : Int32} (kk : QW V iL_law 1357 [a0, a1, a2, a3, a4, a5, some (.int x), a7, a8] (.int x :: st) h z bc bs Kr Kx) : QW V iL_law 1355 [a0, a1, a2, a3, a4, a5, some (.int x), a7, a8] (st) h z bc bs Kr Kx := q_iload dL_law_1355 rfl kk
theorem dL_law_1357 : decode (i_b iL_law) 1357 = .ok (.ifCond .ne 15, 3) := by decide +kernel
theorem wL_law_1357 {x : Int32} (kt : ¬ x = 0 → QW V iL_law 1372 [a0, a1, a2, a3, a4, a5, a6, a7, a8] (st) h z bc bs Kr Kx) (kf : x = 0 → QW V iL_law 1360 [a0, a1, a2, a3, a4, a5, a6, a7, a8] (st) h z bc bs Kr Kx) : QW V iL_law 1357 [a0, a1, a2, a3, a4, a5, a6, a7, a8] (.int x :: st) h z bc bs Kr Kx := q_if_ne dL_law_1357 (by decide) kt kf
theorem dL_law_1360 : decode (i_b iL_law) 1360 = .ok (.aload_n 3, 1) := by decide +kernel
theorem wL_law_1360 {x : Nat} (kk : QW V iL_law 1361 [a0, a1, a2, some (.ref x), a4, a5, a6, a7, a8] (.ref x :: st) h z bc bs Kr Kx) : QW V iL_law 1360 [a0, a1, a2, some (.ref x), a4, a5, a6, a7, a8] (st) h z bc bs Kr Kx := q_aload_n dL_law_1360 rfl rfl kk
theorem dL_law_1361 : decode (i_b iL_law) 1361 = .ok (.iconst 0, 1) := by decide +kernel
theorem wL_law_1361  (kk : QW V iL_law 1362 [a0, a1, a2, a3, a4, a5, a6, a7, a8] (.int (0) :: st) h z bc bs Kr Kx) : QW V iL_law 1361 [a0, a1, a2, a3, a4, a5, a6, a7, a8] (st) h z bc bs Kr Kx := q_iconst dL_law_1361 (by decide) kk
theorem dL_law_1362 : decode (i_b iL_law) 1362 = .ok (.laload, 1) := by decide +kernel
theorem wL_law_1362 {a n j : Nat} {f : Nat → Int64} {i : Int32} (ha : h a = some (.inl (2, n, .inr (.inl f)))) (hi : i = nI j) (hj : j < n) (hn : n < 2147483648) (kk : QW V iL_law 1363 [a0, a1, a2, a3, a4, a5, a6, a7, a8] (.long (f j) :: st) h z bc bs Kr Kx) : QW V iL_law 1362 [a0, a1, a2, a3, a4, a5, a6, a7, a8] (.int i :: .ref a :: st) h z bc bs Kr Kx := q_lald dL_law_1362 ha hi hj hn kk
theorem dL_law_1363 : decode (i_b iL_law) 1363 = .ok (.iload 7, 2) := by decide +kernel
theorem wL_law_1363 {x : Int32} (kk : QW V iL_law 1365 [a0, a1, a2, a3, a4, a5, a6, some (.int x), a8] (.int x :: st) h z bc bs Kr Kx) : QW V iL_law 1363 [a0, a1, a2, a3, a4, a5, a6, some (.int x), a8] (st) h z bc bs Kr Kx := q_iload dL_law_1363 rfl kk
theorem dL_law_1365 : decode (i_b iL_law) 1365 = .ok (.i2l, 1) := by decide +kernel
theorem wL_law_1365 {x : Int32} (kk : QW V iL_law 1366 [a0, a1, a2, a3, a4, a5, a6, a7, a8] (.long (x.toInt64) :: st) h z bc bs Kr Kx) : QW V iL_law 1365 [a0, a1, a2, a3, a4, a5, a6, a7, a8] (.int x :: st) h z bc bs Kr Kx := q_i2l dL_law_1365 kk
theorem dL_law_1366 : decode (i_b iL_law) 1366 = .ok (.lcmp, 1) := by decide +kernel
theorem dL_law_1367 : decode (i_b iL_law) 1367 = .ok (.ifCond .eq 5, 3) := by decide +kernel
theorem wL_law_1366 {x y : Int64} (kt : x = y → QW V iL_law 1372 [a0, a1, a2, a3, a4, a5, a6, a7, a8] (st) h z bc bs Kr Kx) (kf : ¬ x = y → QW V iL_law 1370 [a0, a1, a2, a3, a4, a5, a6, a7, a8] (st) h z bc bs Kr Kx) : QW V iL_law 1366 [a0, a1, a2, a3, a4, a5, a6, a7, a8] (.long y :: .long x :: st) h z bc bs Kr Kx := q_lcmp dL_law_1366 (q_if_eq dL_law_1367 (by decide) (fun q => kt ((q_lc_eq x y).mp q)) (fun q => kf (q_lcn_eq q)))
theorem dL_law_1370 : decode (i_b iL_law) 1370 = .ok (.iconst 0, 1) := by decide +kernel
theorem wL_law_1370  (kk : QW V iL_law 1371 [a0, a1, a2, a3, a4, a5, a6, a7, a8] (.int (0) :: st) h z bc bs Kr Kx) : QW V iL_law 1370 [a0, a1, a2, a3, a4, a5, a6, a7, a8] (st) h z bc bs Kr Kx := q_iconst dL_law_1370 (by decide) kk
theorem dL_law_1371 : decode (i_b iL_law) 1371 = .ok (.ireturn, 1) := by decide +kernel
theorem wL_law_1371 {x : Int32} {P : Int32 → q_H → Option Nat → Prop} (hk : P x h z) (hn : narrow .boolean (.int x) = .int x := by first | rfl | exact q_b_n _) : QW V iL_law 1371 [a0, a1, a2, a3, a4, a5, a6, a7, a8] [.int x] h z bc bs (q_Ki P) Kx := q_iret dL_law_1371 rfl hn ⟨x, rfl, hk⟩
theorem dL_law_1372 : decode (i_b iL_law) 1372 = .ok (.goto 1379, 3) := by decide +kernel
theorem wL_law_1372  (kk : QW V iL_law 2751 [a0, a1, a2, a3, a4, a5, a6, a7, a8] (st) h z bc bs Kr Kx) : QW V iL_law 1372 [a0, a1, a2, a3, a4, a5, a6, a7, a8] (st) h z bc bs Kr Kx := q_goto dL_law_1372 (by decide) kk
theorem dL_law_1375 : decode (i_b iL_law) 1375 = .ok (.aload_n 1, 1) := by decide +kernel
theorem wL_law_1375 {x : Nat} (kk : QW V iL_law 1376 [a0, some (.ref x), a2, a3, a4, a5, a6, a7, a8] (.ref x :: st) h z bc bs Kr Kx) : QW V iL_law 1375 [a0, some (.ref x), a2, a3, a4, a5, a6, a7, a8] (st) h z bc bs Kr Kx := q_aload_n dL_law_1375 rfl rfl kk
theorem dL_law_1376 : decode (i_b iL_law) 1376 = .ok (.aload_n 0, 1) := by decide +kernel
theorem wL_law_1376 {x : Nat} (kk : QW V iL_law 1377 [some (.ref x), a1, a2, a3, a4, a5, a6, a7, a8] (.ref x :: st) h z bc bs Kr Kx) : QW V iL_law 1376 [some (.ref x), a1, a2, a3, a4, a5, a6, a7, a8] (st) h z bc bs Kr Kx := q_aload_n dL_law_1376 rfl rfl kk
theorem dL_law_1377 : decode (i_b iL_law) 1377 = .ok (.iload 5, 2) := by decide +kernel
theorem wL_law_1377 {x : Int32} (kk : QW V iL_law 1379 [a0, a1, a2, a3, a4, some (.int x), a6, a7, a8] (.int x :: st) h z bc bs Kr Kx) : QW V iL_law 1377 [a0, a1, a2, a3, a4, some (.int x), a6, a7, a8] (st) h z bc bs Kr Kx := q_iload dL_law_1377 rfl kk
theorem dL_law_1379 : decode (i_b iL_law) 1379 = .ok (.iconst 1, 1) := by decide +kernel
theorem wL_law_1379  (kk : QW V iL_law 1380 [a0, a1, a2, a3, a4, a5, a6, a7, a8] (.int (1) :: st) h z bc bs Kr Kx) : QW V iL_law 1379 [a0, a1, a2, a3, a4, a5, a6, a7, a8] (st) h z bc bs Kr Kx := q_iconst dL_law_1379 (by decide) kk
theorem dL_law_1380 : decode (i_b iL_law) 1380 = .ok (.iadd, 1) := by decide +kernel
theorem wL_law_1380 {x y : Int32} (kk : QW V iL_law 1381 [a0, a1, a2, a3, a4, a5, a6, a7, a8] (.int (x + y) :: st) h z bc bs Kr Kx) : QW V iL_law 1380 [a0, a1, a2, a3, a4, a5, a6, a7, a8] (.int y :: .int x :: st) h z bc bs Kr Kx := q_iadd dL_law_1380 kk
theorem dL_law_1381 : decode (i_b iL_law) 1381 = .ok (.iaload, 1) := by decide +kernel
theorem wL_law_1381 {j : Nat} {i : Int32} (hi : i = nI j) (hj : j < e_sL V) (hn : e_sL V < 2147483648) (kk : QW V iL_law 1382 [a0, a1, a2, a3, a4, a5, a6, a7, a8] (.int (e_xs V j) :: st) h z bc bs Kr Kx) : QW V iL_law 1381 [a0, a1, a2, a3, a4, a5, a6, a7, a8] (.int i :: .ref (e_sb V) :: st) h z bc bs Kr Kx := q_sld dL_law_1381 hi hj hn kk
theorem dL_law_1382 : decode (i_b iL_law) 1382 = .ok (.aload_n 3, 1) := by decide +kernel
theorem wL_law_1382 {x : Nat} (kk : QW V iL_law 1383 [a0, a1, a2, some (.ref x), a4, a5, a6, a7, a8] (.ref x :: st) h z bc bs Kr Kx) : QW V iL_law 1382 [a0, a1, a2, some (.ref x), a4, a5, a6, a7, a8] (st) h z bc bs Kr Kx := q_aload_n dL_law_1382 rfl rfl kk
theorem dL_law_1383 : decode (i_b iL_law) 1383 = .ok (.invokestatic 215, 3) := by decide +kernel
theorem wL_law_1383 {x0 : Nat} {x1 : Int32} {x2 : Nat} (hm : QMi V iL_midLevel [.ref x0, .int x1, .ref x2] h z (fun r h' z' => QW V iL_law 1386 [a0, a1, a2, a3, a4, a5, a6, a7, a8] (.int r :: st) h' z' bc bs Kr Kx) Kx) (hW : (st.map fun v => v.category).sum ≤ 8 := by exact Nat.le_of_ble_eq_true rfl) : QW V iL_law 1383 [a0, a1, a2, a3, a4, a5, a6, a7, a8] (.ref x2 :: .int x1 :: .ref x0 :: st) h z (bc + 2) (bs + 12) Kr Kx := q_callSX (y' := iL_midLevel) (As := [.ref x0, .int x1, .ref x2]) (rest := st) dL_law_1383 k4_190 k4_191 k1_0 hhL_midLevel (by decide) hdL_midLevel rfl (Nat.le_of_ble_eq_true rfl) (Nat.le_of_ble_eq_true rfl) hW rfl (QMi.run hm)
theorem dL_law_1386 : decode (i_b iL_law) 1386 = .ok (.istore 6, 2) := by decide +kernel
theorem wL_law_1386 {x : Int32} (kk : QW V iL_law 1388 [a0, a1, a2, a3, a4, a5, some (.int x), a7, a8] (st) h z bc bs Kr Kx) (hp : q_n2 a5 = true := by rfl) : QW V iL_law 1386 [a0, a1, a2, a3, a4, a5, a6, a7, a8] (.int x :: st) h z bc bs Kr Kx := q_istore dL_law_1386 (Nat.le_of_ble_eq_true rfl) hp kk
theorem dL_law_1388 : decode (i_b iL_law) 1388 = .ok (.aload_n 2, 1) := by decide +kernel
theorem wL_law_1388 {x : Nat} (kk : QW V iL_law 1389 [a0, a1, some (.ref x), a3, a4, a5, a6, a7, a8] (.ref x :: st) h z bc bs Kr Kx) : QW V iL_law 1388 [a0, a1, some (.ref x), a3, a4, a5, a6, a7, a8] (st) h z bc bs Kr Kx := q_aload_n dL_law_1388 rfl rfl kk
theorem dL_law_1389 : decode (i_b iL_law) 1389 = .ok (.aload_n 0, 1) := by decide +kernel
theorem wL_law_1389 {x : Nat} (kk : QW V iL_law 1390 [some (.ref x), a1, a2, a3, a4, a5, a6, a7, a8] (.ref x :: st) h z bc bs Kr Kx) : QW V iL_law 1389 [some (.ref x), a1, a2, a3, a4, a5, a6, a7, a8] (st) h z bc bs Kr Kx := q_aload_n dL_law_1389 rfl rfl kk
theorem dL_law_1390 : decode (i_b iL_law) 1390 = .ok (.iload 5, 2) := by decide +kernel
theorem wL_law_1390 {x : Int32} (kk : QW V iL_law 1392 [a0, a1, a2, a3, a4, some (.int x), a6, a7, a8] (.int x :: st) h z bc bs Kr Kx) : QW V iL_law 1390 [a0, a1, a2, a3, a4, some (.int x), a6, a7, a8] (st) h z bc bs Kr Kx := q_iload dL_law_1390 rfl kk
theorem dL_law_1392 : decode (i_b iL_law) 1392 = .ok (.iconst 1, 1) := by decide +kernel
theorem wL_law_1392  (kk : QW V iL_law 1393 [a0, a1, a2, a3, a4, a5, a6, a7, a8] (.int (1) :: st) h z bc bs Kr Kx) : QW V iL_law 1392 [a0, a1, a2, a3, a4, a5, a6, a7, a8] (st) h z bc bs Kr Kx := q_iconst dL_law_1392 (by decide) kk
theorem dL_law_1393 : decode (i_b iL_law) 1393 = .ok (.iadd, 1) := by decide +kernel
theorem wL_law_1393 {x y : Int32} (kk : QW V iL_law 1394 [a0, a1, a2, a3, a4, a5, a6, a7, a8] (.int (x + y) :: st) h z bc bs Kr Kx) : QW V iL_law 1393 [a0, a1, a2, a3, a4, a5, a6, a7, a8] (.int y :: .int x :: st) h z bc bs Kr Kx := q_iadd dL_law_1393 kk
theorem dL_law_1394 : decode (i_b iL_law) 1394 = .ok (.iaload, 1) := by decide +kernel
theorem wL_law_1394 {j : Nat} {i : Int32} (hi : i = nI j) (hj : j < e_sL V) (hn : e_sL V < 2147483648) (kk : QW V iL_law 1395 [a0, a1, a2, a3, a4, a5, a6, a7, a8] (.int (e_xs V j) :: st) h z bc bs Kr Kx) : QW V iL_law 1394 [a0, a1, a2, a3, a4, a5, a6, a7, a8] (.int i :: .ref (e_sb V) :: st) h z bc bs Kr Kx := q_sld dL_law_1394 hi hj hn kk
theorem dL_law_1395 : decode (i_b iL_law) 1395 = .ok (.invokevirtual 217, 3) := by decide +kernel
theorem wL_law_1395 {a : Nat} {fs : List Value} {x0 : Int32} (hb : h a = some (.inr (10, fs))) (hm : QMi V iX9_midLevel [.ref a, .int x0] h z (fun r h' z' => QW V iL_law 1398 [a0, a1, a2, a3, a4, a5, a6, a7, a8] (.int r :: st) h' z' bc bs Kr Kx) Kx) (hW : (st.map fun v => v.category).sum ≤ 8 := by exact Nat.le_of_ble_eq_true rfl) : QW V iL_law 1395 [a0, a1, a2, a3, a4, a5, a6, a7, a8] (.int x0 :: .ref a :: st) h z bc bs Kr Kx := q_callV (y' := iX9_midLevel) (As := [.int x0]) (rest := st) dL_law_1395 k7_197 k7_198 k7_199 k1_10 hhX9_midLevel rfl hdX9_midLevel rfl rfl (Nat.le_of_ble_eq_true rfl) (Nat.le_of_ble_eq_true rfl) hW rfl hb (QMi.run hm)
theorem dL_law_1398 : decode (i_b iL_law) 1398 = .ok (.istore 7, 2) := by decide +kernel
theorem wL_law_1398 {x : Int32} (kk : QW V iL_law 1400 [a0, a1, a2, a3, a4, a5, a6, some (.int x), a8] (st) h z bc bs Kr Kx) (hp : q_n2 a6 = true := by rfl) : QW V iL_law 1398 [a0, a1, a2, a3, a4, a5, a6, a7, a8] (.int x :: st) h z bc bs Kr Kx := q_istore dL_law_1398 (Nat.le_of_ble_eq_true rfl) hp kk
theorem dL_law_1400 : decode (i_b iL_law) 1400 = .ok (.aload_n 2, 1) := by decide +kernel
theorem wL_law_1400 {x : Nat} (kk : QW V iL_law 1401 [a0, a1, some (.ref x), a3, a4, a5, a6, a7, a8] (.ref x :: st) h z bc bs Kr Kx) : QW V iL_law 1400 [a0, a1, some (.ref x), a3, a4, a5, a6, a7, a8] (st) h z bc bs Kr Kx := q_aload_n dL_law_1400 rfl rfl kk
theorem dL_law_1401 : decode (i_b iL_law) 1401 = .ok (.invokevirtual 150, 3) := by decide +kernel
theorem wL_law_1401 {a : Nat} {fs : List Value}  (hb : h a = some (.inr (10, fs))) (hm : QMi V iX9_thrown [.ref a] h z (fun r h' z' => QW V iL_law 1404 [a0, a1, a2, a3, a4, a5, a6, a7, a8] (.int r :: st) h' z' bc bs Kr Kx) Kx) (hW : (st.map fun v => v.category).sum ≤ 8 := by exact Nat.le_of_ble_eq_true rfl) : QW V iL_law 1401 [a0, a1, a2, a3, a4, a5, a6, a7, a8] (.ref a :: st) h z bc bs Kr Kx := q_callV (y' := iX9_thrown) (As := []) (rest := st) dL_law_1401 k6_80 k6_81 k6_82 k1_10 hhX9_thrown rfl hdX9_thrown rfl rfl (Nat.le_of_ble_eq_true rfl) (Nat.le_of_ble_eq_true rfl) hW rfl hb (QMi.run hm)
theorem dL_law_1404 : decode (i_b iL_law) 1404 = .ok (.iload 6, 2) := by decide +kernel
theorem wL_law_1404 {x : Int32} (kk : QW V iL_law 1406 [a0, a1, a2, a3, a4, a5, some (.int x), a7, a8] (.int x :: st) h z bc bs Kr Kx) : QW V iL_law 1404 [a0, a1, a2, a3, a4, a5, some (.int x), a7, a8] (st) h z bc bs Kr Kx := q_iload dL_law_1404 rfl kk
theorem dL_law_1406 : decode (i_b iL_law) 1406 = .ok (.if_icmp .eq 5, 3) := by decide +kernel
theorem wL_law_1406 {x y : Int32} (kt : x = y → QW V iL_law 1411 [a0, a1, a2, a3, a4, a5, a6, a7, a8] (st) h z bc bs Kr Kx) (kf : ¬ x = y → QW V iL_law 1409 [a0, a1, a2, a3, a4, a5, a6, a7, a8] (st) h z bc bs Kr Kx) : QW V iL_law 1406 [a0, a1, a2, a3, a4, a5, a6, a7, a8] (.int y :: .int x :: st) h z bc bs Kr Kx := q_icmp_eq dL_law_1406 (by decide) kt kf
theorem dL_law_1409 : decode (i_b iL_law) 1409 = .ok (.iconst 0, 1) := by decide +kernel
theorem wL_law_1409  (kk : QW V iL_law 1410 [a0, a1, a2, a3, a4, a5, a6, a7, a8] (.int (0) :: st) h z bc bs Kr Kx) : QW V iL_law 1409 [a0, a1, a2, a3, a4, a5, a6, a7, a8] (st) h z bc bs Kr Kx := q_iconst dL_law_1409 (by decide) kk
theorem dL_law_1410 : decode (i_b iL_law) 1410 = .ok (.ireturn, 1) := by decide +kernel
theorem wL_law_1410 {x : Int32} {P : Int32 → q_H → Option Nat → Prop} (hk : P x h z) (hn : narrow .boolean (.int x) = .int x := by first | rfl | exact q_b_n _) : QW V iL_law 1410 [a0, a1, a2, a3, a4, a5, a6, a7, a8] [.int x] h z bc bs (q_Ki P) Kx := q_iret dL_law_1410 rfl hn ⟨x, rfl, hk⟩
theorem dL_law_1411 : decode (i_b iL_law) 1411 = .ok (.iload 6, 2) := by decide +kernel
theorem wL_law_1411 {x : Int32} (kk : QW V iL_law 1413 [a0, a1, a2, a3, a4, a5, some (.int x), a7, a8] (.int x :: st) h z bc bs Kr Kx) : QW V iL_law 1411 [a0, a1, a2, a3, a4, a5, some (.int x), a7, a8] (st) h z bc bs Kr Kx := q_iload dL_law_1411 rfl kk
theorem dL_law_1413 : decode (i_b iL_law) 1413 = .ok (.ifCond .ne 15, 3) := by decide +kernel
theorem wL_law_1413 {x : Int32} (kt : ¬ x = 0 → QW V iL_law 1428 [a0, a1, a2, a3, a4, a5, a6, a7, a8] (st) h z bc bs Kr Kx) (kf : x = 0 → QW V iL_law 1416 [a0, a1, a2, a3, a4, a5, a6, a7, a8] (st) h z bc bs Kr Kx) : QW V iL_law 1413 [a0, a1, a2, a3, a4, a5, a6, a7, a8] (.int x :: st) h z bc bs Kr Kx := q_if_ne dL_law_1413 (by decide) kt kf
theorem dL_law_1416 : decode (i_b iL_law) 1416 = .ok (.aload_n 3, 1) := by decide +kernel
theorem wL_law_1416 {x : Nat} (kk : QW V iL_law 1417 [a0, a1, a2, some (.ref x), a4, a5, a6, a7, a8] (.ref x :: st) h z bc bs Kr Kx) : QW V iL_law 1416 [a0, a1, a2, some (.ref x), a4, a5, a6, a7, a8] (st) h z bc bs Kr Kx := q_aload_n dL_law_1416 rfl rfl kk
theorem dL_law_1417 : decode (i_b iL_law) 1417 = .ok (.iconst 0, 1) := by decide +kernel
theorem wL_law_1417  (kk : QW V iL_law 1418 [a0, a1, a2, a3, a4, a5, a6, a7, a8] (.int (0) :: st) h z bc bs Kr Kx) : QW V iL_law 1417 [a0, a1, a2, a3, a4, a5, a6, a7, a8] (st) h z bc bs Kr Kx := q_iconst dL_law_1417 (by decide) kk
theorem dL_law_1418 : decode (i_b iL_law) 1418 = .ok (.laload, 1) := by decide +kernel
theorem wL_law_1418 {a n j : Nat} {f : Nat → Int64} {i : Int32} (ha : h a = some (.inl (2, n, .inr (.inl f)))) (hi : i = nI j) (hj : j < n) (hn : n < 2147483648) (kk : QW V iL_law 1419 [a0, a1, a2, a3, a4, a5, a6, a7, a8] (.long (f j) :: st) h z bc bs Kr Kx) : QW V iL_law 1418 [a0, a1, a2, a3, a4, a5, a6, a7, a8] (.int i :: .ref a :: st) h z bc bs Kr Kx := q_lald dL_law_1418 ha hi hj hn kk
theorem dL_law_1419 : decode (i_b iL_law) 1419 = .ok (.iload 7, 2) := by decide +kernel
theorem wL_law_1419 {x : Int32} (kk : QW V iL_law 1421 [a0, a1, a2, a3, a4, a5, a6, some (.int x), a8] (.int x :: st) h z bc bs Kr Kx) : QW V iL_law 1419 [a0, a1, a2, a3, a4, a5, a6, some (.int x), a8] (st) h z bc bs Kr Kx := q_iload dL_law_1419 rfl kk
theorem dL_law_1421 : decode (i_b iL_law) 1421 = .ok (.i2l, 1) := by decide +kernel
theorem wL_law_1421 {x : Int32} (kk : QW V iL_law 1422 [a0, a1, a2, a3, a4, a5, a6, a7, a8] (.long (x.toInt64) :: st) h z bc bs Kr Kx) : QW V iL_law 1421 [a0, a1, a2, a3, a4, a5, a6, a7, a8] (.int x :: st) h z bc bs Kr Kx := q_i2l dL_law_1421 kk
theorem dL_law_1422 : decode (i_b iL_law) 1422 = .ok (.lcmp, 1) := by decide +kernel
theorem dL_law_1423 : decode (i_b iL_law) 1423 = .ok (.ifCond .eq 5, 3) := by decide +kernel
theorem wL_law_1422 {x y : Int64} (kt : x = y → QW V iL_law 1428 [a0, a1, a2, a3, a4, a5, a6, a7, a8] (st) h z bc bs Kr Kx) (kf : ¬ x = y → QW V iL_law 1426 [a0, a1, a2, a3, a4, a5, a6, a7, a8] (st) h z bc bs Kr Kx) : QW V iL_law 1422 [a0, a1, a2, a3, a4, a5, a6, a7, a8] (.long y :: .long x :: st) h z bc bs Kr Kx := q_lcmp dL_law_1422 (q_if_eq dL_law_1423 (by decide) (fun q => kt ((q_lc_eq x y).mp q)) (fun q => kf (q_lcn_eq q)))
theorem dL_law_1426 : decode (i_b iL_law) 1426 = .ok (.iconst 0, 1) := by decide +kernel
theorem wL_law_1426  (kk : QW V iL_law 1427 [a0, a1, a2, a3, a4, a5, a6, a7, a8] (.int (0) :: st) h z bc bs Kr Kx) : QW V iL_law 1426 [a0, a1, a2, a3, a4, a5, a6, a7, a8] (st) h z bc bs Kr Kx := q_iconst dL_law_1426 (by decide) kk
theorem dL_law_1427 : decode (i_b iL_law) 1427 = .ok (.ireturn, 1) := by decide +kernel
theorem wL_law_1427 {x : Int32} {P : Int32 → q_H → Option Nat → Prop} (hk : P x h z) (hn : narrow .boolean (.int x) = .int x := by first | rfl | exact q_b_n _) : QW V iL_law 1427 [a0, a1, a2, a3, a4, a5, a6, a7, a8] [.int x] h z bc bs (q_Ki P) Kx := q_iret dL_law_1427 rfl hn ⟨x, rfl, hk⟩
theorem dL_law_1428 : decode (i_b iL_law) 1428 = .ok (.goto 1323, 3) := by decide +kernel
theorem wL_law_1428  (kk : QW V iL_law 2751 [a0, a1, a2, a3, a4, a5, a6, a7, a8] (st) h z bc bs Kr Kx) : QW V iL_law 1428 [a0, a1, a2, a3, a4, a5, a6, a7, a8] (st) h z bc bs Kr Kx := q_goto dL_law_1428 (by decide) kk
theorem dL_law_1431 : decode (i_b iL_law) 1431 = .ok (.aload_n 1, 1) := by decide +kernel
theorem wL_law_1431 {x : Nat} (kk : QW V iL_law 1432 [a0, some (.ref x), a2, a3, a4, a5, a6, a7, a8] (.ref x :: st) h z bc bs Kr Kx) : QW V iL_law 1431 [a0, some (.ref x), a2, a3, a4, a5, a6, a7, a8] (st) h z bc bs Kr Kx := q_aload_n dL_law_1431 rfl rfl kk
theorem dL_law_1432 : decode (i_b iL_law) 1432 = .ok (.aload_n 0, 1) := by decide +kernel
theorem wL_law_1432 {x : Nat} (kk : QW V iL_law 1433 [some (.ref x), a1, a2, a3, a4, a5, a6, a7, a8] (.ref x :: st) h z bc bs Kr Kx) : QW V iL_law 1432 [some (.ref x), a1, a2, a3, a4, a5, a6, a7, a8] (st) h z bc bs Kr Kx := q_aload_n dL_law_1432 rfl rfl kk
theorem dL_law_1433 : decode (i_b iL_law) 1433 = .ok (.iload 5, 2) := by decide +kernel
theorem wL_law_1433 {x : Int32} (kk : QW V iL_law 1435 [a0, a1, a2, a3, a4, some (.int x), a6, a7, a8] (.int x :: st) h z bc bs Kr Kx) : QW V iL_law 1433 [a0, a1, a2, a3, a4, some (.int x), a6, a7, a8] (st) h z bc bs Kr Kx := q_iload dL_law_1433 rfl kk
theorem dL_law_1435 : decode (i_b iL_law) 1435 = .ok (.iconst 1, 1) := by decide +kernel
theorem wL_law_1435  (kk : QW V iL_law 1436 [a0, a1, a2, a3, a4, a5, a6, a7, a8] (.int (1) :: st) h z bc bs Kr Kx) : QW V iL_law 1435 [a0, a1, a2, a3, a4, a5, a6, a7, a8] (st) h z bc bs Kr Kx := q_iconst dL_law_1435 (by decide) kk
theorem dL_law_1436 : decode (i_b iL_law) 1436 = .ok (.iadd, 1) := by decide +kernel
theorem wL_law_1436 {x y : Int32} (kk : QW V iL_law 1437 [a0, a1, a2, a3, a4, a5, a6, a7, a8] (.int (x + y) :: st) h z bc bs Kr Kx) : QW V iL_law 1436 [a0, a1, a2, a3, a4, a5, a6, a7, a8] (.int y :: .int x :: st) h z bc bs Kr Kx := q_iadd dL_law_1436 kk
theorem dL_law_1437 : decode (i_b iL_law) 1437 = .ok (.iaload, 1) := by decide +kernel
theorem wL_law_1437 {j : Nat} {i : Int32} (hi : i = nI j) (hj : j < e_sL V) (hn : e_sL V < 2147483648) (kk : QW V iL_law 1438 [a0, a1, a2, a3, a4, a5, a6, a7, a8] (.int (e_xs V j) :: st) h z bc bs Kr Kx) : QW V iL_law 1437 [a0, a1, a2, a3, a4, a5, a6, a7, a8] (.int i :: .ref (e_sb V) :: st) h z bc bs Kr Kx := q_sld dL_law_1437 hi hj hn kk
theorem dL_law_1438 : decode (i_b iL_law) 1438 = .ok (.aload_n 3, 1) := by decide +kernel
theorem wL_law_1438 {x : Nat} (kk : QW V iL_law 1439 [a0, a1, a2, some (.ref x), a4, a5, a6, a7, a8] (.ref x :: st) h z bc bs Kr Kx) : QW V iL_law 1438 [a0, a1, a2, some (.ref x), a4, a5, a6, a7, a8] (st) h z bc bs Kr Kx := q_aload_n dL_law_1438 rfl rfl kk
theorem dL_law_1439 : decode (i_b iL_law) 1439 = .ok (.invokestatic 218, 3) := by decide +kernel
theorem wL_law_1439 {x0 : Nat} {x1 : Int32} {x2 : Nat} (hm : QMi V iL_roster [.ref x0, .int x1, .ref x2] h z (fun r h' z' => QW V iL_law 1442 [a0, a1, a2, a3, a4, a5, a6, a7, a8] (.int r :: st) h' z' bc bs Kr Kx) Kx) (hW : (st.map fun v => v.category).sum ≤ 8 := by exact Nat.le_of_ble_eq_true rfl) : QW V iL_law 1439 [a0, a1, a2, a3, a4, a5, a6, a7, a8] (.ref x2 :: .int x1 :: .ref x0 :: st) h z (bc + 2) (bs + 12) Kr Kx := q_callSX (y' := iL_roster) (As := [.ref x0, .int x1, .ref x2]) (rest := st) dL_law_1439 k4_197 k4_198 k1_0 hhL_roster (by decide) hdL_roster rfl (Nat.le_of_ble_eq_true rfl) (Nat.le_of_ble_eq_true rfl) hW rfl (QMi.run hm)
theorem dL_law_1442 : decode (i_b iL_law) 1442 = .ok (.istore 6, 2) := by decide +kernel
theorem wL_law_1442 {x : Int32} (kk : QW V iL_law 1444 [a0, a1, a2, a3, a4, a5, some (.int x), a7, a8] (st) h z bc bs Kr Kx) (hp : q_n2 a5 = true := by rfl) : QW V iL_law 1442 [a0, a1, a2, a3, a4, a5, a6, a7, a8] (.int x :: st) h z bc bs Kr Kx := q_istore dL_law_1442 (Nat.le_of_ble_eq_true rfl) hp kk
theorem dL_law_1444 : decode (i_b iL_law) 1444 = .ok (.aload_n 2, 1) := by decide +kernel
theorem wL_law_1444 {x : Nat} (kk : QW V iL_law 1445 [a0, a1, some (.ref x), a3, a4, a5, a6, a7, a8] (.ref x :: st) h z bc bs Kr Kx) : QW V iL_law 1444 [a0, a1, some (.ref x), a3, a4, a5, a6, a7, a8] (st) h z bc bs Kr Kx := q_aload_n dL_law_1444 rfl rfl kk
theorem dL_law_1445 : decode (i_b iL_law) 1445 = .ok (.aload_n 0, 1) := by decide +kernel
theorem wL_law_1445 {x : Nat} (kk : QW V iL_law 1446 [some (.ref x), a1, a2, a3, a4, a5, a6, a7, a8] (.ref x :: st) h z bc bs Kr Kx) : QW V iL_law 1445 [some (.ref x), a1, a2, a3, a4, a5, a6, a7, a8] (st) h z bc bs Kr Kx := q_aload_n dL_law_1445 rfl rfl kk
theorem dL_law_1446 : decode (i_b iL_law) 1446 = .ok (.iload 5, 2) := by decide +kernel
theorem wL_law_1446 {x : Int32} (kk : QW V iL_law 1448 [a0, a1, a2, a3, a4, some (.int x), a6, a7, a8] (.int x :: st) h z bc bs Kr Kx) : QW V iL_law 1446 [a0, a1, a2, a3, a4, some (.int x), a6, a7, a8] (st) h z bc bs Kr Kx := q_iload dL_law_1446 rfl kk
theorem dL_law_1448 : decode (i_b iL_law) 1448 = .ok (.iconst 1, 1) := by decide +kernel
theorem wL_law_1448  (kk : QW V iL_law 1449 [a0, a1, a2, a3, a4, a5, a6, a7, a8] (.int (1) :: st) h z bc bs Kr Kx) : QW V iL_law 1448 [a0, a1, a2, a3, a4, a5, a6, a7, a8] (st) h z bc bs Kr Kx := q_iconst dL_law_1448 (by decide) kk
theorem dL_law_1449 : decode (i_b iL_law) 1449 = .ok (.iadd, 1) := by decide +kernel
theorem wL_law_1449 {x y : Int32} (kk : QW V iL_law 1450 [a0, a1, a2, a3, a4, a5, a6, a7, a8] (.int (x + y) :: st) h z bc bs Kr Kx) : QW V iL_law 1449 [a0, a1, a2, a3, a4, a5, a6, a7, a8] (.int y :: .int x :: st) h z bc bs Kr Kx := q_iadd dL_law_1449 kk
theorem dL_law_1450 : decode (i_b iL_law) 1450 = .ok (.iaload, 1) := by decide +kernel
theorem wL_law_1450 {j : Nat} {i : Int32} (hi : i = nI j) (hj : j < e_sL V) (hn : e_sL V < 2147483648) (kk : QW V iL_law 1451 [a0, a1, a2, a3, a4, a5, a6, a7, a8] (.int (e_xs V j) :: st) h z bc bs Kr Kx) : QW V iL_law 1450 [a0, a1, a2, a3, a4, a5, a6, a7, a8] (.int i :: .ref (e_sb V) :: st) h z bc bs Kr Kx := q_sld dL_law_1450 hi hj hn kk
theorem dL_law_1451 : decode (i_b iL_law) 1451 = .ok (.invokevirtual 220, 3) := by decide +kernel
theorem wL_law_1451 {a : Nat} {fs : List Value} {x0 : Int32} (hb : h a = some (.inr (10, fs))) (hm : QMi V iX9_roster [.ref a, .int x0] h z (fun r h' z' => QW V iL_law 1454 [a0, a1, a2, a3, a4, a5, a6, a7, a8] (.int r :: st) h' z' bc bs Kr Kx) Kx) (hW : (st.map fun v => v.category).sum ≤ 8 := by exact Nat.le_of_ble_eq_true rfl) : QW V iL_law 1451 [a0, a1, a2, a3, a4, a5, a6, a7, a8] (.int x0 :: .ref a :: st) h z bc bs Kr Kx := q_callV (y' := iX9_roster) (As := [.int x0]) (rest := st) dL_law_1451 k7_201 k7_202 k7_203 k1_10 hhX9_roster rfl hdX9_roster rfl rfl (Nat.le_of_ble_eq_true rfl) (Nat.le_of_ble_eq_true rfl) hW rfl hb (QMi.run hm)
theorem dL_law_1454 : decode (i_b iL_law) 1454 = .ok (.istore 7, 2) := by decide +kernel
theorem wL_law_1454 {x : Int32} (kk : QW V iL_law 1456 [a0, a1, a2, a3, a4, a5, a6, some (.int x), a8] (st) h z bc bs Kr Kx) (hp : q_n2 a6 = true := by rfl) : QW V iL_law 1454 [a0, a1, a2, a3, a4, a5, a6, a7, a8] (.int x :: st) h z bc bs Kr Kx := q_istore dL_law_1454 (Nat.le_of_ble_eq_true rfl) hp kk
theorem dL_law_1456 : decode (i_b iL_law) 1456 = .ok (.aload_n 2, 1) := by decide +kernel
theorem wL_law_1456 {x : Nat} (kk : QW V iL_law 1457 [a0, a1, some (.ref x), a3, a4, a5, a6, a7, a8] (.ref x :: st) h z bc bs Kr Kx) : QW V iL_law 1456 [a0, a1, some (.ref x), a3, a4, a5, a6, a7, a8] (st) h z bc bs Kr Kx := q_aload_n dL_law_1456 rfl rfl kk
theorem dL_law_1457 : decode (i_b iL_law) 1457 = .ok (.invokevirtual 150, 3) := by decide +kernel
theorem wL_law_1457 {a : Nat} {fs : List Value}  (hb : h a = some (.inr (10, fs))) (hm : QMi V iX9_thrown [.ref a] h z (fun r h' z' => QW V iL_law 1460 [a0, a1, a2, a3, a4, a5, a6, a7, a8] (.int r :: st) h' z' bc bs Kr Kx) Kx) (hW : (st.map fun v => v.category).sum ≤ 8 := by exact Nat.le_of_ble_eq_true rfl) : QW V iL_law 1457 [a0, a1, a2, a3, a4, a5, a6, a7, a8] (.ref a :: st) h z bc bs Kr Kx := q_callV (y' := iX9_thrown) (As := []) (rest := st) dL_law_1457 k6_80 k6_81 k6_82 k1_10 hhX9_thrown rfl hdX9_thrown rfl rfl (Nat.le_of_ble_eq_true rfl) (Nat.le_of_ble_eq_true rfl) hW rfl hb (QMi.run hm)
theorem dL_law_1460 : decode (i_b iL_law) 1460 = .ok (.iload 6, 2) := by decide +kernel
theorem wL_law_1460 {x : Int32} (kk : QW V iL_law 1462 [a0, a1, a2, a3, a4, a5, some (.int x), a7, a8] (.int x :: st) h z bc bs Kr Kx) : QW V iL_law 1460 [a0, a1, a2, a3, a4, a5, some (.int x), a7, a8] (st) h z bc bs Kr Kx := q_iload dL_law_1460 rfl kk
theorem dL_law_1462 : decode (i_b iL_law) 1462 = .ok (.if_icmp .eq 5, 3) := by decide +kernel
theorem wL_law_1462 {x y : Int32} (kt : x = y → QW V iL_law 1467 [a0, a1, a2, a3, a4, a5, a6, a7, a8] (st) h z bc bs Kr Kx) (kf : ¬ x = y → QW V iL_law 1465 [a0, a1, a2, a3, a4, a5, a6, a7, a8] (st) h z bc bs Kr Kx) : QW V iL_law 1462 [a0, a1, a2, a3, a4, a5, a6, a7, a8] (.int y :: .int x :: st) h z bc bs Kr Kx := q_icmp_eq dL_law_1462 (by decide) kt kf
theorem dL_law_1465 : decode (i_b iL_law) 1465 = .ok (.iconst 0, 1) := by decide +kernel
theorem wL_law_1465  (kk : QW V iL_law 1466 [a0, a1, a2, a3, a4, a5, a6, a7, a8] (.int (0) :: st) h z bc bs Kr Kx) : QW V iL_law 1465 [a0, a1, a2, a3, a4, a5, a6, a7, a8] (st) h z bc bs Kr Kx := q_iconst dL_law_1465 (by decide) kk
theorem dL_law_1466 : decode (i_b iL_law) 1466 = .ok (.ireturn, 1) := by decide +kernel
theorem wL_law_1466 {x : Int32} {P : Int32 → q_H → Option Nat → Prop} (hk : P x h z) (hn : narrow .boolean (.int x) = .int x := by first | rfl | exact q_b_n _) : QW V iL_law 1466 [a0, a1, a2, a3, a4, a5, a6, a7, a8] [.int x] h z bc bs (q_Ki P) Kx := q_iret dL_law_1466 rfl hn ⟨x, rfl, hk⟩
theorem dL_law_1467 : decode (i_b iL_law) 1467 = .ok (.iload 6, 2) := by decide +kernel
theorem wL_law_1467 {x : Int32} (kk : QW V iL_law 1469 [a0, a1, a2, a3, a4, a5, some (.int x), a7, a8] (.int x :: st) h z bc bs Kr Kx) : QW V iL_law 1467 [a0, a1, a2, a3, a4, a5, some (.int x), a7, a8] (st) h z bc bs Kr Kx := q_iload dL_law_1467 rfl kk
theorem dL_law_1469 : decode (i_b iL_law) 1469 = .ok (.ifCond .ne 15, 3) := by decide +kernel
theorem wL_law_1469 {x : Int32} (kt : ¬ x = 0 → QW V iL_law 1484 [a0, a1, a2, a3, a4, a5, a6, a7, a8] (st) h z bc bs Kr Kx) (kf : x = 0 → QW V iL_law 1472 [a0, a1, a2, a3, a4, a5, a6, a7, a8] (st) h z bc bs Kr Kx) : QW V iL_law 1469 [a0, a1, a2, a3, a4, a5, a6, a7, a8] (.int x :: st) h z bc bs Kr Kx := q_if_ne dL_law_1469 (by decide) kt kf
theorem dL_law_1472 : decode (i_b iL_law) 1472 = .ok (.aload_n 3, 1) := by decide +kernel
theorem wL_law_1472 {x : Nat} (kk : QW V iL_law 1473 [a0, a1, a2, some (.ref x), a4, a5, a6, a7, a8] (.ref x :: st) h z bc bs Kr Kx) : QW V iL_law 1472 [a0, a1, a2, some (.ref x), a4, a5, a6, a7, a8] (st) h z bc bs Kr Kx := q_aload_n dL_law_1472 rfl rfl kk
theorem dL_law_1473 : decode (i_b iL_law) 1473 = .ok (.iconst 0, 1) := by decide +kernel
theorem wL_law_1473  (kk : QW V iL_law 1474 [a0, a1, a2, a3, a4, a5, a6, a7, a8] (.int (0) :: st) h z bc bs Kr Kx) : QW V iL_law 1473 [a0, a1, a2, a3, a4, a5, a6, a7, a8] (st) h z bc bs Kr Kx := q_iconst dL_law_1473 (by decide) kk
theorem dL_law_1474 : decode (i_b iL_law) 1474 = .ok (.laload, 1) := by decide +kernel
theorem wL_law_1474 {a n j : Nat} {f : Nat → Int64} {i : Int32} (ha : h a = some (.inl (2, n, .inr (.inl f)))) (hi : i = nI j) (hj : j < n) (hn : n < 2147483648) (kk : QW V iL_law 1475 [a0, a1, a2, a3, a4, a5, a6, a7, a8] (.long (f j) :: st) h z bc bs Kr Kx) : QW V iL_law 1474 [a0, a1, a2, a3, a4, a5, a6, a7, a8] (.int i :: .ref a :: st) h z bc bs Kr Kx := q_lald dL_law_1474 ha hi hj hn kk
theorem dL_law_1475 : decode (i_b iL_law) 1475 = .ok (.iload 7, 2) := by decide +kernel
theorem wL_law_1475 {x : Int32} (kk : QW V iL_law 1477 [a0, a1, a2, a3, a4, a5, a6, some (.int x), a8] (.int x :: st) h z bc bs Kr Kx) : QW V iL_law 1475 [a0, a1, a2, a3, a4, a5, a6, some (.int x), a8] (st) h z bc bs Kr Kx := q_iload dL_law_1475 rfl kk
theorem dL_law_1477 : decode (i_b iL_law) 1477 = .ok (.i2l, 1) := by decide +kernel
theorem wL_law_1477 {x : Int32} (kk : QW V iL_law 1478 [a0, a1, a2, a3, a4, a5, a6, a7, a8] (.long (x.toInt64) :: st) h z bc bs Kr Kx) : QW V iL_law 1477 [a0, a1, a2, a3, a4, a5, a6, a7, a8] (.int x :: st) h z bc bs Kr Kx := q_i2l dL_law_1477 kk
theorem dL_law_1478 : decode (i_b iL_law) 1478 = .ok (.lcmp, 1) := by decide +kernel
theorem dL_law_1479 : decode (i_b iL_law) 1479 = .ok (.ifCond .eq 5, 3) := by decide +kernel
theorem wL_law_1478 {x y : Int64} (kt : x = y → QW V iL_law 1484 [a0, a1, a2, a3, a4, a5, a6, a7, a8] (st) h z bc bs Kr Kx) (kf : ¬ x = y → QW V iL_law 1482 [a0, a1, a2, a3, a4, a5, a6, a7, a8] (st) h z bc bs Kr Kx) : QW V iL_law 1478 [a0, a1, a2, a3, a4, a5, a6, a7, a8] (.long y :: .long x :: st) h z bc bs Kr Kx := q_lcmp dL_law_1478 (q_if_eq dL_law_1479 (by decide) (fun q => kt ((q_lc_eq x y).mp q)) (fun q => kf (q_lcn_eq q)))
theorem dL_law_1482 : decode (i_b iL_law) 1482 = .ok (.iconst 0, 1) := by decide +kernel
theorem wL_law_1482  (kk : QW V iL_law 1483 [a0, a1, a2, a3, a4, a5, a6, a7, a8] (.int (0) :: st) h z bc bs Kr Kx) : QW V iL_law 1482 [a0, a1, a2, a3, a4, a5, a6, a7, a8] (st) h z bc bs Kr Kx := q_iconst dL_law_1482 (by decide) kk
theorem dL_law_1483 : decode (i_b iL_law) 1483 = .ok (.ireturn, 1) := by decide +kernel
theorem wL_law_1483 {x : Int32} {P : Int32 → q_H → Option Nat → Prop} (hk : P x h z) (hn : narrow .boolean (.int x) = .int x := by first | rfl | exact q_b_n _) : QW V iL_law 1483 [a0, a1, a2, a3, a4, a5, a6, a7, a8] [.int x] h z bc bs (q_Ki P) Kx := q_iret dL_law_1483 rfl hn ⟨x, rfl, hk⟩
theorem dL_law_1484 : decode (i_b iL_law) 1484 = .ok (.goto 1267, 3) := by decide +kernel
theorem wL_law_1484  (kk : QW V iL_law 2751 [a0, a1, a2, a3, a4, a5, a6, a7, a8] (st) h z bc bs Kr Kx) : QW V iL_law 1484 [a0, a1, a2, a3, a4, a5, a6, a7, a8] (st) h z bc bs Kr Kx := q_goto dL_law_1484 (by decide) kk
theorem dL_law_1487 : decode (i_b iL_law) 1487 = .ok (.aload_n 1, 1) := by decide +kernel
theorem wL_law_1487 {x : Nat} (kk : QW V iL_law 1488 [a0, some (.ref x), a2, a3, a4, a5, a6, a7, a8] (.ref x :: st) h z bc bs Kr Kx) : QW V iL_law 1487 [a0, some (.ref x), a2, a3, a4, a5, a6, a7, a8] (st) h z bc bs Kr Kx := q_aload_n dL_law_1487 rfl rfl kk
theorem dL_law_1488 : decode (i_b iL_law) 1488 = .ok (.aload_n 0, 1) := by decide +kernel
theorem wL_law_1488 {x : Nat} (kk : QW V iL_law 1489 [some (.ref x), a1, a2, a3, a4, a5, a6, a7, a8] (.ref x :: st) h z bc bs Kr Kx) : QW V iL_law 1488 [some (.ref x), a1, a2, a3, a4, a5, a6, a7, a8] (st) h z bc bs Kr Kx := q_aload_n dL_law_1488 rfl rfl kk
theorem dL_law_1489 : decode (i_b iL_law) 1489 = .ok (.iload 5, 2) := by decide +kernel
theorem wL_law_1489 {x : Int32} (kk : QW V iL_law 1491 [a0, a1, a2, a3, a4, some (.int x), a6, a7, a8] (.int x :: st) h z bc bs Kr Kx) : QW V iL_law 1489 [a0, a1, a2, a3, a4, some (.int x), a6, a7, a8] (st) h z bc bs Kr Kx := q_iload dL_law_1489 rfl kk
theorem dL_law_1491 : decode (i_b iL_law) 1491 = .ok (.iconst 1, 1) := by decide +kernel
theorem wL_law_1491  (kk : QW V iL_law 1492 [a0, a1, a2, a3, a4, a5, a6, a7, a8] (.int (1) :: st) h z bc bs Kr Kx) : QW V iL_law 1491 [a0, a1, a2, a3, a4, a5, a6, a7, a8] (st) h z bc bs Kr Kx := q_iconst dL_law_1491 (by decide) kk
theorem dL_law_1492 : decode (i_b iL_law) 1492 = .ok (.iadd, 1) := by decide +kernel
theorem wL_law_1492 {x y : Int32} (kk : QW V iL_law 1493 [a0, a1, a2, a3, a4, a5, a6, a7, a8] (.int (x + y) :: st) h z bc bs Kr Kx) : QW V iL_law 1492 [a0, a1, a2, a3, a4, a5, a6, a7, a8] (.int y :: .int x :: st) h z bc bs Kr Kx := q_iadd dL_law_1492 kk
theorem dL_law_1493 : decode (i_b iL_law) 1493 = .ok (.iaload, 1) := by decide +kernel
theorem wL_law_1493 {j : Nat} {i : Int32} (hi : i = nI j) (hj : j < e_sL V) (hn : e_sL V < 2147483648) (kk : QW V iL_law 1494 [a0, a1, a2, a3, a4, a5, a6, a7, a8] (.int (e_xs V j) :: st) h z bc bs Kr Kx) : QW V iL_law 1493 [a0, a1, a2, a3, a4, a5, a6, a7, a8] (.int i :: .ref (e_sb V) :: st) h z bc bs Kr Kx := q_sld dL_law_1493 hi hj hn kk
theorem dL_law_1494 : decode (i_b iL_law) 1494 = .ok (.aload_n 0, 1) := by decide +kernel
theorem wL_law_1494 {x : Nat} (kk : QW V iL_law 1495 [some (.ref x), a1, a2, a3, a4, a5, a6, a7, a8] (.ref x :: st) h z bc bs Kr Kx) : QW V iL_law 1494 [some (.ref x), a1, a2, a3, a4, a5, a6, a7, a8] (st) h z bc bs Kr Kx := q_aload_n dL_law_1494 rfl rfl kk
theorem dL_law_1495 : decode (i_b iL_law) 1495 = .ok (.iload 5, 2) := by decide +kernel
theorem wL_law_1495 {x : Int32} (kk : QW V iL_law 1497 [a0, a1, a2, a3, a4, some (.int x), a6, a7, a8] (.int x :: st) h z bc bs Kr Kx) : QW V iL_law 1495 [a0, a1, a2, a3, a4, some (.int x), a6, a7, a8] (st) h z bc bs Kr Kx := q_iload dL_law_1495 rfl kk
theorem dL_law_1497 : decode (i_b iL_law) 1497 = .ok (.iconst 2, 1) := by decide +kernel
theorem wL_law_1497  (kk : QW V iL_law 1498 [a0, a1, a2, a3, a4, a5, a6, a7, a8] (.int (2) :: st) h z bc bs Kr Kx) : QW V iL_law 1497 [a0, a1, a2, a3, a4, a5, a6, a7, a8] (st) h z bc bs Kr Kx := q_iconst dL_law_1497 (by decide) kk
theorem dL_law_1498 : decode (i_b iL_law) 1498 = .ok (.iadd, 1) := by decide +kernel
theorem wL_law_1498 {x y : Int32} (kk : QW V iL_law 1499 [a0, a1, a2, a3, a4, a5, a6, a7, a8] (.int (x + y) :: st) h z bc bs Kr Kx) : QW V iL_law 1498 [a0, a1, a2, a3, a4, a5, a6, a7, a8] (.int y :: .int x :: st) h z bc bs Kr Kx := q_iadd dL_law_1498 kk
theorem dL_law_1499 : decode (i_b iL_law) 1499 = .ok (.iaload, 1) := by decide +kernel
theorem wL_law_1499 {j : Nat} {i : Int32} (hi : i = nI j) (hj : j < e_sL V) (hn : e_sL V < 2147483648) (kk : QW V iL_law 1500 [a0, a1, a2, a3, a4, a5, a6, a7, a8] (.int (e_xs V j) :: st) h z bc bs Kr Kx) : QW V iL_law 1499 [a0, a1, a2, a3, a4, a5, a6, a7, a8] (.int i :: .ref (e_sb V) :: st) h z bc bs Kr Kx := q_sld dL_law_1499 hi hj hn kk
theorem dL_law_1500 : decode (i_b iL_law) 1500 = .ok (.aload_n 3, 1) := by decide +kernel
theorem wL_law_1500 {x : Nat} (kk : QW V iL_law 1501 [a0, a1, a2, some (.ref x), a4, a5, a6, a7, a8] (.ref x :: st) h z bc bs Kr Kx) : QW V iL_law 1500 [a0, a1, a2, some (.ref x), a4, a5, a6, a7, a8] (st) h z bc bs Kr Kx := q_aload_n dL_law_1500 rfl rfl kk
theorem dL_law_1501 : decode (i_b iL_law) 1501 = .ok (.invokestatic 221, 3) := by decide +kernel
theorem wL_law_1501 {x0 : Nat} {x1 : Int32} {x2 : Int32} {x3 : Nat} (hm : QMi V iL_teamRank [.ref x0, .int x1, .int x2, .ref x3] h z (fun r h' z' => QW V iL_law 1504 [a0, a1, a2, a3, a4, a5, a6, a7, a8] (.int r :: st) h' z' bc bs Kr Kx) Kx) (hW : (st.map fun v => v.category).sum ≤ 8 := by exact Nat.le_of_ble_eq_true rfl) : QW V iL_law 1501 [a0, a1, a2, a3, a4, a5, a6, a7, a8] (.ref x3 :: .int x2 :: .int x1 :: .ref x0 :: st) h z (bc + 4) (bs + 24) Kr Kx := q_callSX (y' := iL_teamRank) (As := [.ref x0, .int x1, .int x2, .ref x3]) (rest := st) dL_law_1501 k4_204 k4_205 k1_0 hhL_teamRank (by decide) hdL_teamRank rfl (Nat.le_of_ble_eq_true rfl) (Nat.le_of_ble_eq_true rfl) hW rfl (QMi.run hm)
theorem dL_law_1504 : decode (i_b iL_law) 1504 = .ok (.istore 6, 2) := by decide +kernel
theorem wL_law_1504 {x : Int32} (kk : QW V iL_law 1506 [a0, a1, a2, a3, a4, a5, some (.int x), a7, a8] (st) h z bc bs Kr Kx) (hp : q_n2 a5 = true := by rfl) : QW V iL_law 1504 [a0, a1, a2, a3, a4, a5, a6, a7, a8] (.int x :: st) h z bc bs Kr Kx := q_istore dL_law_1504 (Nat.le_of_ble_eq_true rfl) hp kk
theorem dL_law_1506 : decode (i_b iL_law) 1506 = .ok (.aload_n 2, 1) := by decide +kernel
theorem wL_law_1506 {x : Nat} (kk : QW V iL_law 1507 [a0, a1, some (.ref x), a3, a4, a5, a6, a7, a8] (.ref x :: st) h z bc bs Kr Kx) : QW V iL_law 1506 [a0, a1, some (.ref x), a3, a4, a5, a6, a7, a8] (st) h z bc bs Kr Kx := q_aload_n dL_law_1506 rfl rfl kk
theorem dL_law_1507 : decode (i_b iL_law) 1507 = .ok (.aload_n 0, 1) := by decide +kernel
theorem wL_law_1507 {x : Nat} (kk : QW V iL_law 1508 [some (.ref x), a1, a2, a3, a4, a5, a6, a7, a8] (.ref x :: st) h z bc bs Kr Kx) : QW V iL_law 1507 [some (.ref x), a1, a2, a3, a4, a5, a6, a7, a8] (st) h z bc bs Kr Kx := q_aload_n dL_law_1507 rfl rfl kk
theorem dL_law_1508 : decode (i_b iL_law) 1508 = .ok (.iload 5, 2) := by decide +kernel
theorem wL_law_1508 {x : Int32} (kk : QW V iL_law 1510 [a0, a1, a2, a3, a4, some (.int x), a6, a7, a8] (.int x :: st) h z bc bs Kr Kx) : QW V iL_law 1508 [a0, a1, a2, a3, a4, some (.int x), a6, a7, a8] (st) h z bc bs Kr Kx := q_iload dL_law_1508 rfl kk
theorem dL_law_1510 : decode (i_b iL_law) 1510 = .ok (.iconst 1, 1) := by decide +kernel
theorem wL_law_1510  (kk : QW V iL_law 1511 [a0, a1, a2, a3, a4, a5, a6, a7, a8] (.int (1) :: st) h z bc bs Kr Kx) : QW V iL_law 1510 [a0, a1, a2, a3, a4, a5, a6, a7, a8] (st) h z bc bs Kr Kx := q_iconst dL_law_1510 (by decide) kk
theorem dL_law_1511 : decode (i_b iL_law) 1511 = .ok (.iadd, 1) := by decide +kernel
theorem wL_law_1511 {x y : Int32} (kk : QW V iL_law 1512 [a0, a1, a2, a3, a4, a5, a6, a7, a8] (.int (x + y) :: st) h z bc bs Kr Kx) : QW V iL_law 1511 [a0, a1, a2, a3, a4, a5, a6, a7, a8] (.int y :: .int x :: st) h z bc bs Kr Kx := q_iadd dL_law_1511 kk
theorem dL_law_1512 : decode (i_b iL_law) 1512 = .ok (.iaload, 1) := by decide +kernel
theorem wL_law_1512 {j : Nat} {i : Int32} (hi : i = nI j) (hj : j < e_sL V) (hn : e_sL V < 2147483648) (kk : QW V iL_law 1513 [a0, a1, a2, a3, a4, a5, a6, a7, a8] (.int (e_xs V j) :: st) h z bc bs Kr Kx) : QW V iL_law 1512 [a0, a1, a2, a3, a4, a5, a6, a7, a8] (.int i :: .ref (e_sb V) :: st) h z bc bs Kr Kx := q_sld dL_law_1512 hi hj hn kk
theorem dL_law_1513 : decode (i_b iL_law) 1513 = .ok (.aload_n 0, 1) := by decide +kernel
theorem wL_law_1513 {x : Nat} (kk : QW V iL_law 1514 [some (.ref x), a1, a2, a3, a4, a5, a6, a7, a8] (.ref x :: st) h z bc bs Kr Kx) : QW V iL_law 1513 [some (.ref x), a1, a2, a3, a4, a5, a6, a7, a8] (st) h z bc bs Kr Kx := q_aload_n dL_law_1513 rfl rfl kk
theorem dL_law_1514 : decode (i_b iL_law) 1514 = .ok (.iload 5, 2) := by decide +kernel
theorem wL_law_1514 {x : Int32} (kk : QW V iL_law 1516 [a0, a1, a2, a3, a4, some (.int x), a6, a7, a8] (.int x :: st) h z bc bs Kr Kx) : QW V iL_law 1514 [a0, a1, a2, a3, a4, some (.int x), a6, a7, a8] (st) h z bc bs Kr Kx := q_iload dL_law_1514 rfl kk
theorem dL_law_1516 : decode (i_b iL_law) 1516 = .ok (.iconst 2, 1) := by decide +kernel
theorem wL_law_1516  (kk : QW V iL_law 1517 [a0, a1, a2, a3, a4, a5, a6, a7, a8] (.int (2) :: st) h z bc bs Kr Kx) : QW V iL_law 1516 [a0, a1, a2, a3, a4, a5, a6, a7, a8] (st) h z bc bs Kr Kx := q_iconst dL_law_1516 (by decide) kk
theorem dL_law_1517 : decode (i_b iL_law) 1517 = .ok (.iadd, 1) := by decide +kernel
theorem wL_law_1517 {x y : Int32} (kk : QW V iL_law 1518 [a0, a1, a2, a3, a4, a5, a6, a7, a8] (.int (x + y) :: st) h z bc bs Kr Kx) : QW V iL_law 1517 [a0, a1, a2, a3, a4, a5, a6, a7, a8] (.int y :: .int x :: st) h z bc bs Kr Kx := q_iadd dL_law_1517 kk
theorem dL_law_1518 : decode (i_b iL_law) 1518 = .ok (.iaload, 1) := by decide +kernel
theorem wL_law_1518 {j : Nat} {i : Int32} (hi : i = nI j) (hj : j < e_sL V) (hn : e_sL V < 2147483648) (kk : QW V iL_law 1519 [a0, a1, a2, a3, a4, a5, a6, a7, a8] (.int (e_xs V j) :: st) h z bc bs Kr Kx) : QW V iL_law 1518 [a0, a1, a2, a3, a4, a5, a6, a7, a8] (.int i :: .ref (e_sb V) :: st) h z bc bs Kr Kx := q_sld dL_law_1518 hi hj hn kk
theorem dL_law_1519 : decode (i_b iL_law) 1519 = .ok (.invokevirtual 223, 3) := by decide +kernel
theorem wL_law_1519 {a : Nat} {fs : List Value} {x0 : Int32} {x1 : Int32} (hb : h a = some (.inr (10, fs))) (hm : QMi V iX9_teamRank [.ref a, .int x0, .int x1] h z (fun r h' z' => QW V iL_law 1522 [a0, a1, a2, a3, a4, a5, a6, a7, a8] (.int r :: st) h' z' bc bs Kr Kx) Kx) (hW : (st.map fun v => v.category).sum ≤ 8 := by exact Nat.le_of_ble_eq_true rfl) : QW V iL_law 1519 [a0, a1, a2, a3, a4, a5, a6, a7, a8] (.int x1 :: .int x0 :: .ref a :: st) h z bc bs Kr Kx := q_callV (y' := iX9_teamRank) (As := [.int x0, .int x1]) (rest := st) dL_law_1519 k7_205 k7_206 k7_207 k1_10 hhX9_teamRank rfl hdX9_teamRank rfl rfl (Nat.le_of_ble_eq_true rfl) (Nat.le_of_ble_eq_true rfl) hW rfl hb (QMi.run hm)
theorem dL_law_1522 : decode (i_b iL_law) 1522 = .ok (.istore 7, 2) := by decide +kernel
theorem wL_law_1522 {x : Int32} (kk : QW V iL_law 1524 [a0, a1, a2, a3, a4, a5, a6, some (.int x), a8] (st) h z bc bs Kr Kx) (hp : q_n2 a6 = true := by rfl) : QW V iL_law 1522 [a0, a1, a2, a3, a4, a5, a6, a7, a8] (.int x :: st) h z bc bs Kr Kx := q_istore dL_law_1522 (Nat.le_of_ble_eq_true rfl) hp kk
theorem dL_law_1524 : decode (i_b iL_law) 1524 = .ok (.aload_n 2, 1) := by decide +kernel
theorem wL_law_1524 {x : Nat} (kk : QW V iL_law 1525 [a0, a1, some (.ref x), a3, a4, a5, a6, a7, a8] (.ref x :: st) h z bc bs Kr Kx) : QW V iL_law 1524 [a0, a1, some (.ref x), a3, a4, a5, a6, a7, a8] (st) h z bc bs Kr Kx := q_aload_n dL_law_1524 rfl rfl kk
theorem dL_law_1525 : decode (i_b iL_law) 1525 = .ok (.invokevirtual 150, 3) := by decide +kernel
theorem wL_law_1525 {a : Nat} {fs : List Value}  (hb : h a = some (.inr (10, fs))) (hm : QMi V iX9_thrown [.ref a] h z (fun r h' z' => QW V iL_law 1528 [a0, a1, a2, a3, a4, a5, a6, a7, a8] (.int r :: st) h' z' bc bs Kr Kx) Kx) (hW : (st.map fun v => v.category).sum ≤ 8 := by exact Nat.le_of_ble_eq_true rfl) : QW V iL_law 1525 [a0, a1, a2, a3, a4, a5, a6, a7, a8] (.ref a :: st) h z bc bs Kr Kx := q_callV (y' := iX9_thrown) (As := []) (rest := st) dL_law_1525 k6_80 k6_81 k6_82 k1_10 hhX9_thrown rfl hdX9_thrown rfl rfl (Nat.le_of_ble_eq_true rfl) (Nat.le_of_ble_eq_true rfl) hW rfl hb (QMi.run hm)
theorem dL_law_1528 : decode (i_b iL_law) 1528 = .ok (.iload 6, 2) := by decide +kernel
theorem wL_law_1528 {x : Int32} (kk : QW V iL_law 1530 [a0, a1, a2, a3, a4, a5, some (.int x), a7, a8] (.int x :: st) h z bc bs Kr Kx) : QW V iL_law 1528 [a0, a1, a2, a3, a4, a5, some (.int x), a7, a8] (st) h z bc bs Kr Kx := q_iload dL_law_1528 rfl kk
theorem dL_law_1530 : decode (i_b iL_law) 1530 = .ok (.if_icmp .eq 5, 3) := by decide +kernel
theorem wL_law_1530 {x y : Int32} (kt : x = y → QW V iL_law 1535 [a0, a1, a2, a3, a4, a5, a6, a7, a8] (st) h z bc bs Kr Kx) (kf : ¬ x = y → QW V iL_law 1533 [a0, a1, a2, a3, a4, a5, a6, a7, a8] (st) h z bc bs Kr Kx) : QW V iL_law 1530 [a0, a1, a2, a3, a4, a5, a6, a7, a8] (.int y :: .int x :: st) h z bc bs Kr Kx := q_icmp_eq dL_law_1530 (by decide) kt kf
theorem dL_law_1533 : decode (i_b iL_law) 1533 = .ok (.iconst 0, 1) := by decide +kernel
theorem wL_law_1533  (kk : QW V iL_law 1534 [a0, a1, a2, a3, a4, a5, a6, a7, a8] (.int (0) :: st) h z bc bs Kr Kx) : QW V iL_law 1533 [a0, a1, a2, a3, a4, a5, a6, a7, a8] (st) h z bc bs Kr Kx := q_iconst dL_law_1533 (by decide) kk
theorem dL_law_1534 : decode (i_b iL_law) 1534 = .ok (.ireturn, 1) := by decide +kernel
theorem wL_law_1534 {x : Int32} {P : Int32 → q_H → Option Nat → Prop} (hk : P x h z) (hn : narrow .boolean (.int x) = .int x := by first | rfl | exact q_b_n _) : QW V iL_law 1534 [a0, a1, a2, a3, a4, a5, a6, a7, a8] [.int x] h z bc bs (q_Ki P) Kx := q_iret dL_law_1534 rfl hn ⟨x, rfl, hk⟩
theorem dL_law_1535 : decode (i_b iL_law) 1535 = .ok (.iload 6, 2) := by decide +kernel
theorem wL_law_1535 {x : Int32} (kk : QW V iL_law 1537 [a0, a1, a2, a3, a4, a5, some (.int x), a7, a8] (.int x :: st) h z bc bs Kr Kx) : QW V iL_law 1535 [a0, a1, a2, a3, a4, a5, some (.int x), a7, a8] (st) h z bc bs Kr Kx := q_iload dL_law_1535 rfl kk
theorem dL_law_1537 : decode (i_b iL_law) 1537 = .ok (.ifCond .ne 15, 3) := by decide +kernel
theorem wL_law_1537 {x : Int32} (kt : ¬ x = 0 → QW V iL_law 1552 [a0, a1, a2, a3, a4, a5, a6, a7, a8] (st) h z bc bs Kr Kx) (kf : x = 0 → QW V iL_law 1540 [a0, a1, a2, a3, a4, a5, a6, a7, a8] (st) h z bc bs Kr Kx) : QW V iL_law 1537 [a0, a1, a2, a3, a4, a5, a6, a7, a8] (.int x :: st) h z bc bs Kr Kx := q_if_ne dL_law_1537 (by decide) kt kf
theorem dL_law_1540 : decode (i_b iL_law) 1540 = .ok (.aload_n 3, 1) := by decide +kernel
theorem wL_law_1540 {x : Nat} (kk : QW V iL_law 1541 [a0, a1, a2, some (.ref x), a4, a5, a6, a7, a8] (.ref x :: st) h z bc bs Kr Kx) : QW V iL_law 1540 [a0, a1, a2, some (.ref x), a4, a5, a6, a7, a8] (st) h z bc bs Kr Kx := q_aload_n dL_law_1540 rfl rfl kk
theorem dL_law_1541 : decode (i_b iL_law) 1541 = .ok (.iconst 0, 1) := by decide +kernel
theorem wL_law_1541  (kk : QW V iL_law 1542 [a0, a1, a2, a3, a4, a5, a6, a7, a8] (.int (0) :: st) h z bc bs Kr Kx) : QW V iL_law 1541 [a0, a1, a2, a3, a4, a5, a6, a7, a8] (st) h z bc bs Kr Kx := q_iconst dL_law_1541 (by decide) kk
theorem dL_law_1542 : decode (i_b iL_law) 1542 = .ok (.laload, 1) := by decide +kernel
theorem wL_law_1542 {a n j : Nat} {f : Nat → Int64} {i : Int32} (ha : h a = some (.inl (2, n, .inr (.inl f)))) (hi : i = nI j) (hj : j < n) (hn : n < 2147483648) (kk : QW V iL_law 1543 [a0, a1, a2, a3, a4, a5, a6, a7, a8] (.long (f j) :: st) h z bc bs Kr Kx) : QW V iL_law 1542 [a0, a1, a2, a3, a4, a5, a6, a7, a8] (.int i :: .ref a :: st) h z bc bs Kr Kx := q_lald dL_law_1542 ha hi hj hn kk
theorem dL_law_1543 : decode (i_b iL_law) 1543 = .ok (.iload 7, 2) := by decide +kernel
theorem wL_law_1543 {x : Int32} (kk : QW V iL_law 1545 [a0, a1, a2, a3, a4, a5, a6, some (.int x), a8] (.int x :: st) h z bc bs Kr Kx) : QW V iL_law 1543 [a0, a1, a2, a3, a4, a5, a6, some (.int x), a8] (st) h z bc bs Kr Kx := q_iload dL_law_1543 rfl kk
theorem dL_law_1545 : decode (i_b iL_law) 1545 = .ok (.i2l, 1) := by decide +kernel
theorem wL_law_1545 {x : Int32} (kk : QW V iL_law 1546 [a0, a1, a2, a3, a4, a5, a6, a7, a8] (.long (x.toInt64) :: st) h z bc bs Kr Kx) : QW V iL_law 1545 [a0, a1, a2, a3, a4, a5, a6, a7, a8] (.int x :: st) h z bc bs Kr Kx := q_i2l dL_law_1545 kk
theorem dL_law_1546 : decode (i_b iL_law) 1546 = .ok (.lcmp, 1) := by decide +kernel
theorem dL_law_1547 : decode (i_b iL_law) 1547 = .ok (.ifCond .eq 5, 3) := by decide +kernel
theorem wL_law_1546 {x y : Int64} (kt : x = y → QW V iL_law 1552 [a0, a1, a2, a3, a4, a5, a6, a7, a8] (st) h z bc bs Kr Kx) (kf : ¬ x = y → QW V iL_law 1550 [a0, a1, a2, a3, a4, a5, a6, a7, a8] (st) h z bc bs Kr Kx) : QW V iL_law 1546 [a0, a1, a2, a3, a4, a5, a6, a7, a8] (.long y :: .long x :: st) h z bc bs Kr Kx := q_lcmp dL_law_1546 (q_if_eq dL_law_1547 (by decide) (fun q => kt ((q_lc_eq x y).mp q)) (fun q => kf (q_lcn_eq q)))
theorem dL_law_1550 : decode (i_b iL_law) 1550 = .ok (.iconst 0, 1) := by decide +kernel
theorem wL_law_1550  (kk : QW V iL_law 1551 [a0, a1, a2, a3, a4, a5, a6, a7, a8] (.int (0) :: st) h z bc bs Kr Kx) : QW V iL_law 1550 [a0, a1, a2, a3, a4, a5, a6, a7, a8] (st) h z bc bs Kr Kx := q_iconst dL_law_1550 (by decide) kk
theorem dL_law_1551 : decode (i_b iL_law) 1551 = .ok (.ireturn, 1) := by decide +kernel
theorem wL_law_1551 {x : Int32} {P : Int32 → q_H → Option Nat → Prop} (hk : P x h z) (hn : narrow .boolean (.int x) = .int x := by first | rfl | exact q_b_n _) : QW V iL_law 1551 [a0, a1, a2, a3, a4, a5, a6, a7, a8] [.int x] h z bc bs (q_Ki P) Kx := q_iret dL_law_1551 rfl hn ⟨x, rfl, hk⟩
theorem dL_law_1552 : decode (i_b iL_law) 1552 = .ok (.goto 1199, 3) := by decide +kernel
theorem wL_law_1552  (kk : QW V iL_law 2751 [a0, a1, a2, a3, a4, a5, a6, a7, a8] (st) h z bc bs Kr Kx) : QW V iL_law 1552 [a0, a1, a2, a3, a4, a5, a6, a7, a8] (st) h z bc bs Kr Kx := q_goto dL_law_1552 (by decide) kk
theorem dL_law_1555 : decode (i_b iL_law) 1555 = .ok (.aload_n 1, 1) := by decide +kernel
theorem wL_law_1555 {x : Nat} (kk : QW V iL_law 1556 [a0, some (.ref x), a2, a3, a4, a5, a6, a7, a8] (.ref x :: st) h z bc bs Kr Kx) : QW V iL_law 1555 [a0, some (.ref x), a2, a3, a4, a5, a6, a7, a8] (st) h z bc bs Kr Kx := q_aload_n dL_law_1555 rfl rfl kk
theorem dL_law_1556 : decode (i_b iL_law) 1556 = .ok (.aload_n 0, 1) := by decide +kernel
theorem wL_law_1556 {x : Nat} (kk : QW V iL_law 1557 [some (.ref x), a1, a2, a3, a4, a5, a6, a7, a8] (.ref x :: st) h z bc bs Kr Kx) : QW V iL_law 1556 [some (.ref x), a1, a2, a3, a4, a5, a6, a7, a8] (st) h z bc bs Kr Kx := q_aload_n dL_law_1556 rfl rfl kk
theorem dL_law_1557 : decode (i_b iL_law) 1557 = .ok (.iload 5, 2) := by decide +kernel
theorem wL_law_1557 {x : Int32} (kk : QW V iL_law 1559 [a0, a1, a2, a3, a4, some (.int x), a6, a7, a8] (.int x :: st) h z bc bs Kr Kx) : QW V iL_law 1557 [a0, a1, a2, a3, a4, some (.int x), a6, a7, a8] (st) h z bc bs Kr Kx := q_iload dL_law_1557 rfl kk
theorem dL_law_1559 : decode (i_b iL_law) 1559 = .ok (.iconst 1, 1) := by decide +kernel
theorem wL_law_1559  (kk : QW V iL_law 1560 [a0, a1, a2, a3, a4, a5, a6, a7, a8] (.int (1) :: st) h z bc bs Kr Kx) : QW V iL_law 1559 [a0, a1, a2, a3, a4, a5, a6, a7, a8] (st) h z bc bs Kr Kx := q_iconst dL_law_1559 (by decide) kk
theorem dL_law_1560 : decode (i_b iL_law) 1560 = .ok (.iadd, 1) := by decide +kernel
theorem wL_law_1560 {x y : Int32} (kk : QW V iL_law 1561 [a0, a1, a2, a3, a4, a5, a6, a7, a8] (.int (x + y) :: st) h z bc bs Kr Kx) : QW V iL_law 1560 [a0, a1, a2, a3, a4, a5, a6, a7, a8] (.int y :: .int x :: st) h z bc bs Kr Kx := q_iadd dL_law_1560 kk
theorem dL_law_1561 : decode (i_b iL_law) 1561 = .ok (.iaload, 1) := by decide +kernel
theorem wL_law_1561 {j : Nat} {i : Int32} (hi : i = nI j) (hj : j < e_sL V) (hn : e_sL V < 2147483648) (kk : QW V iL_law 1562 [a0, a1, a2, a3, a4, a5, a6, a7, a8] (.int (e_xs V j) :: st) h z bc bs Kr Kx) : QW V iL_law 1561 [a0, a1, a2, a3, a4, a5, a6, a7, a8] (.int i :: .ref (e_sb V) :: st) h z bc bs Kr Kx := q_sld dL_law_1561 hi hj hn kk
theorem dL_law_1562 : decode (i_b iL_law) 1562 = .ok (.aload_n 0, 1) := by decide +kernel
theorem wL_law_1562 {x : Nat} (kk : QW V iL_law 1563 [some (.ref x), a1, a2, a3, a4, a5, a6, a7, a8] (.ref x :: st) h z bc bs Kr Kx) : QW V iL_law 1562 [some (.ref x), a1, a2, a3, a4, a5, a6, a7, a8] (st) h z bc bs Kr Kx := q_aload_n dL_law_1562 rfl rfl kk
theorem dL_law_1563 : decode (i_b iL_law) 1563 = .ok (.iload 5, 2) := by decide +kernel
theorem wL_law_1563 {x : Int32} (kk : QW V iL_law 1565 [a0, a1, a2, a3, a4, some (.int x), a6, a7, a8] (.int x :: st) h z bc bs Kr Kx) : QW V iL_law 1563 [a0, a1, a2, a3, a4, some (.int x), a6, a7, a8] (st) h z bc bs Kr Kx := q_iload dL_law_1563 rfl kk
theorem dL_law_1565 : decode (i_b iL_law) 1565 = .ok (.iconst 2, 1) := by decide +kernel
theorem wL_law_1565  (kk : QW V iL_law 1566 [a0, a1, a2, a3, a4, a5, a6, a7, a8] (.int (2) :: st) h z bc bs Kr Kx) : QW V iL_law 1565 [a0, a1, a2, a3, a4, a5, a6, a7, a8] (st) h z bc bs Kr Kx := q_iconst dL_law_1565 (by decide) kk
theorem dL_law_1566 : decode (i_b iL_law) 1566 = .ok (.iadd, 1) := by decide +kernel
theorem wL_law_1566 {x y : Int32} (kk : QW V iL_law 1567 [a0, a1, a2, a3, a4, a5, a6, a7, a8] (.int (x + y) :: st) h z bc bs Kr Kx) : QW V iL_law 1566 [a0, a1, a2, a3, a4, a5, a6, a7, a8] (.int y :: .int x :: st) h z bc bs Kr Kx := q_iadd dL_law_1566 kk
theorem dL_law_1567 : decode (i_b iL_law) 1567 = .ok (.iaload, 1) := by decide +kernel
theorem wL_law_1567 {j : Nat} {i : Int32} (hi : i = nI j) (hj : j < e_sL V) (hn : e_sL V < 2147483648) (kk : QW V iL_law 1568 [a0, a1, a2, a3, a4, a5, a6, a7, a8] (.int (e_xs V j) :: st) h z bc bs Kr Kx) : QW V iL_law 1567 [a0, a1, a2, a3, a4, a5, a6, a7, a8] (.int i :: .ref (e_sb V) :: st) h z bc bs Kr Kx := q_sld dL_law_1567 hi hj hn kk
theorem dL_law_1568 : decode (i_b iL_law) 1568 = .ok (.aload_n 3, 1) := by decide +kernel
theorem wL_law_1568 {x : Nat} (kk : QW V iL_law 1569 [a0, a1, a2, some (.ref x), a4, a5, a6, a7, a8] (.ref x :: st) h z bc bs Kr Kx) : QW V iL_law 1568 [a0, a1, a2, some (.ref x), a4, a5, a6, a7, a8] (st) h z bc bs Kr Kx := q_aload_n dL_law_1568 rfl rfl kk
theorem dL_law_1569 : decode (i_b iL_law) 1569 = .ok (.invokestatic 224, 3) := by decide +kernel
theorem wL_law_1569 {x0 : Nat} {x1 : Int32} {x2 : Int32} {x3 : Nat} (hm : QMi V iL_playerValue [.ref x0, .int x1, .int x2, .ref x3] h z (fun r h' z' => QW V iL_law 1572 [a0, a1, a2, a3, a4, a5, a6, a7, a8] (.int r :: st) h' z' bc bs Kr Kx) Kx) (hW : (st.map fun v => v.category).sum ≤ 8 := by exact Nat.le_of_ble_eq_true rfl) : QW V iL_law 1569 [a0, a1, a2, a3, a4, a5, a6, a7, a8] (.ref x3 :: .int x2 :: .int x1 :: .ref x0 :: st) h z (bc + 3) (bs + 18) Kr Kx := q_callSX (y' := iL_playerValue) (As := [.ref x0, .int x1, .int x2, .ref x3]) (rest := st) dL_law_1569 k5_0 k5_1 k1_0 hhL_playerValue (by decide) hdL_playerValue rfl (Nat.le_of_ble_eq_true rfl) (Nat.le_of_ble_eq_true rfl) hW rfl (QMi.run hm)
theorem dL_law_1572 : decode (i_b iL_law) 1572 = .ok (.istore 6, 2) := by decide +kernel
theorem wL_law_1572 {x : Int32} (kk : QW V iL_law 1574 [a0, a1, a2, a3, a4, a5, some (.int x), a7, a8] (st) h z bc bs Kr Kx) (hp : q_n2 a5 = true := by rfl) : QW V iL_law 1572 [a0, a1, a2, a3, a4, a5, a6, a7, a8] (.int x :: st) h z bc bs Kr Kx := q_istore dL_law_1572 (Nat.le_of_ble_eq_true rfl) hp kk
theorem dL_law_1574 : decode (i_b iL_law) 1574 = .ok (.aload_n 2, 1) := by decide +kernel
theorem wL_law_1574 {x : Nat} (kk : QW V iL_law 1575 [a0, a1, some (.ref x), a3, a4, a5, a6, a7, a8] (.ref x :: st) h z bc bs Kr Kx) : QW V iL_law 1574 [a0, a1, some (.ref x), a3, a4, a5, a6, a7, a8] (st) h z bc bs Kr Kx := q_aload_n dL_law_1574 rfl rfl kk
theorem dL_law_1575 : decode (i_b iL_law) 1575 = .ok (.aload_n 0, 1) := by decide +kernel
theorem wL_law_1575 {x : Nat} (kk : QW V iL_law 1576 [some (.ref x), a1, a2, a3, a4, a5, a6, a7, a8] (.ref x :: st) h z bc bs Kr Kx) : QW V iL_law 1575 [some (.ref x), a1, a2, a3, a4, a5, a6, a7, a8] (st) h z bc bs Kr Kx := q_aload_n dL_law_1575 rfl rfl kk
theorem dL_law_1576 : decode (i_b iL_law) 1576 = .ok (.iload 5, 2) := by decide +kernel
theorem wL_law_1576 {x : Int32} (kk : QW V iL_law 1578 [a0, a1, a2, a3, a4, some (.int x), a6, a7, a8] (.int x :: st) h z bc bs Kr Kx) : QW V iL_law 1576 [a0, a1, a2, a3, a4, some (.int x), a6, a7, a8] (st) h z bc bs Kr Kx := q_iload dL_law_1576 rfl kk
theorem dL_law_1578 : decode (i_b iL_law) 1578 = .ok (.iconst 1, 1) := by decide +kernel
theorem wL_law_1578  (kk : QW V iL_law 1579 [a0, a1, a2, a3, a4, a5, a6, a7, a8] (.int (1) :: st) h z bc bs Kr Kx) : QW V iL_law 1578 [a0, a1, a2, a3, a4, a5, a6, a7, a8] (st) h z bc bs Kr Kx := q_iconst dL_law_1578 (by decide) kk
theorem dL_law_1579 : decode (i_b iL_law) 1579 = .ok (.iadd, 1) := by decide +kernel
theorem wL_law_1579 {x y : Int32} (kk : QW V iL_law 1580 [a0, a1, a2, a3, a4, a5, a6, a7, a8] (.int (x + y) :: st) h z bc bs Kr Kx) : QW V iL_law 1579 [a0, a1, a2, a3, a4, a5, a6, a7, a8] (.int y :: .int x :: st) h z bc bs Kr Kx := q_iadd dL_law_1579 kk
theorem dL_law_1580 : decode (i_b iL_law) 1580 = .ok (.iaload, 1) := by decide +kernel
theorem wL_law_1580 {j : Nat} {i : Int32} (hi : i = nI j) (hj : j < e_sL V) (hn : e_sL V < 2147483648) (kk : QW V iL_law 1581 [a0, a1, a2, a3, a4, a5, a6, a7, a8] (.int (e_xs V j) :: st) h z bc bs Kr Kx) : QW V iL_law 1580 [a0, a1, a2, a3, a4, a5, a6, a7, a8] (.int i :: .ref (e_sb V) :: st) h z bc bs Kr Kx := q_sld dL_law_1580 hi hj hn kk
theorem dL_law_1581 : decode (i_b iL_law) 1581 = .ok (.aload_n 0, 1) := by decide +kernel
theorem wL_law_1581 {x : Nat} (kk : QW V iL_law 1582 [some (.ref x), a1, a2, a3, a4, a5, a6, a7, a8] (.ref x :: st) h z bc bs Kr Kx) : QW V iL_law 1581 [some (.ref x), a1, a2, a3, a4, a5, a6, a7, a8] (st) h z bc bs Kr Kx := q_aload_n dL_law_1581 rfl rfl kk
theorem dL_law_1582 : decode (i_b iL_law) 1582 = .ok (.iload 5, 2) := by decide +kernel
theorem wL_law_1582 {x : Int32} (kk : QW V iL_law 1584 [a0, a1, a2, a3, a4, some (.int x), a6, a7, a8] (.int x :: st) h z bc bs Kr Kx) : QW V iL_law 1582 [a0, a1, a2, a3, a4, some (.int x), a6, a7, a8] (st) h z bc bs Kr Kx := q_iload dL_law_1582 rfl kk
theorem dL_law_1584 : decode (i_b iL_law) 1584 = .ok (.iconst 2, 1) := by decide +kernel
theorem wL_law_1584  (kk : QW V iL_law 1585 [a0, a1, a2, a3, a4, a5, a6, a7, a8] (.int (2) :: st) h z bc bs Kr Kx) : QW V iL_law 1584 [a0, a1, a2, a3, a4, a5, a6, a7, a8] (st) h z bc bs Kr Kx := q_iconst dL_law_1584 (by decide) kk
theorem dL_law_1585 : decode (i_b iL_law) 1585 = .ok (.iadd, 1) := by decide +kernel
theorem wL_law_1585 {x y : Int32} (kk : QW V iL_law 1586 [a0, a1, a2, a3, a4, a5, a6, a7, a8] (.int (x + y) :: st) h z bc bs Kr Kx) : QW V iL_law 1585 [a0, a1, a2, a3, a4, a5, a6, a7, a8] (.int y :: .int x :: st) h z bc bs Kr Kx := q_iadd dL_law_1585 kk
theorem dL_law_1586 : decode (i_b iL_law) 1586 = .ok (.iaload, 1) := by decide +kernel
theorem wL_law_1586 {j : Nat} {i : Int32} (hi : i = nI j) (hj : j < e_sL V) (hn : e_sL V < 2147483648) (kk : QW V iL_law 1587 [a0, a1, a2, a3, a4, a5, a6, a7, a8] (.int (e_xs V j) :: st) h z bc bs Kr Kx) : QW V iL_law 1586 [a0, a1, a2, a3, a4, a5, a6, a7, a8] (.int i :: .ref (e_sb V) :: st) h z bc bs Kr Kx := q_sld dL_law_1586 hi hj hn kk
theorem dL_law_1587 : decode (i_b iL_law) 1587 = .ok (.invokevirtual 226, 3) := by decide +kernel
theorem wL_law_1587 {a : Nat} {fs : List Value} {x0 : Int32} {x1 : Int32} (hb : h a = some (.inr (10, fs))) (hm : QMi V iX9_playerValue [.ref a, .int x0, .int x1] h z (fun r h' z' => QW V iL_law 1590 [a0, a1, a2, a3, a4, a5, a6, a7, a8] (.int r :: st) h' z' bc bs Kr Kx) Kx) (hW : (st.map fun v => v.category).sum ≤ 8 := by exact Nat.le_of_ble_eq_true rfl) : QW V iL_law 1587 [a0, a1, a2, a3, a4, a5, a6, a7, a8] (.int x1 :: .int x0 :: .ref a :: st) h z bc bs Kr Kx := q_callV (y' := iX9_playerValue) (As := [.int x0, .int x1]) (rest := st) dL_law_1587 k7_213 k7_214 k7_215 k1_10 hhX9_playerValue rfl hdX9_playerValue rfl rfl (Nat.le_of_ble_eq_true rfl) (Nat.le_of_ble_eq_true rfl) hW rfl hb (QMi.run hm)
theorem dL_law_1590 : decode (i_b iL_law) 1590 = .ok (.istore 7, 2) := by decide +kernel
theorem wL_law_1590 {x : Int32} (kk : QW V iL_law 1592 [a0, a1, a2, a3, a4, a5, a6, some (.int x), a8] (st) h z bc bs Kr Kx) (hp : q_n2 a6 = true := by rfl) : QW V iL_law 1590 [a0, a1, a2, a3, a4, a5, a6, a7, a8] (.int x :: st) h z bc bs Kr Kx := q_istore dL_law_1590 (Nat.le_of_ble_eq_true rfl) hp kk
theorem dL_law_1592 : decode (i_b iL_law) 1592 = .ok (.aload_n 2, 1) := by decide +kernel
theorem wL_law_1592 {x : Nat} (kk : QW V iL_law 1593 [a0, a1, some (.ref x), a3, a4, a5, a6, a7, a8] (.ref x :: st) h z bc bs Kr Kx) : QW V iL_law 1592 [a0, a1, some (.ref x), a3, a4, a5, a6, a7, a8] (st) h z bc bs Kr Kx := q_aload_n dL_law_1592 rfl rfl kk
theorem dL_law_1593 : decode (i_b iL_law) 1593 = .ok (.invokevirtual 150, 3) := by decide +kernel
theorem wL_law_1593 {a : Nat} {fs : List Value}  (hb : h a = some (.inr (10, fs))) (hm : QMi V iX9_thrown [.ref a] h z (fun r h' z' => QW V iL_law 1596 [a0, a1, a2, a3, a4, a5, a6, a7, a8] (.int r :: st) h' z' bc bs Kr Kx) Kx) (hW : (st.map fun v => v.category).sum ≤ 8 := by exact Nat.le_of_ble_eq_true rfl) : QW V iL_law 1593 [a0, a1, a2, a3, a4, a5, a6, a7, a8] (.ref a :: st) h z bc bs Kr Kx := q_callV (y' := iX9_thrown) (As := []) (rest := st) dL_law_1593 k6_80 k6_81 k6_82 k1_10 hhX9_thrown rfl hdX9_thrown rfl rfl (Nat.le_of_ble_eq_true rfl) (Nat.le_of_ble_eq_true rfl) hW rfl hb (QMi.run hm)
theorem dL_law_1596 : decode (i_b iL_law) 1596 = .ok (.iload 6, 2) := by decide +kernel
theorem wL_law_1596 {x : Int32} (kk : QW V iL_law 1598 [a0, a1, a2, a3, a4, a5, some (.int x), a7, a8] (.int x :: st) h z bc bs Kr Kx) : QW V iL_law 1596 [a0, a1, a2, a3, a4, a5, some (.int x), a7, a8] (st) h z bc bs Kr Kx := q_iload dL_law_1596 rfl kk
theorem dL_law_1598 : decode (i_b iL_law) 1598 = .ok (.if_icmp .eq 5, 3) := by decide +kernel
theorem wL_law_1598 {x y : Int32} (kt : x = y → QW V iL_law 1603 [a0, a1, a2, a3, a4, a5, a6, a7, a8] (st) h z bc bs Kr Kx) (kf : ¬ x = y → QW V iL_law 1601 [a0, a1, a2, a3, a4, a5, a6, a7, a8] (st) h z bc bs Kr Kx) : QW V iL_law 1598 [a0, a1, a2, a3, a4, a5, a6, a7, a8] (.int y :: .int x :: st) h z bc bs Kr Kx := q_icmp_eq dL_law_1598 (by decide) kt kf
theorem dL_law_1601 : decode (i_b iL_law) 1601 = .ok (.iconst 0, 1) := by decide +kernel
theorem wL_law_1601  (kk : QW V iL_law 1602 [a0, a1, a2, a3, a4, a5, a6, a7, a8] (.int (0) :: st) h z bc bs Kr Kx) : QW V iL_law 1601 [a0, a1, a2, a3, a4, a5, a6, a7, a8] (st) h z bc bs Kr Kx := q_iconst dL_law_1601 (by decide) kk
theorem dL_law_1602 : decode (i_b iL_law) 1602 = .ok (.ireturn, 1) := by decide +kernel
theorem wL_law_1602 {x : Int32} {P : Int32 → q_H → Option Nat → Prop} (hk : P x h z) (hn : narrow .boolean (.int x) = .int x := by first | rfl | exact q_b_n _) : QW V iL_law 1602 [a0, a1, a2, a3, a4, a5, a6, a7, a8] [.int x] h z bc bs (q_Ki P) Kx := q_iret dL_law_1602 rfl hn ⟨x, rfl, hk⟩
theorem dL_law_1603 : decode (i_b iL_law) 1603 = .ok (.iload 6, 2) := by decide +kernel
theorem wL_law_1603 {x : Int32} (kk : QW V iL_law 1605 [a0, a1, a2, a3, a4, a5, some (.int x), a7, a8] (.int x :: st) h z bc bs Kr Kx) : QW V iL_law 1603 [a0, a1, a2, a3, a4, a5, some (.int x), a7, a8] (st) h z bc bs Kr Kx := q_iload dL_law_1603 rfl kk
theorem dL_law_1605 : decode (i_b iL_law) 1605 = .ok (.ifCond .ne 15, 3) := by decide +kernel
theorem wL_law_1605 {x : Int32} (kt : ¬ x = 0 → QW V iL_law 1620 [a0, a1, a2, a3, a4, a5, a6, a7, a8] (st) h z bc bs Kr Kx) (kf : x = 0 → QW V iL_law 1608 [a0, a1, a2, a3, a4, a5, a6, a7, a8] (st) h z bc bs Kr Kx) : QW V iL_law 1605 [a0, a1, a2, a3, a4, a5, a6, a7, a8] (.int x :: st) h z bc bs Kr Kx := q_if_ne dL_law_1605 (by decide) kt kf
theorem dL_law_1608 : decode (i_b iL_law) 1608 = .ok (.aload_n 3, 1) := by decide +kernel
theorem wL_law_1608 {x : Nat} (kk : QW V iL_law 1609 [a0, a1, a2, some (.ref x), a4, a5, a6, a7, a8] (.ref x :: st) h z bc bs Kr Kx) : QW V iL_law 1608 [a0, a1, a2, some (.ref x), a4, a5, a6, a7, a8] (st) h z bc bs Kr Kx := q_aload_n dL_law_1608 rfl rfl kk
theorem dL_law_1609 : decode (i_b iL_law) 1609 = .ok (.iconst 0, 1) := by decide +kernel
theorem wL_law_1609  (kk : QW V iL_law 1610 [a0, a1, a2, a3, a4, a5, a6, a7, a8] (.int (0) :: st) h z bc bs Kr Kx) : QW V iL_law 1609 [a0, a1, a2, a3, a4, a5, a6, a7, a8] (st) h z bc bs Kr Kx := q_iconst dL_law_1609 (by decide) kk
theorem dL_law_1610 : decode (i_b iL_law) 1610 = .ok (.laload, 1) := by decide +kernel
theorem wL_law_1610 {a n j : Nat} {f : Nat → Int64} {i : Int32} (ha : h a = some (.inl (2, n, .inr (.inl f)))) (hi : i = nI j) (hj : j < n) (hn : n < 2147483648) (kk : QW V iL_law 1611 [a0, a1, a2, a3, a4, a5, a6, a7, a8] (.long (f j) :: st) h z bc bs Kr Kx) : QW V iL_law 1610 [a0, a1, a2, a3, a4, a5, a6, a7, a8] (.int i :: .ref a :: st) h z bc bs Kr Kx := q_lald dL_law_1610 ha hi hj hn kk
theorem dL_law_1611 : decode (i_b iL_law) 1611 = .ok (.iload 7, 2) := by decide +kernel
theorem wL_law_1611 {x : Int32} (kk : QW V iL_law 1613 [a0, a1, a2, a3, a4, a5, a6, some (.int x), a8] (.int x :: st) h z bc bs Kr Kx) : QW V iL_law 1611 [a0, a1, a2, a3, a4, a5, a6, some (.int x), a8] (st) h z bc bs Kr Kx := q_iload dL_law_1611 rfl kk
theorem dL_law_1613 : decode (i_b iL_law) 1613 = .ok (.i2l, 1) := by decide +kernel
theorem wL_law_1613 {x : Int32} (kk : QW V iL_law 1614 [a0, a1, a2, a3, a4, a5, a6, a7, a8] (.long (x.toInt64) :: st) h z bc bs Kr Kx) : QW V iL_law 1613 [a0, a1, a2, a3, a4, a5, a6, a7, a8] (.int x :: st) h z bc bs Kr Kx := q_i2l dL_law_1613 kk
theorem dL_law_1614 : decode (i_b iL_law) 1614 = .ok (.lcmp, 1) := by decide +kernel
theorem dL_law_1615 : decode (i_b iL_law) 1615 = .ok (.ifCond .eq 5, 3) := by decide +kernel
theorem wL_law_1614 {x y : Int64} (kt : x = y → QW V iL_law 1620 [a0, a1, a2, a3, a4, a5, a6, a7, a8] (st) h z bc bs Kr Kx) (kf : ¬ x = y → QW V iL_law 1618 [a0, a1, a2, a3, a4, a5, a6, a7, a8] (st) h z bc bs Kr Kx) : QW V iL_law 1614 [a0, a1, a2, a3, a4, a5, a6, a7, a8] (.long y :: .long x :: st) h z bc bs Kr Kx := q_lcmp dL_law_1614 (q_if_eq dL_law_1615 (by decide) (fun q => kt ((q_lc_eq x y).mp q)) (fun q => kf (q_lcn_eq q)))
theorem dL_law_1618 : decode (i_b iL_law) 1618 = .ok (.iconst 0, 1) := by decide +kernel
theorem wL_law_1618  (kk : QW V iL_law 1619 [a0, a1, a2, a3, a4, a5, a6, a7, a8] (.int (0) :: st) h z bc bs Kr Kx) : QW V iL_law 1618 [a0, a1, a2, a3, a4, a5, a6, a7, a8] (st) h z bc bs Kr Kx := q_iconst dL_law_1618 (by decide) kk
theorem dL_law_1619 : decode (i_b iL_law) 1619 = .ok (.ireturn, 1) := by decide +kernel
theorem wL_law_1619 {x : Int32} {P : Int32 → q_H → Option Nat → Prop} (hk : P x h z) (hn : narrow .boolean (.int x) = .int x := by first | rfl | exact q_b_n _) : QW V iL_law 1619 [a0, a1, a2, a3, a4, a5, a6, a7, a8] [.int x] h z bc bs (q_Ki P) Kx := q_iret dL_law_1619 rfl hn ⟨x, rfl, hk⟩
theorem dL_law_1620 : decode (i_b iL_law) 1620 = .ok (.goto 1131, 3) := by decide +kernel
theorem wL_law_1620  (kk : QW V iL_law 2751 [a0, a1, a2, a3, a4, a5, a6, a7, a8] (st) h z bc bs Kr Kx) : QW V iL_law 1620 [a0, a1, a2, a3, a4, a5, a6, a7, a8] (st) h z bc bs Kr Kx := q_goto dL_law_1620 (by decide) kk
theorem dL_law_1623 : decode (i_b iL_law) 1623 = .ok (.aload_n 1, 1) := by decide +kernel
theorem wL_law_1623 {x : Nat} (kk : QW V iL_law 1624 [a0, some (.ref x), a2, a3, a4, a5, a6, a7, a8] (.ref x :: st) h z bc bs Kr Kx) : QW V iL_law 1623 [a0, some (.ref x), a2, a3, a4, a5, a6, a7, a8] (st) h z bc bs Kr Kx := q_aload_n dL_law_1623 rfl rfl kk
theorem dL_law_1624 : decode (i_b iL_law) 1624 = .ok (.aload_n 0, 1) := by decide +kernel
theorem wL_law_1624 {x : Nat} (kk : QW V iL_law 1625 [some (.ref x), a1, a2, a3, a4, a5, a6, a7, a8] (.ref x :: st) h z bc bs Kr Kx) : QW V iL_law 1624 [some (.ref x), a1, a2, a3, a4, a5, a6, a7, a8] (st) h z bc bs Kr Kx := q_aload_n dL_law_1624 rfl rfl kk
theorem dL_law_1625 : decode (i_b iL_law) 1625 = .ok (.iload 5, 2) := by decide +kernel
theorem wL_law_1625 {x : Int32} (kk : QW V iL_law 1627 [a0, a1, a2, a3, a4, some (.int x), a6, a7, a8] (.int x :: st) h z bc bs Kr Kx) : QW V iL_law 1625 [a0, a1, a2, a3, a4, some (.int x), a6, a7, a8] (st) h z bc bs Kr Kx := q_iload dL_law_1625 rfl kk
theorem dL_law_1627 : decode (i_b iL_law) 1627 = .ok (.iconst 1, 1) := by decide +kernel
theorem wL_law_1627  (kk : QW V iL_law 1628 [a0, a1, a2, a3, a4, a5, a6, a7, a8] (.int (1) :: st) h z bc bs Kr Kx) : QW V iL_law 1627 [a0, a1, a2, a3, a4, a5, a6, a7, a8] (st) h z bc bs Kr Kx := q_iconst dL_law_1627 (by decide) kk
theorem dL_law_1628 : decode (i_b iL_law) 1628 = .ok (.iadd, 1) := by decide +kernel
theorem wL_law_1628 {x y : Int32} (kk : QW V iL_law 1629 [a0, a1, a2, a3, a4, a5, a6, a7, a8] (.int (x + y) :: st) h z bc bs Kr Kx) : QW V iL_law 1628 [a0, a1, a2, a3, a4, a5, a6, a7, a8] (.int y :: .int x :: st) h z bc bs Kr Kx := q_iadd dL_law_1628 kk
theorem dL_law_1629 : decode (i_b iL_law) 1629 = .ok (.iaload, 1) := by decide +kernel
theorem wL_law_1629 {j : Nat} {i : Int32} (hi : i = nI j) (hj : j < e_sL V) (hn : e_sL V < 2147483648) (kk : QW V iL_law 1630 [a0, a1, a2, a3, a4, a5, a6, a7, a8] (.int (e_xs V j) :: st) h z bc bs Kr Kx) : QW V iL_law 1629 [a0, a1, a2, a3, a4, a5, a6, a7, a8] (.int i :: .ref (e_sb V) :: st) h z bc bs Kr Kx := q_sld dL_law_1629 hi hj hn kk
theorem dL_law_1630 : decode (i_b iL_law) 1630 = .ok (.aload_n 0, 1) := by decide +kernel
theorem wL_law_1630 {x : Nat} (kk : QW V iL_law 1631 [some (.ref x), a1, a2, a3, a4, a5, a6, a7, a8] (.ref x :: st) h z bc bs Kr Kx) : QW V iL_law 1630 [some (.ref x), a1, a2, a3, a4, a5, a6, a7, a8] (st) h z bc bs Kr Kx := q_aload_n dL_law_1630 rfl rfl kk
theorem dL_law_1631 : decode (i_b iL_law) 1631 = .ok (.iload 5, 2) := by decide +kernel
theorem wL_law_1631 {x : Int32} (kk : QW V iL_law 1633 [a0, a1, a2, a3, a4, some (.int x), a6, a7, a8] (.int x :: st) h z bc bs Kr Kx) : QW V iL_law 1631 [a0, a1, a2, a3, a4, some (.int x), a6, a7, a8] (st) h z bc bs Kr Kx := q_iload dL_law_1631 rfl kk
theorem dL_law_1633 : decode (i_b iL_law) 1633 = .ok (.iconst 2, 1) := by decide +kernel
theorem wL_law_1633  (kk : QW V iL_law 1634 [a0, a1, a2, a3, a4, a5, a6, a7, a8] (.int (2) :: st) h z bc bs Kr Kx) : QW V iL_law 1633 [a0, a1, a2, a3, a4, a5, a6, a7, a8] (st) h z bc bs Kr Kx := q_iconst dL_law_1633 (by decide) kk
theorem dL_law_1634 : decode (i_b iL_law) 1634 = .ok (.iadd, 1) := by decide +kernel
theorem wL_law_1634 {x y : Int32} (kk : QW V iL_law 1635 [a0, a1, a2, a3, a4, a5, a6, a7, a8] (.int (x + y) :: st) h z bc bs Kr Kx) : QW V iL_law 1634 [a0, a1, a2, a3, a4, a5, a6, a7, a8] (.int y :: .int x :: st) h z bc bs Kr Kx := q_iadd dL_law_1634 kk
theorem dL_law_1635 : decode (i_b iL_law) 1635 = .ok (.iaload, 1) := by decide +kernel
theorem wL_law_1635 {j : Nat} {i : Int32} (hi : i = nI j) (hj : j < e_sL V) (hn : e_sL V < 2147483648) (kk : QW V iL_law 1636 [a0, a1, a2, a3, a4, a5, a6, a7, a8] (.int (e_xs V j) :: st) h z bc bs Kr Kx) : QW V iL_law 1635 [a0, a1, a2, a3, a4, a5, a6, a7, a8] (.int i :: .ref (e_sb V) :: st) h z bc bs Kr Kx := q_sld dL_law_1635 hi hj hn kk
theorem dL_law_1636 : decode (i_b iL_law) 1636 = .ok (.aload_n 3, 1) := by decide +kernel
theorem wL_law_1636 {x : Nat} (kk : QW V iL_law 1637 [a0, a1, a2, some (.ref x), a4, a5, a6, a7, a8] (.ref x :: st) h z bc bs Kr Kx) : QW V iL_law 1636 [a0, a1, a2, some (.ref x), a4, a5, a6, a7, a8] (st) h z bc bs Kr Kx := q_aload_n dL_law_1636 rfl rfl kk
theorem dL_law_1637 : decode (i_b iL_law) 1637 = .ok (.invokestatic 227, 3) := by decide +kernel
theorem wL_law_1637 {x0 : Nat} {x1 : Int32} {x2 : Int32} {x3 : Nat} (hm : QMi V iL_salary [.ref x0, .int x1, .int x2, .ref x3] h z (fun r h' z' => QW V iL_law 1640 [a0, a1, a2, a3, a4, a5, a6, a7, a8] (.int r :: st) h' z' bc bs Kr Kx) Kx) (hW : (st.map fun v => v.category).sum ≤ 8 := by exact Nat.le_of_ble_eq_true rfl) : QW V iL_law 1637 [a0, a1, a2, a3, a4, a5, a6, a7, a8] (.ref x3 :: .int x2 :: .int x1 :: .ref x0 :: st) h z (bc + 3) (bs + 18) Kr Kx := q_callSX (y' := iL_salary) (As := [.ref x0, .int x1, .int x2, .ref x3]) (rest := st) dL_law_1637 k5_12 k5_13 k1_0 hhL_salary (by decide) hdL_salary rfl (Nat.le_of_ble_eq_true rfl) (Nat.le_of_ble_eq_true rfl) hW rfl (QMi.run hm)
theorem dL_law_1640 : decode (i_b iL_law) 1640 = .ok (.istore 6, 2) := by decide +kernel
theorem wL_law_1640 {x : Int32} (kk : QW V iL_law 1642 [a0, a1, a2, a3, a4, a5, some (.int x), a7, a8] (st) h z bc bs Kr Kx) (hp : q_n2 a5 = true := by rfl) : QW V iL_law 1640 [a0, a1, a2, a3, a4, a5, a6, a7, a8] (.int x :: st) h z bc bs Kr Kx := q_istore dL_law_1640 (Nat.le_of_ble_eq_true rfl) hp kk
theorem dL_law_1642 : decode (i_b iL_law) 1642 = .ok (.aload_n 2, 1) := by decide +kernel
theorem wL_law_1642 {x : Nat} (kk : QW V iL_law 1643 [a0, a1, some (.ref x), a3, a4, a5, a6, a7, a8] (.ref x :: st) h z bc bs Kr Kx) : QW V iL_law 1642 [a0, a1, some (.ref x), a3, a4, a5, a6, a7, a8] (st) h z bc bs Kr Kx := q_aload_n dL_law_1642 rfl rfl kk
theorem dL_law_1643 : decode (i_b iL_law) 1643 = .ok (.aload_n 0, 1) := by decide +kernel
theorem wL_law_1643 {x : Nat} (kk : QW V iL_law 1644 [some (.ref x), a1, a2, a3, a4, a5, a6, a7, a8] (.ref x :: st) h z bc bs Kr Kx) : QW V iL_law 1643 [some (.ref x), a1, a2, a3, a4, a5, a6, a7, a8] (st) h z bc bs Kr Kx := q_aload_n dL_law_1643 rfl rfl kk
theorem dL_law_1644 : decode (i_b iL_law) 1644 = .ok (.iload 5, 2) := by decide +kernel
theorem wL_law_1644 {x : Int32} (kk : QW V iL_law 1646 [a0, a1, a2, a3, a4, some (.int x), a6, a7, a8] (.int x :: st) h z bc bs Kr Kx) : QW V iL_law 1644 [a0, a1, a2, a3, a4, some (.int x), a6, a7, a8] (st) h z bc bs Kr Kx := q_iload dL_law_1644 rfl kk
theorem dL_law_1646 : decode (i_b iL_law) 1646 = .ok (.iconst 1, 1) := by decide +kernel
theorem wL_law_1646  (kk : QW V iL_law 1647 [a0, a1, a2, a3, a4, a5, a6, a7, a8] (.int (1) :: st) h z bc bs Kr Kx) : QW V iL_law 1646 [a0, a1, a2, a3, a4, a5, a6, a7, a8] (st) h z bc bs Kr Kx := q_iconst dL_law_1646 (by decide) kk
theorem dL_law_1647 : decode (i_b iL_law) 1647 = .ok (.iadd, 1) := by decide +kernel
theorem wL_law_1647 {x y : Int32} (kk : QW V iL_law 1648 [a0, a1, a2, a3, a4, a5, a6, a7, a8] (.int (x + y) :: st) h z bc bs Kr Kx) : QW V iL_law 1647 [a0, a1, a2, a3, a4, a5, a6, a7, a8] (.int y :: .int x :: st) h z bc bs Kr Kx := q_iadd dL_law_1647 kk
theorem dL_law_1648 : decode (i_b iL_law) 1648 = .ok (.iaload, 1) := by decide +kernel
theorem wL_law_1648 {j : Nat} {i : Int32} (hi : i = nI j) (hj : j < e_sL V) (hn : e_sL V < 2147483648) (kk : QW V iL_law 1649 [a0, a1, a2, a3, a4, a5, a6, a7, a8] (.int (e_xs V j) :: st) h z bc bs Kr Kx) : QW V iL_law 1648 [a0, a1, a2, a3, a4, a5, a6, a7, a8] (.int i :: .ref (e_sb V) :: st) h z bc bs Kr Kx := q_sld dL_law_1648 hi hj hn kk
theorem dL_law_1649 : decode (i_b iL_law) 1649 = .ok (.aload_n 0, 1) := by decide +kernel
theorem wL_law_1649 {x : Nat} (kk : QW V iL_law 1650 [some (.ref x), a1, a2, a3, a4, a5, a6, a7, a8] (.ref x :: st) h z bc bs Kr Kx) : QW V iL_law 1649 [some (.ref x), a1, a2, a3, a4, a5, a6, a7, a8] (st) h z bc bs Kr Kx := q_aload_n dL_law_1649 rfl rfl kk
theorem dL_law_1650 : decode (i_b iL_law) 1650 = .ok (.iload 5, 2) := by decide +kernel
theorem wL_law_1650 {x : Int32} (kk : QW V iL_law 1652 [a0, a1, a2, a3, a4, some (.int x), a6, a7, a8] (.int x :: st) h z bc bs Kr Kx) : QW V iL_law 1650 [a0, a1, a2, a3, a4, some (.int x), a6, a7, a8] (st) h z bc bs Kr Kx := q_iload dL_law_1650 rfl kk
theorem dL_law_1652 : decode (i_b iL_law) 1652 = .ok (.iconst 2, 1) := by decide +kernel
theorem wL_law_1652  (kk : QW V iL_law 1653 [a0, a1, a2, a3, a4, a5, a6, a7, a8] (.int (2) :: st) h z bc bs Kr Kx) : QW V iL_law 1652 [a0, a1, a2, a3, a4, a5, a6, a7, a8] (st) h z bc bs Kr Kx := q_iconst dL_law_1652 (by decide) kk
theorem dL_law_1653 : decode (i_b iL_law) 1653 = .ok (.iadd, 1) := by decide +kernel
theorem wL_law_1653 {x y : Int32} (kk : QW V iL_law 1654 [a0, a1, a2, a3, a4, a5, a6, a7, a8] (.int (x + y) :: st) h z bc bs Kr Kx) : QW V iL_law 1653 [a0, a1, a2, a3, a4, a5, a6, a7, a8] (.int y :: .int x :: st) h z bc bs Kr Kx := q_iadd dL_law_1653 kk
theorem dL_law_1654 : decode (i_b iL_law) 1654 = .ok (.iaload, 1) := by decide +kernel
theorem wL_law_1654 {j : Nat} {i : Int32} (hi : i = nI j) (hj : j < e_sL V) (hn : e_sL V < 2147483648) (kk : QW V iL_law 1655 [a0, a1, a2, a3, a4, a5, a6, a7, a8] (.int (e_xs V j) :: st) h z bc bs Kr Kx) : QW V iL_law 1654 [a0, a1, a2, a3, a4, a5, a6, a7, a8] (.int i :: .ref (e_sb V) :: st) h z bc bs Kr Kx := q_sld dL_law_1654 hi hj hn kk
theorem dL_law_1655 : decode (i_b iL_law) 1655 = .ok (.invokevirtual 229, 3) := by decide +kernel
theorem wL_law_1655 {a : Nat} {fs : List Value} {x0 : Int32} {x1 : Int32} (hb : h a = some (.inr (10, fs))) (hm : QMi V iX9_salary [.ref a, .int x0, .int x1] h z (fun r h' z' => QW V iL_law 1658 [a0, a1, a2, a3, a4, a5, a6, a7, a8] (.int r :: st) h' z' bc bs Kr Kx) Kx) (hW : (st.map fun v => v.category).sum ≤ 8 := by exact Nat.le_of_ble_eq_true rfl) : QW V iL_law 1655 [a0, a1, a2, a3, a4, a5, a6, a7, a8] (.int x1 :: .int x0 :: .ref a :: st) h z bc bs Kr Kx := q_callV (y' := iX9_salary) (As := [.int x0, .int x1]) (rest := st) dL_law_1655 k7_218 k7_219 k7_220 k1_10 hhX9_salary rfl hdX9_salary rfl rfl (Nat.le_of_ble_eq_true rfl) (Nat.le_of_ble_eq_true rfl) hW rfl hb (QMi.run hm)
theorem dL_law_1658 : decode (i_b iL_law) 1658 = .ok (.istore 7, 2) := by decide +kernel
theorem wL_law_1658 {x : Int32} (kk : QW V iL_law 1660 [a0, a1, a2, a3, a4, a5, a6, some (.int x), a8] (st) h z bc bs Kr Kx) (hp : q_n2 a6 = true := by rfl) : QW V iL_law 1658 [a0, a1, a2, a3, a4, a5, a6, a7, a8] (.int x :: st) h z bc bs Kr Kx := q_istore dL_law_1658 (Nat.le_of_ble_eq_true rfl) hp kk
theorem dL_law_1660 : decode (i_b iL_law) 1660 = .ok (.aload_n 2, 1) := by decide +kernel
theorem wL_law_1660 {x : Nat} (kk : QW V iL_law 1661 [a0, a1, some (.ref x), a3, a4, a5, a6, a7, a8] (.ref x :: st) h z bc bs Kr Kx) : QW V iL_law 1660 [a0, a1, some (.ref x), a3, a4, a5, a6, a7, a8] (st) h z bc bs Kr Kx := q_aload_n dL_law_1660 rfl rfl kk
theorem dL_law_1661 : decode (i_b iL_law) 1661 = .ok (.invokevirtual 150, 3) := by decide +kernel
theorem wL_law_1661 {a : Nat} {fs : List Value}  (hb : h a = some (.inr (10, fs))) (hm : QMi V iX9_thrown [.ref a] h z (fun r h' z' => QW V iL_law 1664 [a0, a1, a2, a3, a4, a5, a6, a7, a8] (.int r :: st) h' z' bc bs Kr Kx) Kx) (hW : (st.map fun v => v.category).sum ≤ 8 := by exact Nat.le_of_ble_eq_true rfl) : QW V iL_law 1661 [a0, a1, a2, a3, a4, a5, a6, a7, a8] (.ref a :: st) h z bc bs Kr Kx := q_callV (y' := iX9_thrown) (As := []) (rest := st) dL_law_1661 k6_80 k6_81 k6_82 k1_10 hhX9_thrown rfl hdX9_thrown rfl rfl (Nat.le_of_ble_eq_true rfl) (Nat.le_of_ble_eq_true rfl) hW rfl hb (QMi.run hm)
theorem dL_law_1664 : decode (i_b iL_law) 1664 = .ok (.iload 6, 2) := by decide +kernel
theorem wL_law_1664 {x : Int32} (kk : QW V iL_law 1666 [a0, a1, a2, a3, a4, a5, some (.int x), a7, a8] (.int x :: st) h z bc bs Kr Kx) : QW V iL_law 1664 [a0, a1, a2, a3, a4, a5, some (.int x), a7, a8] (st) h z bc bs Kr Kx := q_iload dL_law_1664 rfl kk
theorem dL_law_1666 : decode (i_b iL_law) 1666 = .ok (.if_icmp .eq 5, 3) := by decide +kernel
theorem wL_law_1666 {x y : Int32} (kt : x = y → QW V iL_law 1671 [a0, a1, a2, a3, a4, a5, a6, a7, a8] (st) h z bc bs Kr Kx) (kf : ¬ x = y → QW V iL_law 1669 [a0, a1, a2, a3, a4, a5, a6, a7, a8] (st) h z bc bs Kr Kx) : QW V iL_law 1666 [a0, a1, a2, a3, a4, a5, a6, a7, a8] (.int y :: .int x :: st) h z bc bs Kr Kx := q_icmp_eq dL_law_1666 (by decide) kt kf
theorem dL_law_1669 : decode (i_b iL_law) 1669 = .ok (.iconst 0, 1) := by decide +kernel
theorem wL_law_1669  (kk : QW V iL_law 1670 [a0, a1, a2, a3, a4, a5, a6, a7, a8] (.int (0) :: st) h z bc bs Kr Kx) : QW V iL_law 1669 [a0, a1, a2, a3, a4, a5, a6, a7, a8] (st) h z bc bs Kr Kx := q_iconst dL_law_1669 (by decide) kk
theorem dL_law_1670 : decode (i_b iL_law) 1670 = .ok (.ireturn, 1) := by decide +kernel
theorem wL_law_1670 {x : Int32} {P : Int32 → q_H → Option Nat → Prop} (hk : P x h z) (hn : narrow .boolean (.int x) = .int x := by first | rfl | exact q_b_n _) : QW V iL_law 1670 [a0, a1, a2, a3, a4, a5, a6, a7, a8] [.int x] h z bc bs (q_Ki P) Kx := q_iret dL_law_1670 rfl hn ⟨x, rfl, hk⟩
theorem dL_law_1671 : decode (i_b iL_law) 1671 = .ok (.iload 6, 2) := by decide +kernel
theorem wL_law_1671 {x : Int32} (kk : QW V iL_law 1673 [a0, a1, a2, a3, a4, a5, some (.int x), a7, a8] (.int x :: st) h z bc bs Kr Kx) : QW V iL_law 1671 [a0, a1, a2, a3, a4, a5, some (.int x), a7, a8] (st) h z bc bs Kr Kx := q_iload dL_law_1671 rfl kk
theorem dL_law_1673 : decode (i_b iL_law) 1673 = .ok (.ifCond .ne 15, 3) := by decide +kernel
theorem wL_law_1673 {x : Int32} (kt : ¬ x = 0 → QW V iL_law 1688 [a0, a1, a2, a3, a4, a5, a6, a7, a8] (st) h z bc bs Kr Kx) (kf : x = 0 → QW V iL_law 1676 [a0, a1, a2, a3, a4, a5, a6, a7, a8] (st) h z bc bs Kr Kx) : QW V iL_law 1673 [a0, a1, a2, a3, a4, a5, a6, a7, a8] (.int x :: st) h z bc bs Kr Kx := q_if_ne dL_law_1673 (by decide) kt kf
theorem dL_law_1676 : decode (i_b iL_law) 1676 = .ok (.aload_n 3, 1) := by decide +kernel
theorem wL_law_1676 {x : Nat} (kk : QW V iL_law 1677 [a0, a1, a2, some (.ref x), a4, a5, a6, a7, a8] (.ref x :: st) h z bc bs Kr Kx) : QW V iL_law 1676 [a0, a1, a2, some (.ref x), a4, a5, a6, a7, a8] (st) h z bc bs Kr Kx := q_aload_n dL_law_1676 rfl rfl kk
theorem dL_law_1677 : decode (i_b iL_law) 1677 = .ok (.iconst 0, 1) := by decide +kernel
theorem wL_law_1677  (kk : QW V iL_law 1678 [a0, a1, a2, a3, a4, a5, a6, a7, a8] (.int (0) :: st) h z bc bs Kr Kx) : QW V iL_law 1677 [a0, a1, a2, a3, a4, a5, a6, a7, a8] (st) h z bc bs Kr Kx := q_iconst dL_law_1677 (by decide) kk
theorem dL_law_1678 : decode (i_b iL_law) 1678 = .ok (.laload, 1) := by decide +kernel
theorem wL_law_1678 {a n j : Nat} {f : Nat → Int64} {i : Int32} (ha : h a = some (.inl (2, n, .inr (.inl f)))) (hi : i = nI j) (hj : j < n) (hn : n < 2147483648) (kk : QW V iL_law 1679 [a0, a1, a2, a3, a4, a5, a6, a7, a8] (.long (f j) :: st) h z bc bs Kr Kx) : QW V iL_law 1678 [a0, a1, a2, a3, a4, a5, a6, a7, a8] (.int i :: .ref a :: st) h z bc bs Kr Kx := q_lald dL_law_1678 ha hi hj hn kk
theorem dL_law_1679 : decode (i_b iL_law) 1679 = .ok (.iload 7, 2) := by decide +kernel
theorem wL_law_1679 {x : Int32} (kk : QW V iL_law 1681 [a0, a1, a2, a3, a4, a5, a6, some (.int x), a8] (.int x :: st) h z bc bs Kr Kx) : QW V iL_law 1679 [a0, a1, a2, a3, a4, a5, a6, some (.int x), a8] (st) h z bc bs Kr Kx := q_iload dL_law_1679 rfl kk
theorem dL_law_1681 : decode (i_b iL_law) 1681 = .ok (.i2l, 1) := by decide +kernel
theorem wL_law_1681 {x : Int32} (kk : QW V iL_law 1682 [a0, a1, a2, a3, a4, a5, a6, a7, a8] (.long (x.toInt64) :: st) h z bc bs Kr Kx) : QW V iL_law 1681 [a0, a1, a2, a3, a4, a5, a6, a7, a8] (.int x :: st) h z bc bs Kr Kx := q_i2l dL_law_1681 kk
theorem dL_law_1682 : decode (i_b iL_law) 1682 = .ok (.lcmp, 1) := by decide +kernel
theorem dL_law_1683 : decode (i_b iL_law) 1683 = .ok (.ifCond .eq 5, 3) := by decide +kernel
theorem wL_law_1682 {x y : Int64} (kt : x = y → QW V iL_law 1688 [a0, a1, a2, a3, a4, a5, a6, a7, a8] (st) h z bc bs Kr Kx) (kf : ¬ x = y → QW V iL_law 1686 [a0, a1, a2, a3, a4, a5, a6, a7, a8] (st) h z bc bs Kr Kx) : QW V iL_law 1682 [a0, a1, a2, a3, a4, a5, a6, a7, a8] (.long y :: .long x :: st) h z bc bs Kr Kx := q_lcmp dL_law_1682 (q_if_eq dL_law_1683 (by decide) (fun q => kt ((q_lc_eq x y).mp q)) (fun q => kf (q_lcn_eq q)))
theorem dL_law_1686 : decode (i_b iL_law) 1686 = .ok (.iconst 0, 1) := by decide +kernel
theorem wL_law_1686  (kk : QW V iL_law 1687 [a0, a1, a2, a3, a4, a5, a6, a7, a8] (.int (0) :: st) h z bc bs Kr Kx) : QW V iL_law 1686 [a0, a1, a2, a3, a4, a5, a6, a7, a8] (st) h z bc bs Kr Kx := q_iconst dL_law_1686 (by decide) kk
theorem dL_law_1687 : decode (i_b iL_law) 1687 = .ok (.ireturn, 1) := by decide +kernel
theorem wL_law_1687 {x : Int32} {P : Int32 → q_H → Option Nat → Prop} (hk : P x h z) (hn : narrow .boolean (.int x) = .int x := by first | rfl | exact q_b_n _) : QW V iL_law 1687 [a0, a1, a2, a3, a4, a5, a6, a7, a8] [.int x] h z bc bs (q_Ki P) Kx := q_iret dL_law_1687 rfl hn ⟨x, rfl, hk⟩
theorem dL_law_1688 : decode (i_b iL_law) 1688 = .ok (.goto 1063, 3) := by decide +kernel
theorem wL_law_1688  (kk : QW V iL_law 2751 [a0, a1, a2, a3, a4, a5, a6, a7, a8] (st) h z bc bs Kr Kx) : QW V iL_law 1688 [a0, a1, a2, a3, a4, a5, a6, a7, a8] (st) h z bc bs Kr Kx := q_goto dL_law_1688 (by decide) kk
theorem dL_law_1691 : decode (i_b iL_law) 1691 = .ok (.aload_n 1, 1) := by decide +kernel
theorem wL_law_1691 {x : Nat} (kk : QW V iL_law 1692 [a0, some (.ref x), a2, a3, a4, a5, a6, a7, a8] (.ref x :: st) h z bc bs Kr Kx) : QW V iL_law 1691 [a0, some (.ref x), a2, a3, a4, a5, a6, a7, a8] (st) h z bc bs Kr Kx := q_aload_n dL_law_1691 rfl rfl kk
theorem dL_law_1692 : decode (i_b iL_law) 1692 = .ok (.aload_n 0, 1) := by decide +kernel
theorem wL_law_1692 {x : Nat} (kk : QW V iL_law 1693 [some (.ref x), a1, a2, a3, a4, a5, a6, a7, a8] (.ref x :: st) h z bc bs Kr Kx) : QW V iL_law 1692 [some (.ref x), a1, a2, a3, a4, a5, a6, a7, a8] (st) h z bc bs Kr Kx := q_aload_n dL_law_1692 rfl rfl kk
theorem dL_law_1693 : decode (i_b iL_law) 1693 = .ok (.iload 5, 2) := by decide +kernel
theorem wL_law_1693 {x : Int32} (kk : QW V iL_law 1695 [a0, a1, a2, a3, a4, some (.int x), a6, a7, a8] (.int x :: st) h z bc bs Kr Kx) : QW V iL_law 1693 [a0, a1, a2, a3, a4, some (.int x), a6, a7, a8] (st) h z bc bs Kr Kx := q_iload dL_law_1693 rfl kk
theorem dL_law_1695 : decode (i_b iL_law) 1695 = .ok (.iconst 1, 1) := by decide +kernel
theorem wL_law_1695  (kk : QW V iL_law 1696 [a0, a1, a2, a3, a4, a5, a6, a7, a8] (.int (1) :: st) h z bc bs Kr Kx) : QW V iL_law 1695 [a0, a1, a2, a3, a4, a5, a6, a7, a8] (st) h z bc bs Kr Kx := q_iconst dL_law_1695 (by decide) kk
theorem dL_law_1696 : decode (i_b iL_law) 1696 = .ok (.iadd, 1) := by decide +kernel
theorem wL_law_1696 {x y : Int32} (kk : QW V iL_law 1697 [a0, a1, a2, a3, a4, a5, a6, a7, a8] (.int (x + y) :: st) h z bc bs Kr Kx) : QW V iL_law 1696 [a0, a1, a2, a3, a4, a5, a6, a7, a8] (.int y :: .int x :: st) h z bc bs Kr Kx := q_iadd dL_law_1696 kk
theorem dL_law_1697 : decode (i_b iL_law) 1697 = .ok (.iaload, 1) := by decide +kernel
theorem wL_law_1697 {j : Nat} {i : Int32} (hi : i = nI j) (hj : j < e_sL V) (hn : e_sL V < 2147483648) (kk : QW V iL_law 1698 [a0, a1, a2, a3, a4, a5, a6, a7, a8] (.int (e_xs V j) :: st) h z bc bs Kr Kx) : QW V iL_law 1697 [a0, a1, a2, a3, a4, a5, a6, a7, a8] (.int i :: .ref (e_sb V) :: st) h z bc bs Kr Kx := q_sld dL_law_1697 hi hj hn kk
theorem dL_law_1698 : decode (i_b iL_law) 1698 = .ok (.aload_n 0, 1) := by decide +kernel
theorem wL_law_1698 {x : Nat} (kk : QW V iL_law 1699 [some (.ref x), a1, a2, a3, a4, a5, a6, a7, a8] (.ref x :: st) h z bc bs Kr Kx) : QW V iL_law 1698 [some (.ref x), a1, a2, a3, a4, a5, a6, a7, a8] (st) h z bc bs Kr Kx := q_aload_n dL_law_1698 rfl rfl kk
theorem dL_law_1699 : decode (i_b iL_law) 1699 = .ok (.iload 5, 2) := by decide +kernel
theorem wL_law_1699 {x : Int32} (kk : QW V iL_law 1701 [a0, a1, a2, a3, a4, some (.int x), a6, a7, a8] (.int x :: st) h z bc bs Kr Kx) : QW V iL_law 1699 [a0, a1, a2, a3, a4, some (.int x), a6, a7, a8] (st) h z bc bs Kr Kx := q_iload dL_law_1699 rfl kk
theorem dL_law_1701 : decode (i_b iL_law) 1701 = .ok (.iconst 2, 1) := by decide +kernel
theorem wL_law_1701  (kk : QW V iL_law 1702 [a0, a1, a2, a3, a4, a5, a6, a7, a8] (.int (2) :: st) h z bc bs Kr Kx) : QW V iL_law 1701 [a0, a1, a2, a3, a4, a5, a6, a7, a8] (st) h z bc bs Kr Kx := q_iconst dL_law_1701 (by decide) kk
theorem dL_law_1702 : decode (i_b iL_law) 1702 = .ok (.iadd, 1) := by decide +kernel
theorem wL_law_1702 {x y : Int32} (kk : QW V iL_law 1703 [a0, a1, a2, a3, a4, a5, a6, a7, a8] (.int (x + y) :: st) h z bc bs Kr Kx) : QW V iL_law 1702 [a0, a1, a2, a3, a4, a5, a6, a7, a8] (.int y :: .int x :: st) h z bc bs Kr Kx := q_iadd dL_law_1702 kk
theorem dL_law_1703 : decode (i_b iL_law) 1703 = .ok (.iaload, 1) := by decide +kernel
theorem wL_law_1703 {j : Nat} {i : Int32} (hi : i = nI j) (hj : j < e_sL V) (hn : e_sL V < 2147483648) (kk : QW V iL_law 1704 [a0, a1, a2, a3, a4, a5, a6, a7, a8] (.int (e_xs V j) :: st) h z bc bs Kr Kx) : QW V iL_law 1703 [a0, a1, a2, a3, a4, a5, a6, a7, a8] (.int i :: .ref (e_sb V) :: st) h z bc bs Kr Kx := q_sld dL_law_1703 hi hj hn kk
theorem dL_law_1704 : decode (i_b iL_law) 1704 = .ok (.aload_n 3, 1) := by decide +kernel
theorem wL_law_1704 {x : Nat} (kk : QW V iL_law 1705 [a0, a1, a2, some (.ref x), a4, a5, a6, a7, a8] (.ref x :: st) h z bc bs Kr Kx) : QW V iL_law 1704 [a0, a1, a2, some (.ref x), a4, a5, a6, a7, a8] (st) h z bc bs Kr Kx := q_aload_n dL_law_1704 rfl rfl kk
theorem dL_law_1705 : decode (i_b iL_law) 1705 = .ok (.invokestatic 230, 3) := by decide +kernel
theorem wL_law_1705 {x0 : Nat} {x1 : Int32} {x2 : Int32} {x3 : Nat} (hm : QMi V iL_share [.ref x0, .int x1, .int x2, .ref x3] h z (fun r h' z' => QW V iL_law 1708 [a0, a1, a2, a3, a4, a5, a6, a7, a8] (.int r :: st) h' z' bc bs Kr Kx) Kx) (hW : (st.map fun v => v.category).sum ≤ 8 := by exact Nat.le_of_ble_eq_true rfl) : QW V iL_law 1705 [a0, a1, a2, a3, a4, a5, a6, a7, a8] (.ref x3 :: .int x2 :: .int x1 :: .ref x0 :: st) h z (bc + 3) (bs + 18) Kr Kx := q_callSX (y' := iL_share) (As := [.ref x0, .int x1, .int x2, .ref x3]) (rest := st) dL_law_1705 k5_20 k5_21 k1_0 hhL_share (by decide) hdL_share rfl (Nat.le_of_ble_eq_true rfl) (Nat.le_of_ble_eq_true rfl) hW rfl (QMi.run hm)
theorem dL_law_1708 : decode (i_b iL_law) 1708 = .ok (.istore 6, 2) := by decide +kernel
theorem wL_law_1708 {x : Int32} (kk : QW V iL_law 1710 [a0, a1, a2, a3, a4, a5, some (.int x), a7, a8] (st) h z bc bs Kr Kx) (hp : q_n2 a5 = true := by rfl) : QW V iL_law 1708 [a0, a1, a2, a3, a4, a5, a6, a7, a8] (.int x :: st) h z bc bs Kr Kx := q_istore dL_law_1708 (Nat.le_of_ble_eq_true rfl) hp kk
theorem dL_law_1710 : decode (i_b iL_law) 1710 = .ok (.aload_n 2, 1) := by decide +kernel
theorem wL_law_1710 {x : Nat} (kk : QW V iL_law 1711 [a0, a1, some (.ref x), a3, a4, a5, a6, a7, a8] (.ref x :: st) h z bc bs Kr Kx) : QW V iL_law 1710 [a0, a1, some (.ref x), a3, a4, a5, a6, a7, a8] (st) h z bc bs Kr Kx := q_aload_n dL_law_1710 rfl rfl kk
theorem dL_law_1711 : decode (i_b iL_law) 1711 = .ok (.aload_n 0, 1) := by decide +kernel
theorem wL_law_1711 {x : Nat} (kk : QW V iL_law 1712 [some (.ref x), a1, a2, a3, a4, a5, a6, a7, a8] (.ref x :: st) h z bc bs Kr Kx) : QW V iL_law 1711 [some (.ref x), a1, a2, a3, a4, a5, a6, a7, a8] (st) h z bc bs Kr Kx := q_aload_n dL_law_1711 rfl rfl kk
theorem dL_law_1712 : decode (i_b iL_law) 1712 = .ok (.iload 5, 2) := by decide +kernel
theorem wL_law_1712 {x : Int32} (kk : QW V iL_law 1714 [a0, a1, a2, a3, a4, some (.int x), a6, a7, a8] (.int x :: st) h z bc bs Kr Kx) : QW V iL_law 1712 [a0, a1, a2, a3, a4, some (.int x), a6, a7, a8] (st) h z bc bs Kr Kx := q_iload dL_law_1712 rfl kk
theorem dL_law_1714 : decode (i_b iL_law) 1714 = .ok (.iconst 1, 1) := by decide +kernel
theorem wL_law_1714  (kk : QW V iL_law 1715 [a0, a1, a2, a3, a4, a5, a6, a7, a8] (.int (1) :: st) h z bc bs Kr Kx) : QW V iL_law 1714 [a0, a1, a2, a3, a4, a5, a6, a7, a8] (st) h z bc bs Kr Kx := q_iconst dL_law_1714 (by decide) kk
theorem dL_law_1715 : decode (i_b iL_law) 1715 = .ok (.iadd, 1) := by decide +kernel
theorem wL_law_1715 {x y : Int32} (kk : QW V iL_law 1716 [a0, a1, a2, a3, a4, a5, a6, a7, a8] (.int (x + y) :: st) h z bc bs Kr Kx) : QW V iL_law 1715 [a0, a1, a2, a3, a4, a5, a6, a7, a8] (.int y :: .int x :: st) h z bc bs Kr Kx := q_iadd dL_law_1715 kk
theorem dL_law_1716 : decode (i_b iL_law) 1716 = .ok (.iaload, 1) := by decide +kernel
theorem wL_law_1716 {j : Nat} {i : Int32} (hi : i = nI j) (hj : j < e_sL V) (hn : e_sL V < 2147483648) (kk : QW V iL_law 1717 [a0, a1, a2, a3, a4, a5, a6, a7, a8] (.int (e_xs V j) :: st) h z bc bs Kr Kx) : QW V iL_law 1716 [a0, a1, a2, a3, a4, a5, a6, a7, a8] (.int i :: .ref (e_sb V) :: st) h z bc bs Kr Kx := q_sld dL_law_1716 hi hj hn kk
theorem dL_law_1717 : decode (i_b iL_law) 1717 = .ok (.aload_n 0, 1) := by decide +kernel
theorem wL_law_1717 {x : Nat} (kk : QW V iL_law 1718 [some (.ref x), a1, a2, a3, a4, a5, a6, a7, a8] (.ref x :: st) h z bc bs Kr Kx) : QW V iL_law 1717 [some (.ref x), a1, a2, a3, a4, a5, a6, a7, a8] (st) h z bc bs Kr Kx := q_aload_n dL_law_1717 rfl rfl kk
theorem dL_law_1718 : decode (i_b iL_law) 1718 = .ok (.iload 5, 2) := by decide +kernel
theorem wL_law_1718 {x : Int32} (kk : QW V iL_law 1720 [a0, a1, a2, a3, a4, some (.int x), a6, a7, a8] (.int x :: st) h z bc bs Kr Kx) : QW V iL_law 1718 [a0, a1, a2, a3, a4, some (.int x), a6, a7, a8] (st) h z bc bs Kr Kx := q_iload dL_law_1718 rfl kk
theorem dL_law_1720 : decode (i_b iL_law) 1720 = .ok (.iconst 2, 1) := by decide +kernel
theorem wL_law_1720  (kk : QW V iL_law 1721 [a0, a1, a2, a3, a4, a5, a6, a7, a8] (.int (2) :: st) h z bc bs Kr Kx) : QW V iL_law 1720 [a0, a1, a2, a3, a4, a5, a6, a7, a8] (st) h z bc bs Kr Kx := q_iconst dL_law_1720 (by decide) kk
theorem dL_law_1721 : decode (i_b iL_law) 1721 = .ok (.iadd, 1) := by decide +kernel
theorem wL_law_1721 {x y : Int32} (kk : QW V iL_law 1722 [a0, a1, a2, a3, a4, a5, a6, a7, a8] (.int (x + y) :: st) h z bc bs Kr Kx) : QW V iL_law 1721 [a0, a1, a2, a3, a4, a5, a6, a7, a8] (.int y :: .int x :: st) h z bc bs Kr Kx := q_iadd dL_law_1721 kk
theorem dL_law_1722 : decode (i_b iL_law) 1722 = .ok (.iaload, 1) := by decide +kernel
theorem wL_law_1722 {j : Nat} {i : Int32} (hi : i = nI j) (hj : j < e_sL V) (hn : e_sL V < 2147483648) (kk : QW V iL_law 1723 [a0, a1, a2, a3, a4, a5, a6, a7, a8] (.int (e_xs V j) :: st) h z bc bs Kr Kx) : QW V iL_law 1722 [a0, a1, a2, a3, a4, a5, a6, a7, a8] (.int i :: .ref (e_sb V) :: st) h z bc bs Kr Kx := q_sld dL_law_1722 hi hj hn kk
theorem dL_law_1723 : decode (i_b iL_law) 1723 = .ok (.invokevirtual 232, 3) := by decide +kernel
theorem wL_law_1723 {a : Nat} {fs : List Value} {x0 : Int32} {x1 : Int32} (hb : h a = some (.inr (10, fs))) (hm : QMi V iX9_share [.ref a, .int x0, .int x1] h z (fun r h' z' => QW V iL_law 1726 [a0, a1, a2, a3, a4, a5, a6, a7, a8] (.int r :: st) h' z' bc bs Kr Kx) Kx) (hW : (st.map fun v => v.category).sum ≤ 8 := by exact Nat.le_of_ble_eq_true rfl) : QW V iL_law 1723 [a0, a1, a2, a3, a4, a5, a6, a7, a8] (.int x1 :: .int x0 :: .ref a :: st) h z bc bs Kr Kx := q_callV (y' := iX9_share) (As := [.int x0, .int x1]) (rest := st) dL_law_1723 k7_222 k7_223 k7_224 k1_10 hhX9_share rfl hdX9_share rfl rfl (Nat.le_of_ble_eq_true rfl) (Nat.le_of_ble_eq_true rfl) hW rfl hb (QMi.run hm)
theorem dL_law_1726 : decode (i_b iL_law) 1726 = .ok (.istore 7, 2) := by decide +kernel
theorem wL_law_1726 {x : Int32} (kk : QW V iL_law 1728 [a0, a1, a2, a3, a4, a5, a6, some (.int x), a8] (st) h z bc bs Kr Kx) (hp : q_n2 a6 = true := by rfl) : QW V iL_law 1726 [a0, a1, a2, a3, a4, a5, a6, a7, a8] (.int x :: st) h z bc bs Kr Kx := q_istore dL_law_1726 (Nat.le_of_ble_eq_true rfl) hp kk
theorem dL_law_1728 : decode (i_b iL_law) 1728 = .ok (.aload_n 2, 1) := by decide +kernel
theorem wL_law_1728 {x : Nat} (kk : QW V iL_law 1729 [a0, a1, some (.ref x), a3, a4, a5, a6, a7, a8] (.ref x :: st) h z bc bs Kr Kx) : QW V iL_law 1728 [a0, a1, some (.ref x), a3, a4, a5, a6, a7, a8] (st) h z bc bs Kr Kx := q_aload_n dL_law_1728 rfl rfl kk
theorem dL_law_1729 : decode (i_b iL_law) 1729 = .ok (.invokevirtual 150, 3) := by decide +kernel
theorem wL_law_1729 {a : Nat} {fs : List Value}  (hb : h a = some (.inr (10, fs))) (hm : QMi V iX9_thrown [.ref a] h z (fun r h' z' => QW V iL_law 1732 [a0, a1, a2, a3, a4, a5, a6, a7, a8] (.int r :: st) h' z' bc bs Kr Kx) Kx) (hW : (st.map fun v => v.category).sum ≤ 8 := by exact Nat.le_of_ble_eq_true rfl) : QW V iL_law 1729 [a0, a1, a2, a3, a4, a5, a6, a7, a8] (.ref a :: st) h z bc bs Kr Kx := q_callV (y' := iX9_thrown) (As := []) (rest := st) dL_law_1729 k6_80 k6_81 k6_82 k1_10 hhX9_thrown rfl hdX9_thrown rfl rfl (Nat.le_of_ble_eq_true rfl) (Nat.le_of_ble_eq_true rfl) hW rfl hb (QMi.run hm)
theorem dL_law_1732 : decode (i_b iL_law) 1732 = .ok (.iload 6, 2) := by decide +kernel
theorem wL_law_1732 {x : Int32} (kk : QW V iL_law 1734 [a0, a1, a2, a3, a4, a5, some (.int x), a7, a8] (.int x :: st) h z bc bs Kr Kx) : QW V iL_law 1732 [a0, a1, a2, a3, a4, a5, some (.int x), a7, a8] (st) h z bc bs Kr Kx := q_iload dL_law_1732 rfl kk
theorem dL_law_1734 : decode (i_b iL_law) 1734 = .ok (.if_icmp .eq 5, 3) := by decide +kernel
theorem wL_law_1734 {x y : Int32} (kt : x = y → QW V iL_law 1739 [a0, a1, a2, a3, a4, a5, a6, a7, a8] (st) h z bc bs Kr Kx) (kf : ¬ x = y → QW V iL_law 1737 [a0, a1, a2, a3, a4, a5, a6, a7, a8] (st) h z bc bs Kr Kx) : QW V iL_law 1734 [a0, a1, a2, a3, a4, a5, a6, a7, a8] (.int y :: .int x :: st) h z bc bs Kr Kx := q_icmp_eq dL_law_1734 (by decide) kt kf
theorem dL_law_1737 : decode (i_b iL_law) 1737 = .ok (.iconst 0, 1) := by decide +kernel
theorem wL_law_1737  (kk : QW V iL_law 1738 [a0, a1, a2, a3, a4, a5, a6, a7, a8] (.int (0) :: st) h z bc bs Kr Kx) : QW V iL_law 1737 [a0, a1, a2, a3, a4, a5, a6, a7, a8] (st) h z bc bs Kr Kx := q_iconst dL_law_1737 (by decide) kk
theorem dL_law_1738 : decode (i_b iL_law) 1738 = .ok (.ireturn, 1) := by decide +kernel
theorem wL_law_1738 {x : Int32} {P : Int32 → q_H → Option Nat → Prop} (hk : P x h z) (hn : narrow .boolean (.int x) = .int x := by first | rfl | exact q_b_n _) : QW V iL_law 1738 [a0, a1, a2, a3, a4, a5, a6, a7, a8] [.int x] h z bc bs (q_Ki P) Kx := q_iret dL_law_1738 rfl hn ⟨x, rfl, hk⟩
theorem dL_law_1739 : decode (i_b iL_law) 1739 = .ok (.iload 6, 2) := by decide +kernel
theorem wL_law_1739 {x : Int32} (kk : QW V iL_law 1741 [a0, a1, a2, a3, a4, a5, some (.int x), a7, a8] (.int x :: st) h z bc bs Kr Kx) : QW V iL_law 1739 [a0, a1, a2, a3, a4, a5, some (.int x), a7, a8] (st) h z bc bs Kr Kx := q_iload dL_law_1739 rfl kk
theorem dL_law_1741 : decode (i_b iL_law) 1741 = .ok (.ifCond .ne 15, 3) := by decide +kernel
theorem wL_law_1741 {x : Int32} (kt : ¬ x = 0 → QW V iL_law 1756 [a0, a1, a2, a3, a4, a5, a6, a7, a8] (st) h z bc bs Kr Kx) (kf : x = 0 → QW V iL_law 1744 [a0, a1, a2, a3, a4, a5, a6, a7, a8] (st) h z bc bs Kr Kx) : QW V iL_law 1741 [a0, a1, a2, a3, a4, a5, a6, a7, a8] (.int x :: st) h z bc bs Kr Kx := q_if_ne dL_law_1741 (by decide) kt kf
theorem dL_law_1744 : decode (i_b iL_law) 1744 = .ok (.aload_n 3, 1) := by decide +kernel
theorem wL_law_1744 {x : Nat} (kk : QW V iL_law 1745 [a0, a1, a2, some (.ref x), a4, a5, a6, a7, a8] (.ref x :: st) h z bc bs Kr Kx) : QW V iL_law 1744 [a0, a1, a2, some (.ref x), a4, a5, a6, a7, a8] (st) h z bc bs Kr Kx := q_aload_n dL_law_1744 rfl rfl kk
theorem dL_law_1745 : decode (i_b iL_law) 1745 = .ok (.iconst 0, 1) := by decide +kernel
theorem wL_law_1745  (kk : QW V iL_law 1746 [a0, a1, a2, a3, a4, a5, a6, a7, a8] (.int (0) :: st) h z bc bs Kr Kx) : QW V iL_law 1745 [a0, a1, a2, a3, a4, a5, a6, a7, a8] (st) h z bc bs Kr Kx := q_iconst dL_law_1745 (by decide) kk
theorem dL_law_1746 : decode (i_b iL_law) 1746 = .ok (.laload, 1) := by decide +kernel
theorem wL_law_1746 {a n j : Nat} {f : Nat → Int64} {i : Int32} (ha : h a = some (.inl (2, n, .inr (.inl f)))) (hi : i = nI j) (hj : j < n) (hn : n < 2147483648) (kk : QW V iL_law 1747 [a0, a1, a2, a3, a4, a5, a6, a7, a8] (.long (f j) :: st) h z bc bs Kr Kx) : QW V iL_law 1746 [a0, a1, a2, a3, a4, a5, a6, a7, a8] (.int i :: .ref a :: st) h z bc bs Kr Kx := q_lald dL_law_1746 ha hi hj hn kk
theorem dL_law_1747 : decode (i_b iL_law) 1747 = .ok (.iload 7, 2) := by decide +kernel
theorem wL_law_1747 {x : Int32} (kk : QW V iL_law 1749 [a0, a1, a2, a3, a4, a5, a6, some (.int x), a8] (.int x :: st) h z bc bs Kr Kx) : QW V iL_law 1747 [a0, a1, a2, a3, a4, a5, a6, some (.int x), a8] (st) h z bc bs Kr Kx := q_iload dL_law_1747 rfl kk
theorem dL_law_1749 : decode (i_b iL_law) 1749 = .ok (.i2l, 1) := by decide +kernel
theorem wL_law_1749 {x : Int32} (kk : QW V iL_law 1750 [a0, a1, a2, a3, a4, a5, a6, a7, a8] (.long (x.toInt64) :: st) h z bc bs Kr Kx) : QW V iL_law 1749 [a0, a1, a2, a3, a4, a5, a6, a7, a8] (.int x :: st) h z bc bs Kr Kx := q_i2l dL_law_1749 kk
theorem dL_law_1750 : decode (i_b iL_law) 1750 = .ok (.lcmp, 1) := by decide +kernel
theorem dL_law_1751 : decode (i_b iL_law) 1751 = .ok (.ifCond .eq 5, 3) := by decide +kernel
theorem wL_law_1750 {x y : Int64} (kt : x = y → QW V iL_law 1756 [a0, a1, a2, a3, a4, a5, a6, a7, a8] (st) h z bc bs Kr Kx) (kf : ¬ x = y → QW V iL_law 1754 [a0, a1, a2, a3, a4, a5, a6, a7, a8] (st) h z bc bs Kr Kx) : QW V iL_law 1750 [a0, a1, a2, a3, a4, a5, a6, a7, a8] (.long y :: .long x :: st) h z bc bs Kr Kx := q_lcmp dL_law_1750 (q_if_eq dL_law_1751 (by decide) (fun q => kt ((q_lc_eq x y).mp q)) (fun q => kf (q_lcn_eq q)))
theorem dL_law_1754 : decode (i_b iL_law) 1754 = .ok (.iconst 0, 1) := by decide +kernel
theorem wL_law_1754  (kk : QW V iL_law 1755 [a0, a1, a2, a3, a4, a5, a6, a7, a8] (.int (0) :: st) h z bc bs Kr Kx) : QW V iL_law 1754 [a0, a1, a2, a3, a4, a5, a6, a7, a8] (st) h z bc bs Kr Kx := q_iconst dL_law_1754 (by decide) kk
theorem dL_law_1755 : decode (i_b iL_law) 1755 = .ok (.ireturn, 1) := by decide +kernel
theorem wL_law_1755 {x : Int32} {P : Int32 → q_H → Option Nat → Prop} (hk : P x h z) (hn : narrow .boolean (.int x) = .int x := by first | rfl | exact q_b_n _) : QW V iL_law 1755 [a0, a1, a2, a3, a4, a5, a6, a7, a8] [.int x] h z bc bs (q_Ki P) Kx := q_iret dL_law_1755 rfl hn ⟨x, rfl, hk⟩
theorem dL_law_1756 : decode (i_b iL_law) 1756 = .ok (.goto 995, 3) := by decide +kernel
theorem wL_law_1756  (kk : QW V iL_law 2751 [a0, a1, a2, a3, a4, a5, a6, a7, a8] (st) h z bc bs Kr Kx) : QW V iL_law 1756 [a0, a1, a2, a3, a4, a5, a6, a7, a8] (st) h z bc bs Kr Kx := q_goto dL_law_1756 (by decide) kk
theorem dL_law_1759 : decode (i_b iL_law) 1759 = .ok (.aload_n 1, 1) := by decide +kernel
theorem wL_law_1759 {x : Nat} (kk : QW V iL_law 1760 [a0, some (.ref x), a2, a3, a4, a5, a6, a7, a8] (.ref x :: st) h z bc bs Kr Kx) : QW V iL_law 1759 [a0, some (.ref x), a2, a3, a4, a5, a6, a7, a8] (st) h z bc bs Kr Kx := q_aload_n dL_law_1759 rfl rfl kk
theorem dL_law_1760 : decode (i_b iL_law) 1760 = .ok (.aload_n 0, 1) := by decide +kernel
theorem wL_law_1760 {x : Nat} (kk : QW V iL_law 1761 [some (.ref x), a1, a2, a3, a4, a5, a6, a7, a8] (.ref x :: st) h z bc bs Kr Kx) : QW V iL_law 1760 [some (.ref x), a1, a2, a3, a4, a5, a6, a7, a8] (st) h z bc bs Kr Kx := q_aload_n dL_law_1760 rfl rfl kk
theorem dL_law_1761 : decode (i_b iL_law) 1761 = .ok (.iload 5, 2) := by decide +kernel
theorem wL_law_1761 {x : Int32} (kk : QW V iL_law 1763 [a0, a1, a2, a3, a4, some (.int x), a6, a7, a8] (.int x :: st) h z bc bs Kr Kx) : QW V iL_law 1761 [a0, a1, a2, a3, a4, some (.int x), a6, a7, a8] (st) h z bc bs Kr Kx := q_iload dL_law_1761 rfl kk
theorem dL_law_1763 : decode (i_b iL_law) 1763 = .ok (.iconst 1, 1) := by decide +kernel
theorem wL_law_1763  (kk : QW V iL_law 1764 [a0, a1, a2, a3, a4, a5, a6, a7, a8] (.int (1) :: st) h z bc bs Kr Kx) : QW V iL_law 1763 [a0, a1, a2, a3, a4, a5, a6, a7, a8] (st) h z bc bs Kr Kx := q_iconst dL_law_1763 (by decide) kk
theorem dL_law_1764 : decode (i_b iL_law) 1764 = .ok (.iadd, 1) := by decide +kernel
theorem wL_law_1764 {x y : Int32} (kk : QW V iL_law 1765 [a0, a1, a2, a3, a4, a5, a6, a7, a8] (.int (x + y) :: st) h z bc bs Kr Kx) : QW V iL_law 1764 [a0, a1, a2, a3, a4, a5, a6, a7, a8] (.int y :: .int x :: st) h z bc bs Kr Kx := q_iadd dL_law_1764 kk
theorem dL_law_1765 : decode (i_b iL_law) 1765 = .ok (.iaload, 1) := by decide +kernel
theorem wL_law_1765 {j : Nat} {i : Int32} (hi : i = nI j) (hj : j < e_sL V) (hn : e_sL V < 2147483648) (kk : QW V iL_law 1766 [a0, a1, a2, a3, a4, a5, a6, a7, a8] (.int (e_xs V j) :: st) h z bc bs Kr Kx) : QW V iL_law 1765 [a0, a1, a2, a3, a4, a5, a6, a7, a8] (.int i :: .ref (e_sb V) :: st) h z bc bs Kr Kx := q_sld dL_law_1765 hi hj hn kk
theorem dL_law_1766 : decode (i_b iL_law) 1766 = .ok (.aload_n 3, 1) := by decide +kernel
theorem wL_law_1766 {x : Nat} (kk : QW V iL_law 1767 [a0, a1, a2, some (.ref x), a4, a5, a6, a7, a8] (.ref x :: st) h z bc bs Kr Kx) : QW V iL_law 1766 [a0, a1, a2, some (.ref x), a4, a5, a6, a7, a8] (st) h z bc bs Kr Kx := q_aload_n dL_law_1766 rfl rfl kk
theorem dL_law_1767 : decode (i_b iL_law) 1767 = .ok (.invokestatic 233, 3) := by decide +kernel
theorem wL_law_1767 {x0 : Nat} {x1 : Int32} {x2 : Nat} (hm : QMi V iL_playerRank [.ref x0, .int x1, .ref x2] h z (fun r h' z' => QW V iL_law 1770 [a0, a1, a2, a3, a4, a5, a6, a7, a8] (.int r :: st) h' z' bc bs Kr Kx) Kx) (hW : (st.map fun v => v.category).sum ≤ 8 := by exact Nat.le_of_ble_eq_true rfl) : QW V iL_law 1767 [a0, a1, a2, a3, a4, a5, a6, a7, a8] (.ref x2 :: .int x1 :: .ref x0 :: st) h z (bc + 3) (bs + 18) Kr Kx := q_callSX (y' := iL_playerRank) (As := [.ref x0, .int x1, .ref x2]) (rest := st) dL_law_1767 k5_31 k5_32 k1_0 hhL_playerRank (by decide) hdL_playerRank rfl (Nat.le_of_ble_eq_true rfl) (Nat.le_of_ble_eq_true rfl) hW rfl (QMi.run hm)
theorem dL_law_1770 : decode (i_b iL_law) 1770 = .ok (.istore 6, 2) := by decide +kernel
theorem wL_law_1770 {x : Int32} (kk : QW V iL_law 1772 [a0, a1, a2, a3, a4, a5, some (.int x), a7, a8] (st) h z bc bs Kr Kx) (hp : q_n2 a5 = true := by rfl) : QW V iL_law 1770 [a0, a1, a2, a3, a4, a5, a6, a7, a8] (.int x :: st) h z bc bs Kr Kx := q_istore dL_law_1770 (Nat.le_of_ble_eq_true rfl) hp kk
theorem dL_law_1772 : decode (i_b iL_law) 1772 = .ok (.aload_n 2, 1) := by decide +kernel
theorem wL_law_1772 {x : Nat} (kk : QW V iL_law 1773 [a0, a1, some (.ref x), a3, a4, a5, a6, a7, a8] (.ref x :: st) h z bc bs Kr Kx) : QW V iL_law 1772 [a0, a1, some (.ref x), a3, a4, a5, a6, a7, a8] (st) h z bc bs Kr Kx := q_aload_n dL_law_1772 rfl rfl kk
theorem dL_law_1773 : decode (i_b iL_law) 1773 = .ok (.aload_n 0, 1) := by decide +kernel
theorem wL_law_1773 {x : Nat} (kk : QW V iL_law 1774 [some (.ref x), a1, a2, a3, a4, a5, a6, a7, a8] (.ref x :: st) h z bc bs Kr Kx) : QW V iL_law 1773 [some (.ref x), a1, a2, a3, a4, a5, a6, a7, a8] (st) h z bc bs Kr Kx := q_aload_n dL_law_1773 rfl rfl kk
theorem dL_law_1774 : decode (i_b iL_law) 1774 = .ok (.iload 5, 2) := by decide +kernel
theorem wL_law_1774 {x : Int32} (kk : QW V iL_law 1776 [a0, a1, a2, a3, a4, some (.int x), a6, a7, a8] (.int x :: st) h z bc bs Kr Kx) : QW V iL_law 1774 [a0, a1, a2, a3, a4, some (.int x), a6, a7, a8] (st) h z bc bs Kr Kx := q_iload dL_law_1774 rfl kk
theorem dL_law_1776 : decode (i_b iL_law) 1776 = .ok (.iconst 1, 1) := by decide +kernel
theorem wL_law_1776  (kk : QW V iL_law 1777 [a0, a1, a2, a3, a4, a5, a6, a7, a8] (.int (1) :: st) h z bc bs Kr Kx) : QW V iL_law 1776 [a0, a1, a2, a3, a4, a5, a6, a7, a8] (st) h z bc bs Kr Kx := q_iconst dL_law_1776 (by decide) kk
theorem dL_law_1777 : decode (i_b iL_law) 1777 = .ok (.iadd, 1) := by decide +kernel
theorem wL_law_1777 {x y : Int32} (kk : QW V iL_law 1778 [a0, a1, a2, a3, a4, a5, a6, a7, a8] (.int (x + y) :: st) h z bc bs Kr Kx) : QW V iL_law 1777 [a0, a1, a2, a3, a4, a5, a6, a7, a8] (.int y :: .int x :: st) h z bc bs Kr Kx := q_iadd dL_law_1777 kk
theorem dL_law_1778 : decode (i_b iL_law) 1778 = .ok (.iaload, 1) := by decide +kernel
theorem wL_law_1778 {j : Nat} {i : Int32} (hi : i = nI j) (hj : j < e_sL V) (hn : e_sL V < 2147483648) (kk : QW V iL_law 1779 [a0, a1, a2, a3, a4, a5, a6, a7, a8] (.int (e_xs V j) :: st) h z bc bs Kr Kx) : QW V iL_law 1778 [a0, a1, a2, a3, a4, a5, a6, a7, a8] (.int i :: .ref (e_sb V) :: st) h z bc bs Kr Kx := q_sld dL_law_1778 hi hj hn kk
theorem dL_law_1779 : decode (i_b iL_law) 1779 = .ok (.invokevirtual 235, 3) := by decide +kernel
theorem wL_law_1779 {a : Nat} {fs : List Value} {x0 : Int32} (hb : h a = some (.inr (10, fs))) (hm : QMi V iX9_playerRank [.ref a, .int x0] h z (fun r h' z' => QW V iL_law 1782 [a0, a1, a2, a3, a4, a5, a6, a7, a8] (.int r :: st) h' z' bc bs Kr Kx) Kx) (hW : (st.map fun v => v.category).sum ≤ 8 := by exact Nat.le_of_ble_eq_true rfl) : QW V iL_law 1779 [a0, a1, a2, a3, a4, a5, a6, a7, a8] (.int x0 :: .ref a :: st) h z bc bs Kr Kx := q_callV (y' := iX9_playerRank) (As := [.int x0]) (rest := st) dL_law_1779 k7_226 k7_227 k7_228 k1_10 hhX9_playerRank rfl hdX9_playerRank rfl rfl (Nat.le_of_ble_eq_true rfl) (Nat.le_of_ble_eq_true rfl) hW rfl hb (QMi.run hm)
theorem dL_law_1782 : decode (i_b iL_law) 1782 = .ok (.istore 7, 2) := by decide +kernel
theorem wL_law_1782 {x : Int32} (kk : QW V iL_law 1784 [a0, a1, a2, a3, a4, a5, a6, some (.int x), a8] (st) h z bc bs Kr Kx) (hp : q_n2 a6 = true := by rfl) : QW V iL_law 1782 [a0, a1, a2, a3, a4, a5, a6, a7, a8] (.int x :: st) h z bc bs Kr Kx := q_istore dL_law_1782 (Nat.le_of_ble_eq_true rfl) hp kk
theorem dL_law_1784 : decode (i_b iL_law) 1784 = .ok (.aload_n 2, 1) := by decide +kernel
theorem wL_law_1784 {x : Nat} (kk : QW V iL_law 1785 [a0, a1, some (.ref x), a3, a4, a5, a6, a7, a8] (.ref x :: st) h z bc bs Kr Kx) : QW V iL_law 1784 [a0, a1, some (.ref x), a3, a4, a5, a6, a7, a8] (st) h z bc bs Kr Kx := q_aload_n dL_law_1784 rfl rfl kk
theorem dL_law_1785 : decode (i_b iL_law) 1785 = .ok (.invokevirtual 150, 3) := by decide +kernel
theorem wL_law_1785 {a : Nat} {fs : List Value}  (hb : h a = some (.inr (10, fs))) (hm : QMi V iX9_thrown [.ref a] h z (fun r h' z' => QW V iL_law 1788 [a0, a1, a2, a3, a4, a5, a6, a7, a8] (.int r :: st) h' z' bc bs Kr Kx) Kx) (hW : (st.map fun v => v.category).sum ≤ 8 := by exact Nat.le_of_ble_eq_true rfl) : QW V iL_law 1785 [a0, a1, a2, a3, a4, a5, a6, a7, a8] (.ref a :: st) h z bc bs Kr Kx := q_callV (y' := iX9_thrown) (As := []) (rest := st) dL_law_1785 k6_80 k6_81 k6_82 k1_10 hhX9_thrown rfl hdX9_thrown rfl rfl (Nat.le_of_ble_eq_true rfl) (Nat.le_of_ble_eq_true rfl) hW rfl hb (QMi.run hm)
theorem dL_law_1788 : decode (i_b iL_law) 1788 = .ok (.iload 6, 2) := by decide +kernel
theorem wL_law_1788 {x : Int32} (kk : QW V iL_law 1790 [a0, a1, a2, a3, a4, a5, some (.int x), a7, a8] (.int x :: st) h z bc bs Kr Kx) : QW V iL_law 1788 [a0, a1, a2, a3, a4, a5, some (.int x), a7, a8] (st) h z bc bs Kr Kx := q_iload dL_law_1788 rfl kk
theorem dL_law_1790 : decode (i_b iL_law) 1790 = .ok (.if_icmp .eq 5, 3) := by decide +kernel
theorem wL_law_1790 {x y : Int32} (kt : x = y → QW V iL_law 1795 [a0, a1, a2, a3, a4, a5, a6, a7, a8] (st) h z bc bs Kr Kx) (kf : ¬ x = y → QW V iL_law 1793 [a0, a1, a2, a3, a4, a5, a6, a7, a8] (st) h z bc bs Kr Kx) : QW V iL_law 1790 [a0, a1, a2, a3, a4, a5, a6, a7, a8] (.int y :: .int x :: st) h z bc bs Kr Kx := q_icmp_eq dL_law_1790 (by decide) kt kf
theorem dL_law_1793 : decode (i_b iL_law) 1793 = .ok (.iconst 0, 1) := by decide +kernel
theorem wL_law_1793  (kk : QW V iL_law 1794 [a0, a1, a2, a3, a4, a5, a6, a7, a8] (.int (0) :: st) h z bc bs Kr Kx) : QW V iL_law 1793 [a0, a1, a2, a3, a4, a5, a6, a7, a8] (st) h z bc bs Kr Kx := q_iconst dL_law_1793 (by decide) kk
theorem dL_law_1794 : decode (i_b iL_law) 1794 = .ok (.ireturn, 1) := by decide +kernel
theorem wL_law_1794 {x : Int32} {P : Int32 → q_H → Option Nat → Prop} (hk : P x h z) (hn : narrow .boolean (.int x) = .int x := by first | rfl | exact q_b_n _) : QW V iL_law 1794 [a0, a1, a2, a3, a4, a5, a6, a7, a8] [.int x] h z bc bs (q_Ki P) Kx := q_iret dL_law_1794 rfl hn ⟨x, rfl, hk⟩
theorem dL_law_1795 : decode (i_b iL_law) 1795 = .ok (.iload 6, 2) := by decide +kernel
theorem wL_law_1795 {x : Int32} (kk : QW V iL_law 1797 [a0, a1, a2, a3, a4, a5, some (.int x), a7, a8] (.int x :: st) h z bc bs Kr Kx) : QW V iL_law 1795 [a0, a1, a2, a3, a4, a5, some (.int x), a7, a8] (st) h z bc bs Kr Kx := q_iload dL_law_1795 rfl kk
theorem dL_law_1797 : decode (i_b iL_law) 1797 = .ok (.ifCond .ne 15, 3) := by decide +kernel
theorem wL_law_1797 {x : Int32} (kt : ¬ x = 0 → QW V iL_law 1812 [a0, a1, a2, a3, a4, a5, a6, a7, a8] (st) h z bc bs Kr Kx) (kf : x = 0 → QW V iL_law 1800 [a0, a1, a2, a3, a4, a5, a6, a7, a8] (st) h z bc bs Kr Kx) : QW V iL_law 1797 [a0, a1, a2, a3, a4, a5, a6, a7, a8] (.int x :: st) h z bc bs Kr Kx := q_if_ne dL_law_1797 (by decide) kt kf
theorem dL_law_1800 : decode (i_b iL_law) 1800 = .ok (.aload_n 3, 1) := by decide +kernel
theorem wL_law_1800 {x : Nat} (kk : QW V iL_law 1801 [a0, a1, a2, some (.ref x), a4, a5, a6, a7, a8] (.ref x :: st) h z bc bs Kr Kx) : QW V iL_law 1800 [a0, a1, a2, some (.ref x), a4, a5, a6, a7, a8] (st) h z bc bs Kr Kx := q_aload_n dL_law_1800 rfl rfl kk
theorem dL_law_1801 : decode (i_b iL_law) 1801 = .ok (.iconst 0, 1) := by decide +kernel
theorem wL_law_1801  (kk : QW V iL_law 1802 [a0, a1, a2, a3, a4, a5, a6, a7, a8] (.int (0) :: st) h z bc bs Kr Kx) : QW V iL_law 1801 [a0, a1, a2, a3, a4, a5, a6, a7, a8] (st) h z bc bs Kr Kx := q_iconst dL_law_1801 (by decide) kk
theorem dL_law_1802 : decode (i_b iL_law) 1802 = .ok (.laload, 1) := by decide +kernel
theorem wL_law_1802 {a n j : Nat} {f : Nat → Int64} {i : Int32} (ha : h a = some (.inl (2, n, .inr (.inl f)))) (hi : i = nI j) (hj : j < n) (hn : n < 2147483648) (kk : QW V iL_law 1803 [a0, a1, a2, a3, a4, a5, a6, a7, a8] (.long (f j) :: st) h z bc bs Kr Kx) : QW V iL_law 1802 [a0, a1, a2, a3, a4, a5, a6, a7, a8] (.int i :: .ref a :: st) h z bc bs Kr Kx := q_lald dL_law_1802 ha hi hj hn kk
theorem dL_law_1803 : decode (i_b iL_law) 1803 = .ok (.iload 7, 2) := by decide +kernel
theorem wL_law_1803 {x : Int32} (kk : QW V iL_law 1805 [a0, a1, a2, a3, a4, a5, a6, some (.int x), a8] (.int x :: st) h z bc bs Kr Kx) : QW V iL_law 1803 [a0, a1, a2, a3, a4, a5, a6, some (.int x), a8] (st) h z bc bs Kr Kx := q_iload dL_law_1803 rfl kk
theorem dL_law_1805 : decode (i_b iL_law) 1805 = .ok (.i2l, 1) := by decide +kernel
theorem wL_law_1805 {x : Int32} (kk : QW V iL_law 1806 [a0, a1, a2, a3, a4, a5, a6, a7, a8] (.long (x.toInt64) :: st) h z bc bs Kr Kx) : QW V iL_law 1805 [a0, a1, a2, a3, a4, a5, a6, a7, a8] (.int x :: st) h z bc bs Kr Kx := q_i2l dL_law_1805 kk
theorem dL_law_1806 : decode (i_b iL_law) 1806 = .ok (.lcmp, 1) := by decide +kernel
theorem dL_law_1807 : decode (i_b iL_law) 1807 = .ok (.ifCond .eq 5, 3) := by decide +kernel
theorem wL_law_1806 {x y : Int64} (kt : x = y → QW V iL_law 1812 [a0, a1, a2, a3, a4, a5, a6, a7, a8] (st) h z bc bs Kr Kx) (kf : ¬ x = y → QW V iL_law 1810 [a0, a1, a2, a3, a4, a5, a6, a7, a8] (st) h z bc bs Kr Kx) : QW V iL_law 1806 [a0, a1, a2, a3, a4, a5, a6, a7, a8] (.long y :: .long x :: st) h z bc bs Kr Kx := q_lcmp dL_law_1806 (q_if_eq dL_law_1807 (by decide) (fun q => kt ((q_lc_eq x y).mp q)) (fun q => kf (q_lcn_eq q)))
theorem dL_law_1810 : decode (i_b iL_law) 1810 = .ok (.iconst 0, 1) := by decide +kernel
theorem wL_law_1810  (kk : QW V iL_law 1811 [a0, a1, a2, a3, a4, a5, a6, a7, a8] (.int (0) :: st) h z bc bs Kr Kx) : QW V iL_law 1810 [a0, a1, a2, a3, a4, a5, a6, a7, a8] (st) h z bc bs Kr Kx := q_iconst dL_law_1810 (by decide) kk
theorem dL_law_1811 : decode (i_b iL_law) 1811 = .ok (.ireturn, 1) := by decide +kernel
theorem wL_law_1811 {x : Int32} {P : Int32 → q_H → Option Nat → Prop} (hk : P x h z) (hn : narrow .boolean (.int x) = .int x := by first | rfl | exact q_b_n _) : QW V iL_law 1811 [a0, a1, a2, a3, a4, a5, a6, a7, a8] [.int x] h z bc bs (q_Ki P) Kx := q_iret dL_law_1811 rfl hn ⟨x, rfl, hk⟩
theorem dL_law_1812 : decode (i_b iL_law) 1812 = .ok (.goto 939, 3) := by decide +kernel
theorem wL_law_1812  (kk : QW V iL_law 2751 [a0, a1, a2, a3, a4, a5, a6, a7, a8] (st) h z bc bs Kr Kx) : QW V iL_law 1812 [a0, a1, a2, a3, a4, a5, a6, a7, a8] (st) h z bc bs Kr Kx := q_goto dL_law_1812 (by decide) kk
theorem dL_law_1815 : decode (i_b iL_law) 1815 = .ok (.aload_n 1, 1) := by decide +kernel
theorem wL_law_1815 {x : Nat} (kk : QW V iL_law 1816 [a0, some (.ref x), a2, a3, a4, a5, a6, a7, a8] (.ref x :: st) h z bc bs Kr Kx) : QW V iL_law 1815 [a0, some (.ref x), a2, a3, a4, a5, a6, a7, a8] (st) h z bc bs Kr Kx := q_aload_n dL_law_1815 rfl rfl kk
theorem dL_law_1816 : decode (i_b iL_law) 1816 = .ok (.aload_n 0, 1) := by decide +kernel
theorem wL_law_1816 {x : Nat} (kk : QW V iL_law 1817 [some (.ref x), a1, a2, a3, a4, a5, a6, a7, a8] (.ref x :: st) h z bc bs Kr Kx) : QW V iL_law 1816 [some (.ref x), a1, a2, a3, a4, a5, a6, a7, a8] (st) h z bc bs Kr Kx := q_aload_n dL_law_1816 rfl rfl kk
theorem dL_law_1817 : decode (i_b iL_law) 1817 = .ok (.iload 5, 2) := by decide +kernel
theorem wL_law_1817 {x : Int32} (kk : QW V iL_law 1819 [a0, a1, a2, a3, a4, some (.int x), a6, a7, a8] (.int x :: st) h z bc bs Kr Kx) : QW V iL_law 1817 [a0, a1, a2, a3, a4, some (.int x), a6, a7, a8] (st) h z bc bs Kr Kx := q_iload dL_law_1817 rfl kk
theorem dL_law_1819 : decode (i_b iL_law) 1819 = .ok (.iconst 1, 1) := by decide +kernel
theorem wL_law_1819  (kk : QW V iL_law 1820 [a0, a1, a2, a3, a4, a5, a6, a7, a8] (.int (1) :: st) h z bc bs Kr Kx) : QW V iL_law 1819 [a0, a1, a2, a3, a4, a5, a6, a7, a8] (st) h z bc bs Kr Kx := q_iconst dL_law_1819 (by decide) kk
theorem dL_law_1820 : decode (i_b iL_law) 1820 = .ok (.iadd, 1) := by decide +kernel
theorem wL_law_1820 {x y : Int32} (kk : QW V iL_law 1821 [a0, a1, a2, a3, a4, a5, a6, a7, a8] (.int (x + y) :: st) h z bc bs Kr Kx) : QW V iL_law 1820 [a0, a1, a2, a3, a4, a5, a6, a7, a8] (.int y :: .int x :: st) h z bc bs Kr Kx := q_iadd dL_law_1820 kk
theorem dL_law_1821 : decode (i_b iL_law) 1821 = .ok (.iaload, 1) := by decide +kernel
theorem wL_law_1821 {j : Nat} {i : Int32} (hi : i = nI j) (hj : j < e_sL V) (hn : e_sL V < 2147483648) (kk : QW V iL_law 1822 [a0, a1, a2, a3, a4, a5, a6, a7, a8] (.int (e_xs V j) :: st) h z bc bs Kr Kx) : QW V iL_law 1821 [a0, a1, a2, a3, a4, a5, a6, a7, a8] (.int i :: .ref (e_sb V) :: st) h z bc bs Kr Kx := q_sld dL_law_1821 hi hj hn kk
theorem dL_law_1822 : decode (i_b iL_law) 1822 = .ok (.aload 4, 2) := by decide +kernel
theorem wL_law_1822 {x : Nat} (kk : QW V iL_law 1824 [a0, a1, a2, a3, some (.ref x), a5, a6, a7, a8] (.ref x :: st) h z bc bs Kr Kx) : QW V iL_law 1822 [a0, a1, a2, a3, some (.ref x), a5, a6, a7, a8] (st) h z bc bs Kr Kx := q_aload dL_law_1822 rfl kk
theorem dL_law_1824 : decode (i_b iL_law) 1824 = .ok (.invokestatic 236, 3) := by decide +kernel
theorem wL_law_1824 {x0 : Nat} {x1 : Int32} {x2 : Nat} (hm : QMi V iL_meanSalary [.ref x0, .int x1, .ref x2] h z (fun r h' z' => QW V iL_law 1827 [a0, a1, a2, a3, a4, a5, a6, a7, a8] (.int r :: st) h' z' bc bs Kr Kx) Kx) (hW : (st.map fun v => v.category).sum ≤ 8 := by exact Nat.le_of_ble_eq_true rfl) : QW V iL_law 1824 [a0, a1, a2, a3, a4, a5, a6, a7, a8] (.ref x2 :: .int x1 :: .ref x0 :: st) h z (bc + 3) (bs + 18) Kr Kx := q_callSX (y' := iL_meanSalary) (As := [.ref x0, .int x1, .ref x2]) (rest := st) dL_law_1824 k5_44 k5_45 k1_0 hhL_meanSalary (by decide) hdL_meanSalary rfl (Nat.le_of_ble_eq_true rfl) (Nat.le_of_ble_eq_true rfl) hW rfl (QMi.run hm)
theorem dL_law_1827 : decode (i_b iL_law) 1827 = .ok (.istore 6, 2) := by decide +kernel
theorem wL_law_1827 {x : Int32} (kk : QW V iL_law 1829 [a0, a1, a2, a3, a4, a5, some (.int x), a7, a8] (st) h z bc bs Kr Kx) (hp : q_n2 a5 = true := by rfl) : QW V iL_law 1827 [a0, a1, a2, a3, a4, a5, a6, a7, a8] (.int x :: st) h z bc bs Kr Kx := q_istore dL_law_1827 (Nat.le_of_ble_eq_true rfl) hp kk
theorem dL_law_1829 : decode (i_b iL_law) 1829 = .ok (.aload_n 2, 1) := by decide +kernel
theorem wL_law_1829 {x : Nat} (kk : QW V iL_law 1830 [a0, a1, some (.ref x), a3, a4, a5, a6, a7, a8] (.ref x :: st) h z bc bs Kr Kx) : QW V iL_law 1829 [a0, a1, some (.ref x), a3, a4, a5, a6, a7, a8] (st) h z bc bs Kr Kx := q_aload_n dL_law_1829 rfl rfl kk
theorem dL_law_1830 : decode (i_b iL_law) 1830 = .ok (.aload_n 0, 1) := by decide +kernel
theorem wL_law_1830 {x : Nat} (kk : QW V iL_law 1831 [some (.ref x), a1, a2, a3, a4, a5, a6, a7, a8] (.ref x :: st) h z bc bs Kr Kx) : QW V iL_law 1830 [some (.ref x), a1, a2, a3, a4, a5, a6, a7, a8] (st) h z bc bs Kr Kx := q_aload_n dL_law_1830 rfl rfl kk
theorem dL_law_1831 : decode (i_b iL_law) 1831 = .ok (.iload 5, 2) := by decide +kernel
theorem wL_law_1831 {x : Int32} (kk : QW V iL_law 1833 [a0, a1, a2, a3, a4, some (.int x), a6, a7, a8] (.int x :: st) h z bc bs Kr Kx) : QW V iL_law 1831 [a0, a1, a2, a3, a4, some (.int x), a6, a7, a8] (st) h z bc bs Kr Kx := q_iload dL_law_1831 rfl kk
theorem dL_law_1833 : decode (i_b iL_law) 1833 = .ok (.iconst 1, 1) := by decide +kernel
theorem wL_law_1833  (kk : QW V iL_law 1834 [a0, a1, a2, a3, a4, a5, a6, a7, a8] (.int (1) :: st) h z bc bs Kr Kx) : QW V iL_law 1833 [a0, a1, a2, a3, a4, a5, a6, a7, a8] (st) h z bc bs Kr Kx := q_iconst dL_law_1833 (by decide) kk
theorem dL_law_1834 : decode (i_b iL_law) 1834 = .ok (.iadd, 1) := by decide +kernel
theorem wL_law_1834 {x y : Int32} (kk : QW V iL_law 1835 [a0, a1, a2, a3, a4, a5, a6, a7, a8] (.int (x + y) :: st) h z bc bs Kr Kx) : QW V iL_law 1834 [a0, a1, a2, a3, a4, a5, a6, a7, a8] (.int y :: .int x :: st) h z bc bs Kr Kx := q_iadd dL_law_1834 kk
theorem dL_law_1835 : decode (i_b iL_law) 1835 = .ok (.iaload, 1) := by decide +kernel
theorem wL_law_1835 {j : Nat} {i : Int32} (hi : i = nI j) (hj : j < e_sL V) (hn : e_sL V < 2147483648) (kk : QW V iL_law 1836 [a0, a1, a2, a3, a4, a5, a6, a7, a8] (.int (e_xs V j) :: st) h z bc bs Kr Kx) : QW V iL_law 1835 [a0, a1, a2, a3, a4, a5, a6, a7, a8] (.int i :: .ref (e_sb V) :: st) h z bc bs Kr Kx := q_sld dL_law_1835 hi hj hn kk
theorem dL_law_1836 : decode (i_b iL_law) 1836 = .ok (.invokevirtual 239, 3) := by decide +kernel
theorem wL_law_1836 {a : Nat} {fs : List Value} {x0 : Int32} (hb : h a = some (.inr (10, fs))) (hm : QMd V iX9_meanSalary [.ref a, .int x0] h z (fun r h' z' => QW V iL_law 1839 [a0, a1, a2, a3, a4, a5, a6, a7, a8] (.double r :: st) h' z' bc bs Kr Kx) Kx) (hW : (st.map fun v => v.category).sum ≤ 8 := by exact Nat.le_of_ble_eq_true rfl) : QW V iL_law 1836 [a0, a1, a2, a3, a4, a5, a6, a7, a8] (.int x0 :: .ref a :: st) h z bc bs Kr Kx := q_callV (y' := iX9_meanSalary) (As := [.int x0]) (rest := st) dL_law_1836 k7_234 k7_235 k7_236 k1_10 hhX9_meanSalary rfl hdX9_meanSalary rfl rfl (Nat.le_of_ble_eq_true rfl) (Nat.le_of_ble_eq_true rfl) hW rfl hb (QMd.run hm)
theorem dL_law_1839 : decode (i_b iL_law) 1839 = .ok (.dstore 7, 2) := by decide +kernel
theorem wL_law_1839 {x : UInt64} (kk : QW V iL_law 1841 [a0, a1, a2, a3, a4, a5, a6, some (.double x), none] (st) h z bc bs Kr Kx) (hp : q_n2 a6 = true := by rfl) : QW V iL_law 1839 [a0, a1, a2, a3, a4, a5, a6, a7, a8] (.double x :: st) h z bc bs Kr Kx := q_dstore dL_law_1839 (Nat.le_of_ble_eq_true rfl) hp kk
theorem dL_law_1841 : decode (i_b iL_law) 1841 = .ok (.aload_n 2, 1) := by decide +kernel
theorem wL_law_1841 {x : Nat} (kk : QW V iL_law 1842 [a0, a1, some (.ref x), a3, a4, a5, a6, a7, a8] (.ref x :: st) h z bc bs Kr Kx) : QW V iL_law 1841 [a0, a1, some (.ref x), a3, a4, a5, a6, a7, a8] (st) h z bc bs Kr Kx := q_aload_n dL_law_1841 rfl rfl kk
theorem dL_law_1842 : decode (i_b iL_law) 1842 = .ok (.invokevirtual 150, 3) := by decide +kernel
theorem wL_law_1842 {a : Nat} {fs : List Value}  (hb : h a = some (.inr (10, fs))) (hm : QMi V iX9_thrown [.ref a] h z (fun r h' z' => QW V iL_law 1845 [a0, a1, a2, a3, a4, a5, a6, a7, a8] (.int r :: st) h' z' bc bs Kr Kx) Kx) (hW : (st.map fun v => v.category).sum ≤ 8 := by exact Nat.le_of_ble_eq_true rfl) : QW V iL_law 1842 [a0, a1, a2, a3, a4, a5, a6, a7, a8] (.ref a :: st) h z bc bs Kr Kx := q_callV (y' := iX9_thrown) (As := []) (rest := st) dL_law_1842 k6_80 k6_81 k6_82 k1_10 hhX9_thrown rfl hdX9_thrown rfl rfl (Nat.le_of_ble_eq_true rfl) (Nat.le_of_ble_eq_true rfl) hW rfl hb (QMi.run hm)
theorem dL_law_1845 : decode (i_b iL_law) 1845 = .ok (.iload 6, 2) := by decide +kernel
theorem wL_law_1845 {x : Int32} (kk : QW V iL_law 1847 [a0, a1, a2, a3, a4, a5, some (.int x), a7, a8] (.int x :: st) h z bc bs Kr Kx) : QW V iL_law 1845 [a0, a1, a2, a3, a4, a5, some (.int x), a7, a8] (st) h z bc bs Kr Kx := q_iload dL_law_1845 rfl kk
theorem dL_law_1847 : decode (i_b iL_law) 1847 = .ok (.if_icmp .eq 5, 3) := by decide +kernel
theorem wL_law_1847 {x y : Int32} (kt : x = y → QW V iL_law 1852 [a0, a1, a2, a3, a4, a5, a6, a7, a8] (st) h z bc bs Kr Kx) (kf : ¬ x = y → QW V iL_law 1850 [a0, a1, a2, a3, a4, a5, a6, a7, a8] (st) h z bc bs Kr Kx) : QW V iL_law 1847 [a0, a1, a2, a3, a4, a5, a6, a7, a8] (.int y :: .int x :: st) h z bc bs Kr Kx := q_icmp_eq dL_law_1847 (by decide) kt kf
theorem dL_law_1850 : decode (i_b iL_law) 1850 = .ok (.iconst 0, 1) := by decide +kernel
theorem wL_law_1850  (kk : QW V iL_law 1851 [a0, a1, a2, a3, a4, a5, a6, a7, a8] (.int (0) :: st) h z bc bs Kr Kx) : QW V iL_law 1850 [a0, a1, a2, a3, a4, a5, a6, a7, a8] (st) h z bc bs Kr Kx := q_iconst dL_law_1850 (by decide) kk
theorem dL_law_1851 : decode (i_b iL_law) 1851 = .ok (.ireturn, 1) := by decide +kernel
theorem wL_law_1851 {x : Int32} {P : Int32 → q_H → Option Nat → Prop} (hk : P x h z) (hn : narrow .boolean (.int x) = .int x := by first | rfl | exact q_b_n _) : QW V iL_law 1851 [a0, a1, a2, a3, a4, a5, a6, a7, a8] [.int x] h z bc bs (q_Ki P) Kx := q_iret dL_law_1851 rfl hn ⟨x, rfl, hk⟩
theorem dL_law_1852 : decode (i_b iL_law) 1852 = .ok (.iload 6, 2) := by decide +kernel
theorem wL_law_1852 {x : Int32} (kk : QW V iL_law 1854 [a0, a1, a2, a3, a4, a5, some (.int x), a7, a8] (.int x :: st) h z bc bs Kr Kx) : QW V iL_law 1852 [a0, a1, a2, a3, a4, a5, some (.int x), a7, a8] (st) h z bc bs Kr Kx := q_iload dL_law_1852 rfl kk
theorem dL_law_1854 : decode (i_b iL_law) 1854 = .ok (.ifCond .ne 35, 3) := by decide +kernel
theorem wL_law_1854 {x : Int32} (kt : ¬ x = 0 → QW V iL_law 1889 [a0, a1, a2, a3, a4, a5, a6, a7, a8] (st) h z bc bs Kr Kx) (kf : x = 0 → QW V iL_law 1857 [a0, a1, a2, a3, a4, a5, a6, a7, a8] (st) h z bc bs Kr Kx) : QW V iL_law 1854 [a0, a1, a2, a3, a4, a5, a6, a7, a8] (.int x :: st) h z bc bs Kr Kx := q_if_ne dL_law_1854 (by decide) kt kf
theorem dL_law_1857 : decode (i_b iL_law) 1857 = .ok (.aload 4, 2) := by decide +kernel
theorem wL_law_1857 {x : Nat} (kk : QW V iL_law 1859 [a0, a1, a2, a3, some (.ref x), a5, a6, a7, a8] (.ref x :: st) h z bc bs Kr Kx) : QW V iL_law 1857 [a0, a1, a2, a3, some (.ref x), a5, a6, a7, a8] (st) h z bc bs Kr Kx := q_aload dL_law_1857 rfl kk
theorem dL_law_1859 : decode (i_b iL_law) 1859 = .ok (.iconst 0, 1) := by decide +kernel
theorem wL_law_1859  (kk : QW V iL_law 1860 [a0, a1, a2, a3, a4, a5, a6, a7, a8] (.int (0) :: st) h z bc bs Kr Kx) : QW V iL_law 1859 [a0, a1, a2, a3, a4, a5, a6, a7, a8] (st) h z bc bs Kr Kx := q_iconst dL_law_1859 (by decide) kk
theorem dL_law_1860 : decode (i_b iL_law) 1860 = .ok (.daload, 1) := by decide +kernel
theorem wL_law_1860 {a n j : Nat} {f : Nat → UInt64} {i : Int32} (ha : h a = some (.inl (3, n, .inr (.inr (.inr (.inl f)))))) (hi : i = nI j) (hj : j < n) (hn : n < 2147483648) (kk : QW V iL_law 1861 [a0, a1, a2, a3, a4, a5, a6, a7, a8] (.double (f j) :: st) h z bc bs Kr Kx) : QW V iL_law 1860 [a0, a1, a2, a3, a4, a5, a6, a7, a8] (.int i :: .ref a :: st) h z bc bs Kr Kx := q_dald dL_law_1860 ha hi hj hn kk
theorem dL_law_1861 : decode (i_b iL_law) 1861 = .ok (.dload 7, 2) := by decide +kernel
theorem wL_law_1861 {x : UInt64} (kk : QW V iL_law 1863 [a0, a1, a2, a3, a4, a5, a6, some (.double x), a8] (.double x :: st) h z bc bs Kr Kx) : QW V iL_law 1861 [a0, a1, a2, a3, a4, a5, a6, some (.double x), a8] (st) h z bc bs Kr Kx := q_dload dL_law_1861 rfl kk
theorem dL_law_1863 : decode (i_b iL_law) 1863 = .ok (.dcmp .l, 1) := by decide +kernel
theorem wL_law_1863 {x y : UInt64} (kk : QW V iL_law 1864 [a0, a1, a2, a3, a4, a5, a6, a7, a8] (.int (Op.cmpValue (FP.dcmp x y) .l) :: st) h z bc bs Kr Kx) : QW V iL_law 1863 [a0, a1, a2, a3, a4, a5, a6, a7, a8] (.double y :: .double x :: st) h z bc bs Kr Kx := q_dcmp dL_law_1863 kk
theorem dL_law_1864 : decode (i_b iL_law) 1864 = .ok (.ifCond .eq 25, 3) := by decide +kernel
theorem wL_law_1864 {x : Int32} (kt : x = 0 → QW V iL_law 1889 [a0, a1, a2, a3, a4, a5, a6, a7, a8] (st) h z bc bs Kr Kx) (kf : ¬ x = 0 → QW V iL_law 1867 [a0, a1, a2, a3, a4, a5, a6, a7, a8] (st) h z bc bs Kr Kx) : QW V iL_law 1864 [a0, a1, a2, a3, a4, a5, a6, a7, a8] (.int x :: st) h z bc bs Kr Kx := q_if_eq dL_law_1864 (by decide) kt kf
theorem dL_law_1867 : decode (i_b iL_law) 1867 = .ok (.aload 4, 2) := by decide +kernel
theorem wL_law_1867 {x : Nat} (kk : QW V iL_law 1869 [a0, a1, a2, a3, some (.ref x), a5, a6, a7, a8] (.ref x :: st) h z bc bs Kr Kx) : QW V iL_law 1867 [a0, a1, a2, a3, some (.ref x), a5, a6, a7, a8] (st) h z bc bs Kr Kx := q_aload dL_law_1867 rfl kk
theorem dL_law_1869 : decode (i_b iL_law) 1869 = .ok (.iconst 0, 1) := by decide +kernel
theorem wL_law_1869  (kk : QW V iL_law 1870 [a0, a1, a2, a3, a4, a5, a6, a7, a8] (.int (0) :: st) h z bc bs Kr Kx) : QW V iL_law 1869 [a0, a1, a2, a3, a4, a5, a6, a7, a8] (st) h z bc bs Kr Kx := q_iconst dL_law_1869 (by decide) kk
theorem dL_law_1870 : decode (i_b iL_law) 1870 = .ok (.daload, 1) := by decide +kernel
theorem wL_law_1870 {a n j : Nat} {f : Nat → UInt64} {i : Int32} (ha : h a = some (.inl (3, n, .inr (.inr (.inr (.inl f)))))) (hi : i = nI j) (hj : j < n) (hn : n < 2147483648) (kk : QW V iL_law 1871 [a0, a1, a2, a3, a4, a5, a6, a7, a8] (.double (f j) :: st) h z bc bs Kr Kx) : QW V iL_law 1870 [a0, a1, a2, a3, a4, a5, a6, a7, a8] (.int i :: .ref a :: st) h z bc bs Kr Kx := q_dald dL_law_1870 ha hi hj hn kk
theorem dL_law_1871 : decode (i_b iL_law) 1871 = .ok (.aload 4, 2) := by decide +kernel
theorem wL_law_1871 {x : Nat} (kk : QW V iL_law 1873 [a0, a1, a2, a3, some (.ref x), a5, a6, a7, a8] (.ref x :: st) h z bc bs Kr Kx) : QW V iL_law 1871 [a0, a1, a2, a3, some (.ref x), a5, a6, a7, a8] (st) h z bc bs Kr Kx := q_aload dL_law_1871 rfl kk
theorem dL_law_1873 : decode (i_b iL_law) 1873 = .ok (.iconst 0, 1) := by decide +kernel
theorem wL_law_1873  (kk : QW V iL_law 1874 [a0, a1, a2, a3, a4, a5, a6, a7, a8] (.int (0) :: st) h z bc bs Kr Kx) : QW V iL_law 1873 [a0, a1, a2, a3, a4, a5, a6, a7, a8] (st) h z bc bs Kr Kx := q_iconst dL_law_1873 (by decide) kk
theorem dL_law_1874 : decode (i_b iL_law) 1874 = .ok (.daload, 1) := by decide +kernel
theorem wL_law_1874 {a n j : Nat} {f : Nat → UInt64} {i : Int32} (ha : h a = some (.inl (3, n, .inr (.inr (.inr (.inl f)))))) (hi : i = nI j) (hj : j < n) (hn : n < 2147483648) (kk : QW V iL_law 1875 [a0, a1, a2, a3, a4, a5, a6, a7, a8] (.double (f j) :: st) h z bc bs Kr Kx) : QW V iL_law 1874 [a0, a1, a2, a3, a4, a5, a6, a7, a8] (.int i :: .ref a :: st) h z bc bs Kr Kx := q_dald dL_law_1874 ha hi hj hn kk
theorem dL_law_1875 : decode (i_b iL_law) 1875 = .ok (.dcmp .l, 1) := by decide +kernel
theorem wL_law_1875 {x y : UInt64} (kk : QW V iL_law 1876 [a0, a1, a2, a3, a4, a5, a6, a7, a8] (.int (Op.cmpValue (FP.dcmp x y) .l) :: st) h z bc bs Kr Kx) : QW V iL_law 1875 [a0, a1, a2, a3, a4, a5, a6, a7, a8] (.double y :: .double x :: st) h z bc bs Kr Kx := q_dcmp dL_law_1875 kk
theorem dL_law_1876 : decode (i_b iL_law) 1876 = .ok (.ifCond .eq 11, 3) := by decide +kernel
theorem wL_law_1876 {x : Int32} (kt : x = 0 → QW V iL_law 1887 [a0, a1, a2, a3, a4, a5, a6, a7, a8] (st) h z bc bs Kr Kx) (kf : ¬ x = 0 → QW V iL_law 1879 [a0, a1, a2, a3, a4, a5, a6, a7, a8] (st) h z bc bs Kr Kx) : QW V iL_law 1876 [a0, a1, a2, a3, a4, a5, a6, a7, a8] (.int x :: st) h z bc bs Kr Kx := q_if_eq dL_law_1876 (by decide) kt kf
theorem dL_law_1879 : decode (i_b iL_law) 1879 = .ok (.dload 7, 2) := by decide +kernel
theorem wL_law_1879 {x : UInt64} (kk : QW V iL_law 1881 [a0, a1, a2, a3, a4, a5, a6, some (.double x), a8] (.double x :: st) h z bc bs Kr Kx) : QW V iL_law 1879 [a0, a1, a2, a3, a4, a5, a6, some (.double x), a8] (st) h z bc bs Kr Kx := q_dload dL_law_1879 rfl kk
theorem dL_law_1881 : decode (i_b iL_law) 1881 = .ok (.dload 7, 2) := by decide +kernel
theorem wL_law_1881 {x : UInt64} (kk : QW V iL_law 1883 [a0, a1, a2, a3, a4, a5, a6, some (.double x), a8] (.double x :: st) h z bc bs Kr Kx) : QW V iL_law 1881 [a0, a1, a2, a3, a4, a5, a6, some (.double x), a8] (st) h z bc bs Kr Kx := q_dload dL_law_1881 rfl kk
theorem dL_law_1883 : decode (i_b iL_law) 1883 = .ok (.dcmp .l, 1) := by decide +kernel
theorem wL_law_1883 {x y : UInt64} (kk : QW V iL_law 1884 [a0, a1, a2, a3, a4, a5, a6, a7, a8] (.int (Op.cmpValue (FP.dcmp x y) .l) :: st) h z bc bs Kr Kx) : QW V iL_law 1883 [a0, a1, a2, a3, a4, a5, a6, a7, a8] (.double y :: .double x :: st) h z bc bs Kr Kx := q_dcmp dL_law_1883 kk
theorem dL_law_1884 : decode (i_b iL_law) 1884 = .ok (.ifCond .ne 5, 3) := by decide +kernel
theorem wL_law_1884 {x : Int32} (kt : ¬ x = 0 → QW V iL_law 1889 [a0, a1, a2, a3, a4, a5, a6, a7, a8] (st) h z bc bs Kr Kx) (kf : x = 0 → QW V iL_law 1887 [a0, a1, a2, a3, a4, a5, a6, a7, a8] (st) h z bc bs Kr Kx) : QW V iL_law 1884 [a0, a1, a2, a3, a4, a5, a6, a7, a8] (.int x :: st) h z bc bs Kr Kx := q_if_ne dL_law_1884 (by decide) kt kf
theorem dL_law_1887 : decode (i_b iL_law) 1887 = .ok (.iconst 0, 1) := by decide +kernel
theorem wL_law_1887  (kk : QW V iL_law 1888 [a0, a1, a2, a3, a4, a5, a6, a7, a8] (.int (0) :: st) h z bc bs Kr Kx) : QW V iL_law 1887 [a0, a1, a2, a3, a4, a5, a6, a7, a8] (st) h z bc bs Kr Kx := q_iconst dL_law_1887 (by decide) kk
theorem dL_law_1888 : decode (i_b iL_law) 1888 = .ok (.ireturn, 1) := by decide +kernel
theorem wL_law_1888 {x : Int32} {P : Int32 → q_H → Option Nat → Prop} (hk : P x h z) (hn : narrow .boolean (.int x) = .int x := by first | rfl | exact q_b_n _) : QW V iL_law 1888 [a0, a1, a2, a3, a4, a5, a6, a7, a8] [.int x] h z bc bs (q_Ki P) Kx := q_iret dL_law_1888 rfl hn ⟨x, rfl, hk⟩
theorem dL_law_1889 : decode (i_b iL_law) 1889 = .ok (.goto 862, 3) := by decide +kernel
theorem wL_law_1889  (kk : QW V iL_law 2751 [a0, a1, a2, a3, a4, a5, a6, a7, a8] (st) h z bc bs Kr Kx) : QW V iL_law 1889 [a0, a1, a2, a3, a4, a5, a6, a7, a8] (st) h z bc bs Kr Kx := q_goto dL_law_1889 (by decide) kk
theorem dL_law_1892 : decode (i_b iL_law) 1892 = .ok (.aload_n 1, 1) := by decide +kernel
theorem wL_law_1892 {x : Nat} (kk : QW V iL_law 1893 [a0, some (.ref x), a2, a3, a4, a5, a6, a7, a8] (.ref x :: st) h z bc bs Kr Kx) : QW V iL_law 1892 [a0, some (.ref x), a2, a3, a4, a5, a6, a7, a8] (st) h z bc bs Kr Kx := q_aload_n dL_law_1892 rfl rfl kk
theorem dL_law_1893 : decode (i_b iL_law) 1893 = .ok (.aload_n 0, 1) := by decide +kernel
theorem wL_law_1893 {x : Nat} (kk : QW V iL_law 1894 [some (.ref x), a1, a2, a3, a4, a5, a6, a7, a8] (.ref x :: st) h z bc bs Kr Kx) : QW V iL_law 1893 [some (.ref x), a1, a2, a3, a4, a5, a6, a7, a8] (st) h z bc bs Kr Kx := q_aload_n dL_law_1893 rfl rfl kk
theorem dL_law_1894 : decode (i_b iL_law) 1894 = .ok (.iload 5, 2) := by decide +kernel
theorem wL_law_1894 {x : Int32} (kk : QW V iL_law 1896 [a0, a1, a2, a3, a4, some (.int x), a6, a7, a8] (.int x :: st) h z bc bs Kr Kx) : QW V iL_law 1894 [a0, a1, a2, a3, a4, some (.int x), a6, a7, a8] (st) h z bc bs Kr Kx := q_iload dL_law_1894 rfl kk
theorem dL_law_1896 : decode (i_b iL_law) 1896 = .ok (.iconst 1, 1) := by decide +kernel
theorem wL_law_1896  (kk : QW V iL_law 1897 [a0, a1, a2, a3, a4, a5, a6, a7, a8] (.int (1) :: st) h z bc bs Kr Kx) : QW V iL_law 1896 [a0, a1, a2, a3, a4, a5, a6, a7, a8] (st) h z bc bs Kr Kx := q_iconst dL_law_1896 (by decide) kk
theorem dL_law_1897 : decode (i_b iL_law) 1897 = .ok (.iadd, 1) := by decide +kernel
theorem wL_law_1897 {x y : Int32} (kk : QW V iL_law 1898 [a0, a1, a2, a3, a4, a5, a6, a7, a8] (.int (x + y) :: st) h z bc bs Kr Kx) : QW V iL_law 1897 [a0, a1, a2, a3, a4, a5, a6, a7, a8] (.int y :: .int x :: st) h z bc bs Kr Kx := q_iadd dL_law_1897 kk
theorem dL_law_1898 : decode (i_b iL_law) 1898 = .ok (.iaload, 1) := by decide +kernel
theorem wL_law_1898 {j : Nat} {i : Int32} (hi : i = nI j) (hj : j < e_sL V) (hn : e_sL V < 2147483648) (kk : QW V iL_law 1899 [a0, a1, a2, a3, a4, a5, a6, a7, a8] (.int (e_xs V j) :: st) h z bc bs Kr Kx) : QW V iL_law 1898 [a0, a1, a2, a3, a4, a5, a6, a7, a8] (.int i :: .ref (e_sb V) :: st) h z bc bs Kr Kx := q_sld dL_law_1898 hi hj hn kk
theorem dL_law_1899 : decode (i_b iL_law) 1899 = .ok (.aload_n 0, 1) := by decide +kernel
theorem wL_law_1899 {x : Nat} (kk : QW V iL_law 1900 [some (.ref x), a1, a2, a3, a4, a5, a6, a7, a8] (.ref x :: st) h z bc bs Kr Kx) : QW V iL_law 1899 [some (.ref x), a1, a2, a3, a4, a5, a6, a7, a8] (st) h z bc bs Kr Kx := q_aload_n dL_law_1899 rfl rfl kk
theorem dL_law_1900 : decode (i_b iL_law) 1900 = .ok (.iload 5, 2) := by decide +kernel
theorem wL_law_1900 {x : Int32} (kk : QW V iL_law 1902 [a0, a1, a2, a3, a4, some (.int x), a6, a7, a8] (.int x :: st) h z bc bs Kr Kx) : QW V iL_law 1900 [a0, a1, a2, a3, a4, some (.int x), a6, a7, a8] (st) h z bc bs Kr Kx := q_iload dL_law_1900 rfl kk
theorem dL_law_1902 : decode (i_b iL_law) 1902 = .ok (.iconst 2, 1) := by decide +kernel
theorem wL_law_1902  (kk : QW V iL_law 1903 [a0, a1, a2, a3, a4, a5, a6, a7, a8] (.int (2) :: st) h z bc bs Kr Kx) : QW V iL_law 1902 [a0, a1, a2, a3, a4, a5, a6, a7, a8] (st) h z bc bs Kr Kx := q_iconst dL_law_1902 (by decide) kk
theorem dL_law_1903 : decode (i_b iL_law) 1903 = .ok (.iadd, 1) := by decide +kernel
theorem wL_law_1903 {x y : Int32} (kk : QW V iL_law 1904 [a0, a1, a2, a3, a4, a5, a6, a7, a8] (.int (x + y) :: st) h z bc bs Kr Kx) : QW V iL_law 1903 [a0, a1, a2, a3, a4, a5, a6, a7, a8] (.int y :: .int x :: st) h z bc bs Kr Kx := q_iadd dL_law_1903 kk
theorem dL_law_1904 : decode (i_b iL_law) 1904 = .ok (.iaload, 1) := by decide +kernel
theorem wL_law_1904 {j : Nat} {i : Int32} (hi : i = nI j) (hj : j < e_sL V) (hn : e_sL V < 2147483648) (kk : QW V iL_law 1905 [a0, a1, a2, a3, a4, a5, a6, a7, a8] (.int (e_xs V j) :: st) h z bc bs Kr Kx) : QW V iL_law 1904 [a0, a1, a2, a3, a4, a5, a6, a7, a8] (.int i :: .ref (e_sb V) :: st) h z bc bs Kr Kx := q_sld dL_law_1904 hi hj hn kk
theorem dL_law_1905 : decode (i_b iL_law) 1905 = .ok (.aload_n 0, 1) := by decide +kernel
theorem wL_law_1905 {x : Nat} (kk : QW V iL_law 1906 [some (.ref x), a1, a2, a3, a4, a5, a6, a7, a8] (.ref x :: st) h z bc bs Kr Kx) : QW V iL_law 1905 [some (.ref x), a1, a2, a3, a4, a5, a6, a7, a8] (st) h z bc bs Kr Kx := q_aload_n dL_law_1905 rfl rfl kk
theorem dL_law_1906 : decode (i_b iL_law) 1906 = .ok (.iload 5, 2) := by decide +kernel
theorem wL_law_1906 {x : Int32} (kk : QW V iL_law 1908 [a0, a1, a2, a3, a4, some (.int x), a6, a7, a8] (.int x :: st) h z bc bs Kr Kx) : QW V iL_law 1906 [a0, a1, a2, a3, a4, some (.int x), a6, a7, a8] (st) h z bc bs Kr Kx := q_iload dL_law_1906 rfl kk
theorem dL_law_1908 : decode (i_b iL_law) 1908 = .ok (.iconst 3, 1) := by decide +kernel
theorem wL_law_1908  (kk : QW V iL_law 1909 [a0, a1, a2, a3, a4, a5, a6, a7, a8] (.int (3) :: st) h z bc bs Kr Kx) : QW V iL_law 1908 [a0, a1, a2, a3, a4, a5, a6, a7, a8] (st) h z bc bs Kr Kx := q_iconst dL_law_1908 (by decide) kk
theorem dL_law_1909 : decode (i_b iL_law) 1909 = .ok (.iadd, 1) := by decide +kernel
theorem wL_law_1909 {x y : Int32} (kk : QW V iL_law 1910 [a0, a1, a2, a3, a4, a5, a6, a7, a8] (.int (x + y) :: st) h z bc bs Kr Kx) : QW V iL_law 1909 [a0, a1, a2, a3, a4, a5, a6, a7, a8] (.int y :: .int x :: st) h z bc bs Kr Kx := q_iadd dL_law_1909 kk
theorem dL_law_1910 : decode (i_b iL_law) 1910 = .ok (.iaload, 1) := by decide +kernel
theorem wL_law_1910 {j : Nat} {i : Int32} (hi : i = nI j) (hj : j < e_sL V) (hn : e_sL V < 2147483648) (kk : QW V iL_law 1911 [a0, a1, a2, a3, a4, a5, a6, a7, a8] (.int (e_xs V j) :: st) h z bc bs Kr Kx) : QW V iL_law 1910 [a0, a1, a2, a3, a4, a5, a6, a7, a8] (.int i :: .ref (e_sb V) :: st) h z bc bs Kr Kx := q_sld dL_law_1910 hi hj hn kk
theorem dL_law_1911 : decode (i_b iL_law) 1911 = .ok (.aload_n 3, 1) := by decide +kernel
theorem wL_law_1911 {x : Nat} (kk : QW V iL_law 1912 [a0, a1, a2, some (.ref x), a4, a5, a6, a7, a8] (.ref x :: st) h z bc bs Kr Kx) : QW V iL_law 1911 [a0, a1, a2, some (.ref x), a4, a5, a6, a7, a8] (st) h z bc bs Kr Kx := q_aload_n dL_law_1911 rfl rfl kk
theorem dL_law_1912 : decode (i_b iL_law) 1912 = .ok (.invokestatic 240, 3) := by decide +kernel
theorem wL_law_1912 {x0 : Nat} {x1 : Int32} {x2 : Int32} {x3 : Int32} {x4 : Nat} (hm : QMi V iL_signCode [.ref x0, .int x1, .int x2, .int x3, .ref x4] h z (fun r h' z' => QW V iL_law 1915 [a0, a1, a2, a3, a4, a5, a6, a7, a8] (.int r :: st) h' z' bc bs Kr Kx) Kx) (hW : (st.map fun v => v.category).sum ≤ 8 := by exact Nat.le_of_ble_eq_true rfl) : QW V iL_law 1912 [a0, a1, a2, a3, a4, a5, a6, a7, a8] (.ref x4 :: .int x3 :: .int x2 :: .int x1 :: .ref x0 :: st) h z (bc + 4) (bs + 24) Kr Kx := q_callSX (y' := iL_signCode) (As := [.ref x0, .int x1, .int x2, .int x3, .ref x4]) (rest := st) dL_law_1912 k5_73 k5_74 k1_0 hhL_signCode (by decide) hdL_signCode rfl (Nat.le_of_ble_eq_true rfl) (Nat.le_of_ble_eq_true rfl) hW rfl (QMi.run hm)
theorem dL_law_1915 : decode (i_b iL_law) 1915 = .ok (.istore 6, 2) := by decide +kernel
theorem wL_law_1915 {x : Int32} (kk : QW V iL_law 1917 [a0, a1, a2, a3, a4, a5, some (.int x), a7, a8] (st) h z bc bs Kr Kx) (hp : q_n2 a5 = true := by rfl) : QW V iL_law 1915 [a0, a1, a2, a3, a4, a5, a6, a7, a8] (.int x :: st) h z bc bs Kr Kx := q_istore dL_law_1915 (Nat.le_of_ble_eq_true rfl) hp kk
theorem dL_law_1917 : decode (i_b iL_law) 1917 = .ok (.aload_n 2, 1) := by decide +kernel
theorem wL_law_1917 {x : Nat} (kk : QW V iL_law 1918 [a0, a1, some (.ref x), a3, a4, a5, a6, a7, a8] (.ref x :: st) h z bc bs Kr Kx) : QW V iL_law 1917 [a0, a1, some (.ref x), a3, a4, a5, a6, a7, a8] (st) h z bc bs Kr Kx := q_aload_n dL_law_1917 rfl rfl kk
theorem dL_law_1918 : decode (i_b iL_law) 1918 = .ok (.aload_n 0, 1) := by decide +kernel
theorem wL_law_1918 {x : Nat} (kk : QW V iL_law 1919 [some (.ref x), a1, a2, a3, a4, a5, a6, a7, a8] (.ref x :: st) h z bc bs Kr Kx) : QW V iL_law 1918 [some (.ref x), a1, a2, a3, a4, a5, a6, a7, a8] (st) h z bc bs Kr Kx := q_aload_n dL_law_1918 rfl rfl kk
theorem dL_law_1919 : decode (i_b iL_law) 1919 = .ok (.iload 5, 2) := by decide +kernel
theorem wL_law_1919 {x : Int32} (kk : QW V iL_law 1921 [a0, a1, a2, a3, a4, some (.int x), a6, a7, a8] (.int x :: st) h z bc bs Kr Kx) : QW V iL_law 1919 [a0, a1, a2, a3, a4, some (.int x), a6, a7, a8] (st) h z bc bs Kr Kx := q_iload dL_law_1919 rfl kk
theorem dL_law_1921 : decode (i_b iL_law) 1921 = .ok (.iconst 1, 1) := by decide +kernel
theorem wL_law_1921  (kk : QW V iL_law 1922 [a0, a1, a2, a3, a4, a5, a6, a7, a8] (.int (1) :: st) h z bc bs Kr Kx) : QW V iL_law 1921 [a0, a1, a2, a3, a4, a5, a6, a7, a8] (st) h z bc bs Kr Kx := q_iconst dL_law_1921 (by decide) kk
theorem dL_law_1922 : decode (i_b iL_law) 1922 = .ok (.iadd, 1) := by decide +kernel
theorem wL_law_1922 {x y : Int32} (kk : QW V iL_law 1923 [a0, a1, a2, a3, a4, a5, a6, a7, a8] (.int (x + y) :: st) h z bc bs Kr Kx) : QW V iL_law 1922 [a0, a1, a2, a3, a4, a5, a6, a7, a8] (.int y :: .int x :: st) h z bc bs Kr Kx := q_iadd dL_law_1922 kk
theorem dL_law_1923 : decode (i_b iL_law) 1923 = .ok (.iaload, 1) := by decide +kernel
theorem wL_law_1923 {j : Nat} {i : Int32} (hi : i = nI j) (hj : j < e_sL V) (hn : e_sL V < 2147483648) (kk : QW V iL_law 1924 [a0, a1, a2, a3, a4, a5, a6, a7, a8] (.int (e_xs V j) :: st) h z bc bs Kr Kx) : QW V iL_law 1923 [a0, a1, a2, a3, a4, a5, a6, a7, a8] (.int i :: .ref (e_sb V) :: st) h z bc bs Kr Kx := q_sld dL_law_1923 hi hj hn kk
theorem dL_law_1924 : decode (i_b iL_law) 1924 = .ok (.aload_n 0, 1) := by decide +kernel
theorem wL_law_1924 {x : Nat} (kk : QW V iL_law 1925 [some (.ref x), a1, a2, a3, a4, a5, a6, a7, a8] (.ref x :: st) h z bc bs Kr Kx) : QW V iL_law 1924 [some (.ref x), a1, a2, a3, a4, a5, a6, a7, a8] (st) h z bc bs Kr Kx := q_aload_n dL_law_1924 rfl rfl kk
theorem dL_law_1925 : decode (i_b iL_law) 1925 = .ok (.iload 5, 2) := by decide +kernel
theorem wL_law_1925 {x : Int32} (kk : QW V iL_law 1927 [a0, a1, a2, a3, a4, some (.int x), a6, a7, a8] (.int x :: st) h z bc bs Kr Kx) : QW V iL_law 1925 [a0, a1, a2, a3, a4, some (.int x), a6, a7, a8] (st) h z bc bs Kr Kx := q_iload dL_law_1925 rfl kk
theorem dL_law_1927 : decode (i_b iL_law) 1927 = .ok (.iconst 2, 1) := by decide +kernel
theorem wL_law_1927  (kk : QW V iL_law 1928 [a0, a1, a2, a3, a4, a5, a6, a7, a8] (.int (2) :: st) h z bc bs Kr Kx) : QW V iL_law 1927 [a0, a1, a2, a3, a4, a5, a6, a7, a8] (st) h z bc bs Kr Kx := q_iconst dL_law_1927 (by decide) kk
theorem dL_law_1928 : decode (i_b iL_law) 1928 = .ok (.iadd, 1) := by decide +kernel
theorem wL_law_1928 {x y : Int32} (kk : QW V iL_law 1929 [a0, a1, a2, a3, a4, a5, a6, a7, a8] (.int (x + y) :: st) h z bc bs Kr Kx) : QW V iL_law 1928 [a0, a1, a2, a3, a4, a5, a6, a7, a8] (.int y :: .int x :: st) h z bc bs Kr Kx := q_iadd dL_law_1928 kk
theorem dL_law_1929 : decode (i_b iL_law) 1929 = .ok (.iaload, 1) := by decide +kernel
theorem wL_law_1929 {j : Nat} {i : Int32} (hi : i = nI j) (hj : j < e_sL V) (hn : e_sL V < 2147483648) (kk : QW V iL_law 1930 [a0, a1, a2, a3, a4, a5, a6, a7, a8] (.int (e_xs V j) :: st) h z bc bs Kr Kx) : QW V iL_law 1929 [a0, a1, a2, a3, a4, a5, a6, a7, a8] (.int i :: .ref (e_sb V) :: st) h z bc bs Kr Kx := q_sld dL_law_1929 hi hj hn kk
theorem dL_law_1930 : decode (i_b iL_law) 1930 = .ok (.aload_n 0, 1) := by decide +kernel
theorem wL_law_1930 {x : Nat} (kk : QW V iL_law 1931 [some (.ref x), a1, a2, a3, a4, a5, a6, a7, a8] (.ref x :: st) h z bc bs Kr Kx) : QW V iL_law 1930 [some (.ref x), a1, a2, a3, a4, a5, a6, a7, a8] (st) h z bc bs Kr Kx := q_aload_n dL_law_1930 rfl rfl kk
theorem dL_law_1931 : decode (i_b iL_law) 1931 = .ok (.iload 5, 2) := by decide +kernel
theorem wL_law_1931 {x : Int32} (kk : QW V iL_law 1933 [a0, a1, a2, a3, a4, some (.int x), a6, a7, a8] (.int x :: st) h z bc bs Kr Kx) : QW V iL_law 1931 [a0, a1, a2, a3, a4, some (.int x), a6, a7, a8] (st) h z bc bs Kr Kx := q_iload dL_law_1931 rfl kk
theorem dL_law_1933 : decode (i_b iL_law) 1933 = .ok (.iconst 3, 1) := by decide +kernel
theorem wL_law_1933  (kk : QW V iL_law 1934 [a0, a1, a2, a3, a4, a5, a6, a7, a8] (.int (3) :: st) h z bc bs Kr Kx) : QW V iL_law 1933 [a0, a1, a2, a3, a4, a5, a6, a7, a8] (st) h z bc bs Kr Kx := q_iconst dL_law_1933 (by decide) kk
theorem dL_law_1934 : decode (i_b iL_law) 1934 = .ok (.iadd, 1) := by decide +kernel
theorem wL_law_1934 {x y : Int32} (kk : QW V iL_law 1935 [a0, a1, a2, a3, a4, a5, a6, a7, a8] (.int (x + y) :: st) h z bc bs Kr Kx) : QW V iL_law 1934 [a0, a1, a2, a3, a4, a5, a6, a7, a8] (.int y :: .int x :: st) h z bc bs Kr Kx := q_iadd dL_law_1934 kk
theorem dL_law_1935 : decode (i_b iL_law) 1935 = .ok (.iaload, 1) := by decide +kernel
theorem wL_law_1935 {j : Nat} {i : Int32} (hi : i = nI j) (hj : j < e_sL V) (hn : e_sL V < 2147483648) (kk : QW V iL_law 1936 [a0, a1, a2, a3, a4, a5, a6, a7, a8] (.int (e_xs V j) :: st) h z bc bs Kr Kx) : QW V iL_law 1935 [a0, a1, a2, a3, a4, a5, a6, a7, a8] (.int i :: .ref (e_sb V) :: st) h z bc bs Kr Kx := q_sld dL_law_1935 hi hj hn kk
theorem dL_law_1936 : decode (i_b iL_law) 1936 = .ok (.invokevirtual 242, 3) := by decide +kernel
theorem wL_law_1936 {a : Nat} {fs : List Value} {x0 : Int32} {x1 : Int32} {x2 : Int32} (hb : h a = some (.inr (10, fs))) (hm : QMi V iX9_signCode [.ref a, .int x0, .int x1, .int x2] h z (fun r h' z' => QW V iL_law 1939 [a0, a1, a2, a3, a4, a5, a6, a7, a8] (.int r :: st) h' z' bc bs Kr Kx) Kx) (hW : (st.map fun v => v.category).sum ≤ 8 := by exact Nat.le_of_ble_eq_true rfl) : QW V iL_law 1936 [a0, a1, a2, a3, a4, a5, a6, a7, a8] (.int x2 :: .int x1 :: .int x0 :: .ref a :: st) h z bc bs Kr Kx := q_callV (y' := iX9_signCode) (As := [.int x0, .int x1, .int x2]) (rest := st) dL_law_1936 k7_238 k7_239 k8_0 k1_10 hhX9_signCode rfl hdX9_signCode rfl rfl (Nat.le_of_ble_eq_true rfl) (Nat.le_of_ble_eq_true rfl) hW rfl hb (QMi.run hm)
theorem dL_law_1939 : decode (i_b iL_law) 1939 = .ok (.istore 7, 2) := by decide +kernel
theorem wL_law_1939 {x : Int32} (kk : QW V iL_law 1941 [a0, a1, a2, a3, a4, a5, a6, some (.int x), a8] (st) h z bc bs Kr Kx) (hp : q_n2 a6 = true := by rfl) : QW V iL_law 1939 [a0, a1, a2, a3, a4, a5, a6, a7, a8] (.int x :: st) h z bc bs Kr Kx := q_istore dL_law_1939 (Nat.le_of_ble_eq_true rfl) hp kk
theorem dL_law_1941 : decode (i_b iL_law) 1941 = .ok (.aload_n 2, 1) := by decide +kernel
theorem wL_law_1941 {x : Nat} (kk : QW V iL_law 1942 [a0, a1, some (.ref x), a3, a4, a5, a6, a7, a8] (.ref x :: st) h z bc bs Kr Kx) : QW V iL_law 1941 [a0, a1, some (.ref x), a3, a4, a5, a6, a7, a8] (st) h z bc bs Kr Kx := q_aload_n dL_law_1941 rfl rfl kk
theorem dL_law_1942 : decode (i_b iL_law) 1942 = .ok (.invokevirtual 150, 3) := by decide +kernel
theorem wL_law_1942 {a : Nat} {fs : List Value}  (hb : h a = some (.inr (10, fs))) (hm : QMi V iX9_thrown [.ref a] h z (fun r h' z' => QW V iL_law 1945 [a0, a1, a2, a3, a4, a5, a6, a7, a8] (.int r :: st) h' z' bc bs Kr Kx) Kx) (hW : (st.map fun v => v.category).sum ≤ 8 := by exact Nat.le_of_ble_eq_true rfl) : QW V iL_law 1942 [a0, a1, a2, a3, a4, a5, a6, a7, a8] (.ref a :: st) h z bc bs Kr Kx := q_callV (y' := iX9_thrown) (As := []) (rest := st) dL_law_1942 k6_80 k6_81 k6_82 k1_10 hhX9_thrown rfl hdX9_thrown rfl rfl (Nat.le_of_ble_eq_true rfl) (Nat.le_of_ble_eq_true rfl) hW rfl hb (QMi.run hm)
theorem dL_law_1945 : decode (i_b iL_law) 1945 = .ok (.iload 6, 2) := by decide +kernel
theorem wL_law_1945 {x : Int32} (kk : QW V iL_law 1947 [a0, a1, a2, a3, a4, a5, some (.int x), a7, a8] (.int x :: st) h z bc bs Kr Kx) : QW V iL_law 1945 [a0, a1, a2, a3, a4, a5, some (.int x), a7, a8] (st) h z bc bs Kr Kx := q_iload dL_law_1945 rfl kk
theorem dL_law_1947 : decode (i_b iL_law) 1947 = .ok (.if_icmp .eq 5, 3) := by decide +kernel
theorem wL_law_1947 {x y : Int32} (kt : x = y → QW V iL_law 1952 [a0, a1, a2, a3, a4, a5, a6, a7, a8] (st) h z bc bs Kr Kx) (kf : ¬ x = y → QW V iL_law 1950 [a0, a1, a2, a3, a4, a5, a6, a7, a8] (st) h z bc bs Kr Kx) : QW V iL_law 1947 [a0, a1, a2, a3, a4, a5, a6, a7, a8] (.int y :: .int x :: st) h z bc bs Kr Kx := q_icmp_eq dL_law_1947 (by decide) kt kf
theorem dL_law_1950 : decode (i_b iL_law) 1950 = .ok (.iconst 0, 1) := by decide +kernel
theorem wL_law_1950  (kk : QW V iL_law 1951 [a0, a1, a2, a3, a4, a5, a6, a7, a8] (.int (0) :: st) h z bc bs Kr Kx) : QW V iL_law 1950 [a0, a1, a2, a3, a4, a5, a6, a7, a8] (st) h z bc bs Kr Kx := q_iconst dL_law_1950 (by decide) kk
theorem dL_law_1951 : decode (i_b iL_law) 1951 = .ok (.ireturn, 1) := by decide +kernel
theorem wL_law_1951 {x : Int32} {P : Int32 → q_H → Option Nat → Prop} (hk : P x h z) (hn : narrow .boolean (.int x) = .int x := by first | rfl | exact q_b_n _) : QW V iL_law 1951 [a0, a1, a2, a3, a4, a5, a6, a7, a8] [.int x] h z bc bs (q_Ki P) Kx := q_iret dL_law_1951 rfl hn ⟨x, rfl, hk⟩
theorem dL_law_1952 : decode (i_b iL_law) 1952 = .ok (.iload 6, 2) := by decide +kernel
theorem wL_law_1952 {x : Int32} (kk : QW V iL_law 1954 [a0, a1, a2, a3, a4, a5, some (.int x), a7, a8] (.int x :: st) h z bc bs Kr Kx) : QW V iL_law 1952 [a0, a1, a2, a3, a4, a5, some (.int x), a7, a8] (st) h z bc bs Kr Kx := q_iload dL_law_1952 rfl kk
theorem dL_law_1954 : decode (i_b iL_law) 1954 = .ok (.ifCond .ne 15, 3) := by decide +kernel
theorem wL_law_1954 {x : Int32} (kt : ¬ x = 0 → QW V iL_law 1969 [a0, a1, a2, a3, a4, a5, a6, a7, a8] (st) h z bc bs Kr Kx) (kf : x = 0 → QW V iL_law 1957 [a0, a1, a2, a3, a4, a5, a6, a7, a8] (st) h z bc bs Kr Kx) : QW V iL_law 1954 [a0, a1, a2, a3, a4, a5, a6, a7, a8] (.int x :: st) h z bc bs Kr Kx := q_if_ne dL_law_1954 (by decide) kt kf
theorem dL_law_1957 : decode (i_b iL_law) 1957 = .ok (.aload_n 3, 1) := by decide +kernel
theorem wL_law_1957 {x : Nat} (kk : QW V iL_law 1958 [a0, a1, a2, some (.ref x), a4, a5, a6, a7, a8] (.ref x :: st) h z bc bs Kr Kx) : QW V iL_law 1957 [a0, a1, a2, some (.ref x), a4, a5, a6, a7, a8] (st) h z bc bs Kr Kx := q_aload_n dL_law_1957 rfl rfl kk
theorem dL_law_1958 : decode (i_b iL_law) 1958 = .ok (.iconst 0, 1) := by decide +kernel
theorem wL_law_1958  (kk : QW V iL_law 1959 [a0, a1, a2, a3, a4, a5, a6, a7, a8] (.int (0) :: st) h z bc bs Kr Kx) : QW V iL_law 1958 [a0, a1, a2, a3, a4, a5, a6, a7, a8] (st) h z bc bs Kr Kx := q_iconst dL_law_1958 (by decide) kk
theorem dL_law_1959 : decode (i_b iL_law) 1959 = .ok (.laload, 1) := by decide +kernel
theorem wL_law_1959 {a n j : Nat} {f : Nat → Int64} {i : Int32} (ha : h a = some (.inl (2, n, .inr (.inl f)))) (hi : i = nI j) (hj : j < n) (hn : n < 2147483648) (kk : QW V iL_law 1960 [a0, a1, a2, a3, a4, a5, a6, a7, a8] (.long (f j) :: st) h z bc bs Kr Kx) : QW V iL_law 1959 [a0, a1, a2, a3, a4, a5, a6, a7, a8] (.int i :: .ref a :: st) h z bc bs Kr Kx := q_lald dL_law_1959 ha hi hj hn kk
theorem dL_law_1960 : decode (i_b iL_law) 1960 = .ok (.iload 7, 2) := by decide +kernel
theorem wL_law_1960 {x : Int32} (kk : QW V iL_law 1962 [a0, a1, a2, a3, a4, a5, a6, some (.int x), a8] (.int x :: st) h z bc bs Kr Kx) : QW V iL_law 1960 [a0, a1, a2, a3, a4, a5, a6, some (.int x), a8] (st) h z bc bs Kr Kx := q_iload dL_law_1960 rfl kk
theorem dL_law_1962 : decode (i_b iL_law) 1962 = .ok (.i2l, 1) := by decide +kernel
theorem wL_law_1962 {x : Int32} (kk : QW V iL_law 1963 [a0, a1, a2, a3, a4, a5, a6, a7, a8] (.long (x.toInt64) :: st) h z bc bs Kr Kx) : QW V iL_law 1962 [a0, a1, a2, a3, a4, a5, a6, a7, a8] (.int x :: st) h z bc bs Kr Kx := q_i2l dL_law_1962 kk
theorem dL_law_1963 : decode (i_b iL_law) 1963 = .ok (.lcmp, 1) := by decide +kernel
theorem dL_law_1964 : decode (i_b iL_law) 1964 = .ok (.ifCond .eq 5, 3) := by decide +kernel
theorem wL_law_1963 {x y : Int64} (kt : x = y → QW V iL_law 1969 [a0, a1, a2, a3, a4, a5, a6, a7, a8] (st) h z bc bs Kr Kx) (kf : ¬ x = y → QW V iL_law 1967 [a0, a1, a2, a3, a4, a5, a6, a7, a8] (st) h z bc bs Kr Kx) : QW V iL_law 1963 [a0, a1, a2, a3, a4, a5, a6, a7, a8] (.long y :: .long x :: st) h z bc bs Kr Kx := q_lcmp dL_law_1963 (q_if_eq dL_law_1964 (by decide) (fun q => kt ((q_lc_eq x y).mp q)) (fun q => kf (q_lcn_eq q)))
theorem dL_law_1967 : decode (i_b iL_law) 1967 = .ok (.iconst 0, 1) := by decide +kernel
theorem wL_law_1967  (kk : QW V iL_law 1968 [a0, a1, a2, a3, a4, a5, a6, a7, a8] (.int (0) :: st) h z bc bs Kr Kx) : QW V iL_law 1967 [a0, a1, a2, a3, a4, a5, a6, a7, a8] (st) h z bc bs Kr Kx := q_iconst dL_law_1967 (by decide) kk
theorem dL_law_1968 : decode (i_b iL_law) 1968 = .ok (.ireturn, 1) := by decide +kernel
theorem wL_law_1968 {x : Int32} {P : Int32 → q_H → Option Nat → Prop} (hk : P x h z) (hn : narrow .boolean (.int x) = .int x := by first | rfl | exact q_b_n _) : QW V iL_law 1968 [a0, a1, a2, a3, a4, a5, a6, a7, a8] [.int x] h z bc bs (q_Ki P) Kx := q_iret dL_law_1968 rfl hn ⟨x, rfl, hk⟩
theorem dL_law_1969 : decode (i_b iL_law) 1969 = .ok (.goto 782, 3) := by decide +kernel
theorem wL_law_1969  (kk : QW V iL_law 2751 [a0, a1, a2, a3, a4, a5, a6, a7, a8] (st) h z bc bs Kr Kx) : QW V iL_law 1969 [a0, a1, a2, a3, a4, a5, a6, a7, a8] (st) h z bc bs Kr Kx := q_goto dL_law_1969 (by decide) kk
theorem dL_law_1972 : decode (i_b iL_law) 1972 = .ok (.aload_n 1, 1) := by decide +kernel
theorem wL_law_1972 {x : Nat} (kk : QW V iL_law 1973 [a0, some (.ref x), a2, a3, a4, a5, a6, a7, a8] (.ref x :: st) h z bc bs Kr Kx) : QW V iL_law 1972 [a0, some (.ref x), a2, a3, a4, a5, a6, a7, a8] (st) h z bc bs Kr Kx := q_aload_n dL_law_1972 rfl rfl kk
theorem dL_law_1973 : decode (i_b iL_law) 1973 = .ok (.aload_n 0, 1) := by decide +kernel
theorem wL_law_1973 {x : Nat} (kk : QW V iL_law 1974 [some (.ref x), a1, a2, a3, a4, a5, a6, a7, a8] (.ref x :: st) h z bc bs Kr Kx) : QW V iL_law 1973 [some (.ref x), a1, a2, a3, a4, a5, a6, a7, a8] (st) h z bc bs Kr Kx := q_aload_n dL_law_1973 rfl rfl kk
theorem dL_law_1974 : decode (i_b iL_law) 1974 = .ok (.iload 5, 2) := by decide +kernel
theorem wL_law_1974 {x : Int32} (kk : QW V iL_law 1976 [a0, a1, a2, a3, a4, some (.int x), a6, a7, a8] (.int x :: st) h z bc bs Kr Kx) : QW V iL_law 1974 [a0, a1, a2, a3, a4, some (.int x), a6, a7, a8] (st) h z bc bs Kr Kx := q_iload dL_law_1974 rfl kk
theorem dL_law_1976 : decode (i_b iL_law) 1976 = .ok (.iconst 1, 1) := by decide +kernel
theorem wL_law_1976  (kk : QW V iL_law 1977 [a0, a1, a2, a3, a4, a5, a6, a7, a8] (.int (1) :: st) h z bc bs Kr Kx) : QW V iL_law 1976 [a0, a1, a2, a3, a4, a5, a6, a7, a8] (st) h z bc bs Kr Kx := q_iconst dL_law_1976 (by decide) kk
theorem dL_law_1977 : decode (i_b iL_law) 1977 = .ok (.iadd, 1) := by decide +kernel
theorem wL_law_1977 {x y : Int32} (kk : QW V iL_law 1978 [a0, a1, a2, a3, a4, a5, a6, a7, a8] (.int (x + y) :: st) h z bc bs Kr Kx) : QW V iL_law 1977 [a0, a1, a2, a3, a4, a5, a6, a7, a8] (.int y :: .int x :: st) h z bc bs Kr Kx := q_iadd dL_law_1977 kk
theorem dL_law_1978 : decode (i_b iL_law) 1978 = .ok (.iaload, 1) := by decide +kernel
theorem wL_law_1978 {j : Nat} {i : Int32} (hi : i = nI j) (hj : j < e_sL V) (hn : e_sL V < 2147483648) (kk : QW V iL_law 1979 [a0, a1, a2, a3, a4, a5, a6, a7, a8] (.int (e_xs V j) :: st) h z bc bs Kr Kx) : QW V iL_law 1978 [a0, a1, a2, a3, a4, a5, a6, a7, a8] (.int i :: .ref (e_sb V) :: st) h z bc bs Kr Kx := q_sld dL_law_1978 hi hj hn kk
theorem dL_law_1979 : decode (i_b iL_law) 1979 = .ok (.aload_n 0, 1) := by decide +kernel
theorem wL_law_1979 {x : Nat} (kk : QW V iL_law 1980 [some (.ref x), a1, a2, a3, a4, a5, a6, a7, a8] (.ref x :: st) h z bc bs Kr Kx) : QW V iL_law 1979 [some (.ref x), a1, a2, a3, a4, a5, a6, a7, a8] (st) h z bc bs Kr Kx := q_aload_n dL_law_1979 rfl rfl kk
theorem dL_law_1980 : decode (i_b iL_law) 1980 = .ok (.iload 5, 2) := by decide +kernel
theorem wL_law_1980 {x : Int32} (kk : QW V iL_law 1982 [a0, a1, a2, a3, a4, some (.int x), a6, a7, a8] (.int x :: st) h z bc bs Kr Kx) : QW V iL_law 1980 [a0, a1, a2, a3, a4, some (.int x), a6, a7, a8] (st) h z bc bs Kr Kx := q_iload dL_law_1980 rfl kk
theorem dL_law_1982 : decode (i_b iL_law) 1982 = .ok (.iconst 2, 1) := by decide +kernel
theorem wL_law_1982  (kk : QW V iL_law 1983 [a0, a1, a2, a3, a4, a5, a6, a7, a8] (.int (2) :: st) h z bc bs Kr Kx) : QW V iL_law 1982 [a0, a1, a2, a3, a4, a5, a6, a7, a8] (st) h z bc bs Kr Kx := q_iconst dL_law_1982 (by decide) kk
theorem dL_law_1983 : decode (i_b iL_law) 1983 = .ok (.iadd, 1) := by decide +kernel
theorem wL_law_1983 {x y : Int32} (kk : QW V iL_law 1984 [a0, a1, a2, a3, a4, a5, a6, a7, a8] (.int (x + y) :: st) h z bc bs Kr Kx) : QW V iL_law 1983 [a0, a1, a2, a3, a4, a5, a6, a7, a8] (.int y :: .int x :: st) h z bc bs Kr Kx := q_iadd dL_law_1983 kk
theorem dL_law_1984 : decode (i_b iL_law) 1984 = .ok (.iaload, 1) := by decide +kernel
theorem wL_law_1984 {j : Nat} {i : Int32} (hi : i = nI j) (hj : j < e_sL V) (hn : e_sL V < 2147483648) (kk : QW V iL_law 1985 [a0, a1, a2, a3, a4, a5, a6, a7, a8] (.int (e_xs V j) :: st) h z bc bs Kr Kx) : QW V iL_law 1984 [a0, a1, a2, a3, a4, a5, a6, a7, a8] (.int i :: .ref (e_sb V) :: st) h z bc bs Kr Kx := q_sld dL_law_1984 hi hj hn kk
theorem dL_law_1985 : decode (i_b iL_law) 1985 = .ok (.aload_n 3, 1) := by decide +kernel
theorem wL_law_1985 {x : Nat} (kk : QW V iL_law 1986 [a0, a1, a2, some (.ref x), a4, a5, a6, a7, a8] (.ref x :: st) h z bc bs Kr Kx) : QW V iL_law 1985 [a0, a1, a2, some (.ref x), a4, a5, a6, a7, a8] (st) h z bc bs Kr Kx := q_aload_n dL_law_1985 rfl rfl kk
theorem dL_law_1986 : decode (i_b iL_law) 1986 = .ok (.invokestatic 243, 3) := by decide +kernel
theorem wL_law_1986 {x0 : Nat} {x1 : Int32} {x2 : Int32} {x3 : Nat} (hm : QMi V iL_bestRule [.ref x0, .int x1, .int x2, .ref x3] h z (fun r h' z' => QW V iL_law 1989 [a0, a1, a2, a3, a4, a5, a6, a7, a8] (.int r :: st) h' z' bc bs Kr Kx) Kx) (hW : (st.map fun v => v.category).sum ≤ 8 := by exact Nat.le_of_ble_eq_true rfl) : QW V iL_law 1986 [a0, a1, a2, a3, a4, a5, a6, a7, a8] (.ref x3 :: .int x2 :: .int x1 :: .ref x0 :: st) h z (bc + 3) (bs + 18) Kr Kx := q_callSX (y' := iL_bestRule) (As := [.ref x0, .int x1, .int x2, .ref x3]) (rest := st) dL_law_1986 k5_80 k5_81 k1_0 hhL_bestRule (by decide) hdL_bestRule rfl (Nat.le_of_ble_eq_true rfl) (Nat.le_of_ble_eq_true rfl) hW rfl (QMi.run hm)
theorem dL_law_1989 : decode (i_b iL_law) 1989 = .ok (.istore 6, 2) := by decide +kernel
theorem wL_law_1989 {x : Int32} (kk : QW V iL_law 1991 [a0, a1, a2, a3, a4, a5, some (.int x), a7, a8] (st) h z bc bs Kr Kx) (hp : q_n2 a5 = true := by rfl) : QW V iL_law 1989 [a0, a1, a2, a3, a4, a5, a6, a7, a8] (.int x :: st) h z bc bs Kr Kx := q_istore dL_law_1989 (Nat.le_of_ble_eq_true rfl) hp kk
theorem dL_law_1991 : decode (i_b iL_law) 1991 = .ok (.aload_n 2, 1) := by decide +kernel
theorem wL_law_1991 {x : Nat} (kk : QW V iL_law 1992 [a0, a1, some (.ref x), a3, a4, a5, a6, a7, a8] (.ref x :: st) h z bc bs Kr Kx) : QW V iL_law 1991 [a0, a1, some (.ref x), a3, a4, a5, a6, a7, a8] (st) h z bc bs Kr Kx := q_aload_n dL_law_1991 rfl rfl kk
theorem dL_law_1992 : decode (i_b iL_law) 1992 = .ok (.aload_n 0, 1) := by decide +kernel
theorem wL_law_1992 {x : Nat} (kk : QW V iL_law 1993 [some (.ref x), a1, a2, a3, a4, a5, a6, a7, a8] (.ref x :: st) h z bc bs Kr Kx) : QW V iL_law 1992 [some (.ref x), a1, a2, a3, a4, a5, a6, a7, a8] (st) h z bc bs Kr Kx := q_aload_n dL_law_1992 rfl rfl kk
theorem dL_law_1993 : decode (i_b iL_law) 1993 = .ok (.iload 5, 2) := by decide +kernel
theorem wL_law_1993 {x : Int32} (kk : QW V iL_law 1995 [a0, a1, a2, a3, a4, some (.int x), a6, a7, a8] (.int x :: st) h z bc bs Kr Kx) : QW V iL_law 1993 [a0, a1, a2, a3, a4, some (.int x), a6, a7, a8] (st) h z bc bs Kr Kx := q_iload dL_law_1993 rfl kk
theorem dL_law_1995 : decode (i_b iL_law) 1995 = .ok (.iconst 1, 1) := by decide +kernel
theorem wL_law_1995  (kk : QW V iL_law 1996 [a0, a1, a2, a3, a4, a5, a6, a7, a8] (.int (1) :: st) h z bc bs Kr Kx) : QW V iL_law 1995 [a0, a1, a2, a3, a4, a5, a6, a7, a8] (st) h z bc bs Kr Kx := q_iconst dL_law_1995 (by decide) kk
theorem dL_law_1996 : decode (i_b iL_law) 1996 = .ok (.iadd, 1) := by decide +kernel
theorem wL_law_1996 {x y : Int32} (kk : QW V iL_law 1997 [a0, a1, a2, a3, a4, a5, a6, a7, a8] (.int (x + y) :: st) h z bc bs Kr Kx) : QW V iL_law 1996 [a0, a1, a2, a3, a4, a5, a6, a7, a8] (.int y :: .int x :: st) h z bc bs Kr Kx := q_iadd dL_law_1996 kk
theorem dL_law_1997 : decode (i_b iL_law) 1997 = .ok (.iaload, 1) := by decide +kernel
theorem wL_law_1997 {j : Nat} {i : Int32} (hi : i = nI j) (hj : j < e_sL V) (hn : e_sL V < 2147483648) (kk : QW V iL_law 1998 [a0, a1, a2, a3, a4, a5, a6, a7, a8] (.int (e_xs V j) :: st) h z bc bs Kr Kx) : QW V iL_law 1997 [a0, a1, a2, a3, a4, a5, a6, a7, a8] (.int i :: .ref (e_sb V) :: st) h z bc bs Kr Kx := q_sld dL_law_1997 hi hj hn kk
theorem dL_law_1998 : decode (i_b iL_law) 1998 = .ok (.aload_n 0, 1) := by decide +kernel
theorem wL_law_1998 {x : Nat} (kk : QW V iL_law 1999 [some (.ref x), a1, a2, a3, a4, a5, a6, a7, a8] (.ref x :: st) h z bc bs Kr Kx) : QW V iL_law 1998 [some (.ref x), a1, a2, a3, a4, a5, a6, a7, a8] (st) h z bc bs Kr Kx := q_aload_n dL_law_1998 rfl rfl kk
theorem dL_law_1999 : decode (i_b iL_law) 1999 = .ok (.iload 5, 2) := by decide +kernel
theorem wL_law_1999 {x : Int32} (kk : QW V iL_law 2001 [a0, a1, a2, a3, a4, some (.int x), a6, a7, a8] (.int x :: st) h z bc bs Kr Kx) : QW V iL_law 1999 [a0, a1, a2, a3, a4, some (.int x), a6, a7, a8] (st) h z bc bs Kr Kx := q_iload dL_law_1999 rfl kk
theorem dL_law_2001 : decode (i_b iL_law) 2001 = .ok (.iconst 2, 1) := by decide +kernel
theorem wL_law_2001  (kk : QW V iL_law 2002 [a0, a1, a2, a3, a4, a5, a6, a7, a8] (.int (2) :: st) h z bc bs Kr Kx) : QW V iL_law 2001 [a0, a1, a2, a3, a4, a5, a6, a7, a8] (st) h z bc bs Kr Kx := q_iconst dL_law_2001 (by decide) kk
theorem dL_law_2002 : decode (i_b iL_law) 2002 = .ok (.iadd, 1) := by decide +kernel
theorem wL_law_2002 {x y : Int32} (kk : QW V iL_law 2003 [a0, a1, a2, a3, a4, a5, a6, a7, a8] (.int (x + y) :: st) h z bc bs Kr Kx) : QW V iL_law 2002 [a0, a1, a2, a3, a4, a5, a6, a7, a8] (.int y :: .int x :: st) h z bc bs Kr Kx := q_iadd dL_law_2002 kk
theorem dL_law_2003 : decode (i_b iL_law) 2003 = .ok (.iaload, 1) := by decide +kernel
theorem wL_law_2003 {j : Nat} {i : Int32} (hi : i = nI j) (hj : j < e_sL V) (hn : e_sL V < 2147483648) (kk : QW V iL_law 2004 [a0, a1, a2, a3, a4, a5, a6, a7, a8] (.int (e_xs V j) :: st) h z bc bs Kr Kx) : QW V iL_law 2003 [a0, a1, a2, a3, a4, a5, a6, a7, a8] (.int i :: .ref (e_sb V) :: st) h z bc bs Kr Kx := q_sld dL_law_2003 hi hj hn kk
theorem dL_law_2004 : decode (i_b iL_law) 2004 = .ok (.invokevirtual 245, 3) := by decide +kernel
theorem wL_law_2004 {a : Nat} {fs : List Value} {x0 : Int32} {x1 : Int32} (hb : h a = some (.inr (10, fs))) (hm : QMi V iX9_bestRule [.ref a, .int x0, .int x1] h z (fun r h' z' => QW V iL_law 2007 [a0, a1, a2, a3, a4, a5, a6, a7, a8] (.int r :: st) h' z' bc bs Kr Kx) Kx) (hW : (st.map fun v => v.category).sum ≤ 8 := by exact Nat.le_of_ble_eq_true rfl) : QW V iL_law 2004 [a0, a1, a2, a3, a4, a5, a6, a7, a8] (.int x1 :: .int x0 :: .ref a :: st) h z bc bs Kr Kx := q_callV (y' := iX9_bestRule) (As := [.int x0, .int x1]) (rest := st) dL_law_2004 k8_2 k8_3 k8_4 k1_10 hhX9_bestRule rfl hdX9_bestRule rfl rfl (Nat.le_of_ble_eq_true rfl) (Nat.le_of_ble_eq_true rfl) hW rfl hb (QMi.run hm)
theorem dL_law_2007 : decode (i_b iL_law) 2007 = .ok (.istore 7, 2) := by decide +kernel
theorem wL_law_2007 {x : Int32} (kk : QW V iL_law 2009 [a0, a1, a2, a3, a4, a5, a6, some (.int x), a8] (st) h z bc bs Kr Kx) (hp : q_n2 a6 = true := by rfl) : QW V iL_law 2007 [a0, a1, a2, a3, a4, a5, a6, a7, a8] (.int x :: st) h z bc bs Kr Kx := q_istore dL_law_2007 (Nat.le_of_ble_eq_true rfl) hp kk
theorem dL_law_2009 : decode (i_b iL_law) 2009 = .ok (.aload_n 2, 1) := by decide +kernel
theorem wL_law_2009 {x : Nat} (kk : QW V iL_law 2010 [a0, a1, some (.ref x), a3, a4, a5, a6, a7, a8] (.ref x :: st) h z bc bs Kr Kx) : QW V iL_law 2009 [a0, a1, some (.ref x), a3, a4, a5, a6, a7, a8] (st) h z bc bs Kr Kx := q_aload_n dL_law_2009 rfl rfl kk
theorem dL_law_2010 : decode (i_b iL_law) 2010 = .ok (.invokevirtual 150, 3) := by decide +kernel
theorem wL_law_2010 {a : Nat} {fs : List Value}  (hb : h a = some (.inr (10, fs))) (hm : QMi V iX9_thrown [.ref a] h z (fun r h' z' => QW V iL_law 2013 [a0, a1, a2, a3, a4, a5, a6, a7, a8] (.int r :: st) h' z' bc bs Kr Kx) Kx) (hW : (st.map fun v => v.category).sum ≤ 8 := by exact Nat.le_of_ble_eq_true rfl) : QW V iL_law 2010 [a0, a1, a2, a3, a4, a5, a6, a7, a8] (.ref a :: st) h z bc bs Kr Kx := q_callV (y' := iX9_thrown) (As := []) (rest := st) dL_law_2010 k6_80 k6_81 k6_82 k1_10 hhX9_thrown rfl hdX9_thrown rfl rfl (Nat.le_of_ble_eq_true rfl) (Nat.le_of_ble_eq_true rfl) hW rfl hb (QMi.run hm)
theorem dL_law_2013 : decode (i_b iL_law) 2013 = .ok (.iload 6, 2) := by decide +kernel
theorem wL_law_2013 {x : Int32} (kk : QW V iL_law 2015 [a0, a1, a2, a3, a4, a5, some (.int x), a7, a8] (.int x :: st) h z bc bs Kr Kx) : QW V iL_law 2013 [a0, a1, a2, a3, a4, a5, some (.int x), a7, a8] (st) h z bc bs Kr Kx := q_iload dL_law_2013 rfl kk
theorem dL_law_2015 : decode (i_b iL_law) 2015 = .ok (.if_icmp .eq 5, 3) := by decide +kernel
theorem wL_law_2015 {x y : Int32} (kt : x = y → QW V iL_law 2020 [a0, a1, a2, a3, a4, a5, a6, a7, a8] (st) h z bc bs Kr Kx) (kf : ¬ x = y → QW V iL_law 2018 [a0, a1, a2, a3, a4, a5, a6, a7, a8] (st) h z bc bs Kr Kx) : QW V iL_law 2015 [a0, a1, a2, a3, a4, a5, a6, a7, a8] (.int y :: .int x :: st) h z bc bs Kr Kx := q_icmp_eq dL_law_2015 (by decide) kt kf
theorem dL_law_2018 : decode (i_b iL_law) 2018 = .ok (.iconst 0, 1) := by decide +kernel
theorem wL_law_2018  (kk : QW V iL_law 2019 [a0, a1, a2, a3, a4, a5, a6, a7, a8] (.int (0) :: st) h z bc bs Kr Kx) : QW V iL_law 2018 [a0, a1, a2, a3, a4, a5, a6, a7, a8] (st) h z bc bs Kr Kx := q_iconst dL_law_2018 (by decide) kk
theorem dL_law_2019 : decode (i_b iL_law) 2019 = .ok (.ireturn, 1) := by decide +kernel
theorem wL_law_2019 {x : Int32} {P : Int32 → q_H → Option Nat → Prop} (hk : P x h z) (hn : narrow .boolean (.int x) = .int x := by first | rfl | exact q_b_n _) : QW V iL_law 2019 [a0, a1, a2, a3, a4, a5, a6, a7, a8] [.int x] h z bc bs (q_Ki P) Kx := q_iret dL_law_2019 rfl hn ⟨x, rfl, hk⟩
theorem dL_law_2020 : decode (i_b iL_law) 2020 = .ok (.iload 6, 2) := by decide +kernel
theorem wL_law_2020 {x : Int32} (kk : QW V iL_law 2022 [a0, a1, a2, a3, a4, a5, some (.int x), a7, a8] (.int x :: st) h z bc bs Kr Kx) : QW V iL_law 2020 [a0, a1, a2, a3, a4, a5, some (.int x), a7, a8] (st) h z bc bs Kr Kx := q_iload dL_law_2020 rfl kk
theorem dL_law_2022 : decode (i_b iL_law) 2022 = .ok (.ifCond .ne 15, 3) := by decide +kernel
theorem wL_law_2022 {x : Int32} (kt : ¬ x = 0 → QW V iL_law 2037 [a0, a1, a2, a3, a4, a5, a6, a7, a8] (st) h z bc bs Kr Kx) (kf : x = 0 → QW V iL_law 2025 [a0, a1, a2, a3, a4, a5, a6, a7, a8] (st) h z bc bs Kr Kx) : QW V iL_law 2022 [a0, a1, a2, a3, a4, a5, a6, a7, a8] (.int x :: st) h z bc bs Kr Kx := q_if_ne dL_law_2022 (by decide) kt kf
theorem dL_law_2025 : decode (i_b iL_law) 2025 = .ok (.aload_n 3, 1) := by decide +kernel
theorem wL_law_2025 {x : Nat} (kk : QW V iL_law 2026 [a0, a1, a2, some (.ref x), a4, a5, a6, a7, a8] (.ref x :: st) h z bc bs Kr Kx) : QW V iL_law 2025 [a0, a1, a2, some (.ref x), a4, a5, a6, a7, a8] (st) h z bc bs Kr Kx := q_aload_n dL_law_2025 rfl rfl kk
theorem dL_law_2026 : decode (i_b iL_law) 2026 = .ok (.iconst 0, 1) := by decide +kernel
theorem wL_law_2026  (kk : QW V iL_law 2027 [a0, a1, a2, a3, a4, a5, a6, a7, a8] (.int (0) :: st) h z bc bs Kr Kx) : QW V iL_law 2026 [a0, a1, a2, a3, a4, a5, a6, a7, a8] (st) h z bc bs Kr Kx := q_iconst dL_law_2026 (by decide) kk
theorem dL_law_2027 : decode (i_b iL_law) 2027 = .ok (.laload, 1) := by decide +kernel
theorem wL_law_2027 {a n j : Nat} {f : Nat → Int64} {i : Int32} (ha : h a = some (.inl (2, n, .inr (.inl f)))) (hi : i = nI j) (hj : j < n) (hn : n < 2147483648) (kk : QW V iL_law 2028 [a0, a1, a2, a3, a4, a5, a6, a7, a8] (.long (f j) :: st) h z bc bs Kr Kx) : QW V iL_law 2027 [a0, a1, a2, a3, a4, a5, a6, a7, a8] (.int i :: .ref a :: st) h z bc bs Kr Kx := q_lald dL_law_2027 ha hi hj hn kk
theorem dL_law_2028 : decode (i_b iL_law) 2028 = .ok (.iload 7, 2) := by decide +kernel
theorem wL_law_2028 {x : Int32} (kk : QW V iL_law 2030 [a0, a1, a2, a3, a4, a5, a6, some (.int x), a8] (.int x :: st) h z bc bs Kr Kx) : QW V iL_law 2028 [a0, a1, a2, a3, a4, a5, a6, some (.int x), a8] (st) h z bc bs Kr Kx := q_iload dL_law_2028 rfl kk
theorem dL_law_2030 : decode (i_b iL_law) 2030 = .ok (.i2l, 1) := by decide +kernel
theorem wL_law_2030 {x : Int32} (kk : QW V iL_law 2031 [a0, a1, a2, a3, a4, a5, a6, a7, a8] (.long (x.toInt64) :: st) h z bc bs Kr Kx) : QW V iL_law 2030 [a0, a1, a2, a3, a4, a5, a6, a7, a8] (.int x :: st) h z bc bs Kr Kx := q_i2l dL_law_2030 kk
theorem dL_law_2031 : decode (i_b iL_law) 2031 = .ok (.lcmp, 1) := by decide +kernel
theorem dL_law_2032 : decode (i_b iL_law) 2032 = .ok (.ifCond .eq 5, 3) := by decide +kernel
theorem wL_law_2031 {x y : Int64} (kt : x = y → QW V iL_law 2037 [a0, a1, a2, a3, a4, a5, a6, a7, a8] (st) h z bc bs Kr Kx) (kf : ¬ x = y → QW V iL_law 2035 [a0, a1, a2, a3, a4, a5, a6, a7, a8] (st) h z bc bs Kr Kx) : QW V iL_law 2031 [a0, a1, a2, a3, a4, a5, a6, a7, a8] (.long y :: .long x :: st) h z bc bs Kr Kx := q_lcmp dL_law_2031 (q_if_eq dL_law_2032 (by decide) (fun q => kt ((q_lc_eq x y).mp q)) (fun q => kf (q_lcn_eq q)))
theorem dL_law_2035 : decode (i_b iL_law) 2035 = .ok (.iconst 0, 1) := by decide +kernel
theorem wL_law_2035  (kk : QW V iL_law 2036 [a0, a1, a2, a3, a4, a5, a6, a7, a8] (.int (0) :: st) h z bc bs Kr Kx) : QW V iL_law 2035 [a0, a1, a2, a3, a4, a5, a6, a7, a8] (st) h z bc bs Kr Kx := q_iconst dL_law_2035 (by decide) kk
theorem dL_law_2036 : decode (i_b iL_law) 2036 = .ok (.ireturn, 1) := by decide +kernel
theorem wL_law_2036 {x : Int32} {P : Int32 → q_H → Option Nat → Prop} (hk : P x h z) (hn : narrow .boolean (.int x) = .int x := by first | rfl | exact q_b_n _) : QW V iL_law 2036 [a0, a1, a2, a3, a4, a5, a6, a7, a8] [.int x] h z bc bs (q_Ki P) Kx := q_iret dL_law_2036 rfl hn ⟨x, rfl, hk⟩
theorem dL_law_2037 : decode (i_b iL_law) 2037 = .ok (.goto 714, 3) := by decide +kernel
theorem wL_law_2037  (kk : QW V iL_law 2751 [a0, a1, a2, a3, a4, a5, a6, a7, a8] (st) h z bc bs Kr Kx) : QW V iL_law 2037 [a0, a1, a2, a3, a4, a5, a6, a7, a8] (st) h z bc bs Kr Kx := q_goto dL_law_2037 (by decide) kk
theorem dL_law_2040 : decode (i_b iL_law) 2040 = .ok (.aload_n 1, 1) := by decide +kernel
theorem wL_law_2040 {x : Nat} (kk : QW V iL_law 2041 [a0, some (.ref x), a2, a3, a4, a5, a6, a7, a8] (.ref x :: st) h z bc bs Kr Kx) : QW V iL_law 2040 [a0, some (.ref x), a2, a3, a4, a5, a6, a7, a8] (st) h z bc bs Kr Kx := q_aload_n dL_law_2040 rfl rfl kk
theorem dL_law_2041 : decode (i_b iL_law) 2041 = .ok (.aload_n 0, 1) := by decide +kernel
theorem wL_law_2041 {x : Nat} (kk : QW V iL_law 2042 [some (.ref x), a1, a2, a3, a4, a5, a6, a7, a8] (.ref x :: st) h z bc bs Kr Kx) : QW V iL_law 2041 [some (.ref x), a1, a2, a3, a4, a5, a6, a7, a8] (st) h z bc bs Kr Kx := q_aload_n dL_law_2041 rfl rfl kk
theorem dL_law_2042 : decode (i_b iL_law) 2042 = .ok (.iload 5, 2) := by decide +kernel
theorem wL_law_2042 {x : Int32} (kk : QW V iL_law 2044 [a0, a1, a2, a3, a4, some (.int x), a6, a7, a8] (.int x :: st) h z bc bs Kr Kx) : QW V iL_law 2042 [a0, a1, a2, a3, a4, some (.int x), a6, a7, a8] (st) h z bc bs Kr Kx := q_iload dL_law_2042 rfl kk
theorem dL_law_2044 : decode (i_b iL_law) 2044 = .ok (.iconst 1, 1) := by decide +kernel
theorem wL_law_2044  (kk : QW V iL_law 2045 [a0, a1, a2, a3, a4, a5, a6, a7, a8] (.int (1) :: st) h z bc bs Kr Kx) : QW V iL_law 2044 [a0, a1, a2, a3, a4, a5, a6, a7, a8] (st) h z bc bs Kr Kx := q_iconst dL_law_2044 (by decide) kk
theorem dL_law_2045 : decode (i_b iL_law) 2045 = .ok (.iadd, 1) := by decide +kernel
theorem wL_law_2045 {x y : Int32} (kk : QW V iL_law 2046 [a0, a1, a2, a3, a4, a5, a6, a7, a8] (.int (x + y) :: st) h z bc bs Kr Kx) : QW V iL_law 2045 [a0, a1, a2, a3, a4, a5, a6, a7, a8] (.int y :: .int x :: st) h z bc bs Kr Kx := q_iadd dL_law_2045 kk
theorem dL_law_2046 : decode (i_b iL_law) 2046 = .ok (.iaload, 1) := by decide +kernel
theorem wL_law_2046 {j : Nat} {i : Int32} (hi : i = nI j) (hj : j < e_sL V) (hn : e_sL V < 2147483648) (kk : QW V iL_law 2047 [a0, a1, a2, a3, a4, a5, a6, a7, a8] (.int (e_xs V j) :: st) h z bc bs Kr Kx) : QW V iL_law 2046 [a0, a1, a2, a3, a4, a5, a6, a7, a8] (.int i :: .ref (e_sb V) :: st) h z bc bs Kr Kx := q_sld dL_law_2046 hi hj hn kk
theorem dL_law_2047 : decode (i_b iL_law) 2047 = .ok (.aload_n 0, 1) := by decide +kernel
theorem wL_law_2047 {x : Nat} (kk : QW V iL_law 2048 [some (.ref x), a1, a2, a3, a4, a5, a6, a7, a8] (.ref x :: st) h z bc bs Kr Kx) : QW V iL_law 2047 [some (.ref x), a1, a2, a3, a4, a5, a6, a7, a8] (st) h z bc bs Kr Kx := q_aload_n dL_law_2047 rfl rfl kk
theorem dL_law_2048 : decode (i_b iL_law) 2048 = .ok (.iload 5, 2) := by decide +kernel
theorem wL_law_2048 {x : Int32} (kk : QW V iL_law 2050 [a0, a1, a2, a3, a4, some (.int x), a6, a7, a8] (.int x :: st) h z bc bs Kr Kx) : QW V iL_law 2048 [a0, a1, a2, a3, a4, some (.int x), a6, a7, a8] (st) h z bc bs Kr Kx := q_iload dL_law_2048 rfl kk
theorem dL_law_2050 : decode (i_b iL_law) 2050 = .ok (.iconst 2, 1) := by decide +kernel
theorem wL_law_2050  (kk : QW V iL_law 2051 [a0, a1, a2, a3, a4, a5, a6, a7, a8] (.int (2) :: st) h z bc bs Kr Kx) : QW V iL_law 2050 [a0, a1, a2, a3, a4, a5, a6, a7, a8] (st) h z bc bs Kr Kx := q_iconst dL_law_2050 (by decide) kk
theorem dL_law_2051 : decode (i_b iL_law) 2051 = .ok (.iadd, 1) := by decide +kernel
theorem wL_law_2051 {x y : Int32} (kk : QW V iL_law 2052 [a0, a1, a2, a3, a4, a5, a6, a7, a8] (.int (x + y) :: st) h z bc bs Kr Kx) : QW V iL_law 2051 [a0, a1, a2, a3, a4, a5, a6, a7, a8] (.int y :: .int x :: st) h z bc bs Kr Kx := q_iadd dL_law_2051 kk
theorem dL_law_2052 : decode (i_b iL_law) 2052 = .ok (.iaload, 1) := by decide +kernel
theorem wL_law_2052 {j : Nat} {i : Int32} (hi : i = nI j) (hj : j < e_sL V) (hn : e_sL V < 2147483648) (kk : QW V iL_law 2053 [a0, a1, a2, a3, a4, a5, a6, a7, a8] (.int (e_xs V j) :: st) h z bc bs Kr Kx) : QW V iL_law 2052 [a0, a1, a2, a3, a4, a5, a6, a7, a8] (.int i :: .ref (e_sb V) :: st) h z bc bs Kr Kx := q_sld dL_law_2052 hi hj hn kk
theorem dL_law_2053 : decode (i_b iL_law) 2053 = .ok (.aload_n 0, 1) := by decide +kernel
theorem wL_law_2053 {x : Nat} (kk : QW V iL_law 2054 [some (.ref x), a1, a2, a3, a4, a5, a6, a7, a8] (.ref x :: st) h z bc bs Kr Kx) : QW V iL_law 2053 [some (.ref x), a1, a2, a3, a4, a5, a6, a7, a8] (st) h z bc bs Kr Kx := q_aload_n dL_law_2053 rfl rfl kk
theorem dL_law_2054 : decode (i_b iL_law) 2054 = .ok (.iload 5, 2) := by decide +kernel
theorem wL_law_2054 {x : Int32} (kk : QW V iL_law 2056 [a0, a1, a2, a3, a4, some (.int x), a6, a7, a8] (.int x :: st) h z bc bs Kr Kx) : QW V iL_law 2054 [a0, a1, a2, a3, a4, some (.int x), a6, a7, a8] (st) h z bc bs Kr Kx := q_iload dL_law_2054 rfl kk
theorem dL_law_2056 : decode (i_b iL_law) 2056 = .ok (.iconst 3, 1) := by decide +kernel
theorem wL_law_2056  (kk : QW V iL_law 2057 [a0, a1, a2, a3, a4, a5, a6, a7, a8] (.int (3) :: st) h z bc bs Kr Kx) : QW V iL_law 2056 [a0, a1, a2, a3, a4, a5, a6, a7, a8] (st) h z bc bs Kr Kx := q_iconst dL_law_2056 (by decide) kk
theorem dL_law_2057 : decode (i_b iL_law) 2057 = .ok (.iadd, 1) := by decide +kernel
theorem wL_law_2057 {x y : Int32} (kk : QW V iL_law 2058 [a0, a1, a2, a3, a4, a5, a6, a7, a8] (.int (x + y) :: st) h z bc bs Kr Kx) : QW V iL_law 2057 [a0, a1, a2, a3, a4, a5, a6, a7, a8] (.int y :: .int x :: st) h z bc bs Kr Kx := q_iadd dL_law_2057 kk
theorem dL_law_2058 : decode (i_b iL_law) 2058 = .ok (.iaload, 1) := by decide +kernel
theorem wL_law_2058 {j : Nat} {i : Int32} (hi : i = nI j) (hj : j < e_sL V) (hn : e_sL V < 2147483648) (kk : QW V iL_law 2059 [a0, a1, a2, a3, a4, a5, a6, a7, a8] (.int (e_xs V j) :: st) h z bc bs Kr Kx) : QW V iL_law 2058 [a0, a1, a2, a3, a4, a5, a6, a7, a8] (.int i :: .ref (e_sb V) :: st) h z bc bs Kr Kx := q_sld dL_law_2058 hi hj hn kk
theorem dL_law_2059 : decode (i_b iL_law) 2059 = .ok (.aload_n 3, 1) := by decide +kernel
theorem wL_law_2059 {x : Nat} (kk : QW V iL_law 2060 [a0, a1, a2, some (.ref x), a4, a5, a6, a7, a8] (.ref x :: st) h z bc bs Kr Kx) : QW V iL_law 2059 [a0, a1, a2, some (.ref x), a4, a5, a6, a7, a8] (st) h z bc bs Kr Kx := q_aload_n dL_law_2059 rfl rfl kk
theorem dL_law_2060 : decode (i_b iL_law) 2060 = .ok (.invokestatic 246, 3) := by decide +kernel
theorem wL_law_2060 {x0 : Nat} {x1 : Int32} {x2 : Int32} {x3 : Int32} {x4 : Nat} (hm : QMi V iL_greatestBase [.ref x0, .int x1, .int x2, .int x3, .ref x4] h z (fun r h' z' => QW V iL_law 2063 [a0, a1, a2, a3, a4, a5, a6, a7, a8] (.int r :: st) h' z' bc bs Kr Kx) Kx) (hW : (st.map fun v => v.category).sum ≤ 8 := by exact Nat.le_of_ble_eq_true rfl) : QW V iL_law 2060 [a0, a1, a2, a3, a4, a5, a6, a7, a8] (.ref x4 :: .int x3 :: .int x2 :: .int x1 :: .ref x0 :: st) h z (bc + 4) (bs + 24) Kr Kx := q_callSX (y' := iL_greatestBase) (As := [.ref x0, .int x1, .int x2, .int x3, .ref x4]) (rest := st) dL_law_2060 k5_87 k5_88 k1_0 hhL_greatestBase (by decide) hdL_greatestBase rfl (Nat.le_of_ble_eq_true rfl) (Nat.le_of_ble_eq_true rfl) hW rfl (QMi.run hm)
theorem dL_law_2063 : decode (i_b iL_law) 2063 = .ok (.istore 6, 2) := by decide +kernel
theorem wL_law_2063 {x : Int32} (kk : QW V iL_law 2065 [a0, a1, a2, a3, a4, a5, some (.int x), a7, a8] (st) h z bc bs Kr Kx) (hp : q_n2 a5 = true := by rfl) : QW V iL_law 2063 [a0, a1, a2, a3, a4, a5, a6, a7, a8] (.int x :: st) h z bc bs Kr Kx := q_istore dL_law_2063 (Nat.le_of_ble_eq_true rfl) hp kk
theorem dL_law_2065 : decode (i_b iL_law) 2065 = .ok (.aload_n 2, 1) := by decide +kernel
theorem wL_law_2065 {x : Nat} (kk : QW V iL_law 2066 [a0, a1, some (.ref x), a3, a4, a5, a6, a7, a8] (.ref x :: st) h z bc bs Kr Kx) : QW V iL_law 2065 [a0, a1, some (.ref x), a3, a4, a5, a6, a7, a8] (st) h z bc bs Kr Kx := q_aload_n dL_law_2065 rfl rfl kk
theorem dL_law_2066 : decode (i_b iL_law) 2066 = .ok (.aload_n 0, 1) := by decide +kernel
theorem wL_law_2066 {x : Nat} (kk : QW V iL_law 2067 [some (.ref x), a1, a2, a3, a4, a5, a6, a7, a8] (.ref x :: st) h z bc bs Kr Kx) : QW V iL_law 2066 [some (.ref x), a1, a2, a3, a4, a5, a6, a7, a8] (st) h z bc bs Kr Kx := q_aload_n dL_law_2066 rfl rfl kk
theorem dL_law_2067 : decode (i_b iL_law) 2067 = .ok (.iload 5, 2) := by decide +kernel
theorem wL_law_2067 {x : Int32} (kk : QW V iL_law 2069 [a0, a1, a2, a3, a4, some (.int x), a6, a7, a8] (.int x :: st) h z bc bs Kr Kx) : QW V iL_law 2067 [a0, a1, a2, a3, a4, some (.int x), a6, a7, a8] (st) h z bc bs Kr Kx := q_iload dL_law_2067 rfl kk
theorem dL_law_2069 : decode (i_b iL_law) 2069 = .ok (.iconst 1, 1) := by decide +kernel
theorem wL_law_2069  (kk : QW V iL_law 2070 [a0, a1, a2, a3, a4, a5, a6, a7, a8] (.int (1) :: st) h z bc bs Kr Kx) : QW V iL_law 2069 [a0, a1, a2, a3, a4, a5, a6, a7, a8] (st) h z bc bs Kr Kx := q_iconst dL_law_2069 (by decide) kk
theorem dL_law_2070 : decode (i_b iL_law) 2070 = .ok (.iadd, 1) := by decide +kernel
theorem wL_law_2070 {x y : Int32} (kk : QW V iL_law 2071 [a0, a1, a2, a3, a4, a5, a6, a7, a8] (.int (x + y) :: st) h z bc bs Kr Kx) : QW V iL_law 2070 [a0, a1, a2, a3, a4, a5, a6, a7, a8] (.int y :: .int x :: st) h z bc bs Kr Kx := q_iadd dL_law_2070 kk
theorem dL_law_2071 : decode (i_b iL_law) 2071 = .ok (.iaload, 1) := by decide +kernel
theorem wL_law_2071 {j : Nat} {i : Int32} (hi : i = nI j) (hj : j < e_sL V) (hn : e_sL V < 2147483648) (kk : QW V iL_law 2072 [a0, a1, a2, a3, a4, a5, a6, a7, a8] (.int (e_xs V j) :: st) h z bc bs Kr Kx) : QW V iL_law 2071 [a0, a1, a2, a3, a4, a5, a6, a7, a8] (.int i :: .ref (e_sb V) :: st) h z bc bs Kr Kx := q_sld dL_law_2071 hi hj hn kk
theorem dL_law_2072 : decode (i_b iL_law) 2072 = .ok (.aload_n 0, 1) := by decide +kernel
theorem wL_law_2072 {x : Nat} (kk : QW V iL_law 2073 [some (.ref x), a1, a2, a3, a4, a5, a6, a7, a8] (.ref x :: st) h z bc bs Kr Kx) : QW V iL_law 2072 [some (.ref x), a1, a2, a3, a4, a5, a6, a7, a8] (st) h z bc bs Kr Kx := q_aload_n dL_law_2072 rfl rfl kk
theorem dL_law_2073 : decode (i_b iL_law) 2073 = .ok (.iload 5, 2) := by decide +kernel
theorem wL_law_2073 {x : Int32} (kk : QW V iL_law 2075 [a0, a1, a2, a3, a4, some (.int x), a6, a7, a8] (.int x :: st) h z bc bs Kr Kx) : QW V iL_law 2073 [a0, a1, a2, a3, a4, some (.int x), a6, a7, a8] (st) h z bc bs Kr Kx := q_iload dL_law_2073 rfl kk
theorem dL_law_2075 : decode (i_b iL_law) 2075 = .ok (.iconst 2, 1) := by decide +kernel
theorem wL_law_2075  (kk : QW V iL_law 2076 [a0, a1, a2, a3, a4, a5, a6, a7, a8] (.int (2) :: st) h z bc bs Kr Kx) : QW V iL_law 2075 [a0, a1, a2, a3, a4, a5, a6, a7, a8] (st) h z bc bs Kr Kx := q_iconst dL_law_2075 (by decide) kk
theorem dL_law_2076 : decode (i_b iL_law) 2076 = .ok (.iadd, 1) := by decide +kernel
theorem wL_law_2076 {x y : Int32} (kk : QW V iL_law 2077 [a0, a1, a2, a3, a4, a5, a6, a7, a8] (.int (x + y) :: st) h z bc bs Kr Kx) : QW V iL_law 2076 [a0, a1, a2, a3, a4, a5, a6, a7, a8] (.int y :: .int x :: st) h z bc bs Kr Kx := q_iadd dL_law_2076 kk
theorem dL_law_2077 : decode (i_b iL_law) 2077 = .ok (.iaload, 1) := by decide +kernel
theorem wL_law_2077 {j : Nat} {i : Int32} (hi : i = nI j) (hj : j < e_sL V) (hn : e_sL V < 2147483648) (kk : QW V iL_law 2078 [a0, a1, a2, a3, a4, a5, a6, a7, a8] (.int (e_xs V j) :: st) h z bc bs Kr Kx) : QW V iL_law 2077 [a0, a1, a2, a3, a4, a5, a6, a7, a8] (.int i :: .ref (e_sb V) :: st) h z bc bs Kr Kx := q_sld dL_law_2077 hi hj hn kk
theorem dL_law_2078 : decode (i_b iL_law) 2078 = .ok (.aload_n 0, 1) := by decide +kernel
theorem wL_law_2078 {x : Nat} (kk : QW V iL_law 2079 [some (.ref x), a1, a2, a3, a4, a5, a6, a7, a8] (.ref x :: st) h z bc bs Kr Kx) : QW V iL_law 2078 [some (.ref x), a1, a2, a3, a4, a5, a6, a7, a8] (st) h z bc bs Kr Kx := q_aload_n dL_law_2078 rfl rfl kk
theorem dL_law_2079 : decode (i_b iL_law) 2079 = .ok (.iload 5, 2) := by decide +kernel
theorem wL_law_2079 {x : Int32} (kk : QW V iL_law 2081 [a0, a1, a2, a3, a4, some (.int x), a6, a7, a8] (.int x :: st) h z bc bs Kr Kx) : QW V iL_law 2079 [a0, a1, a2, a3, a4, some (.int x), a6, a7, a8] (st) h z bc bs Kr Kx := q_iload dL_law_2079 rfl kk
theorem dL_law_2081 : decode (i_b iL_law) 2081 = .ok (.iconst 3, 1) := by decide +kernel
theorem wL_law_2081  (kk : QW V iL_law 2082 [a0, a1, a2, a3, a4, a5, a6, a7, a8] (.int (3) :: st) h z bc bs Kr Kx) : QW V iL_law 2081 [a0, a1, a2, a3, a4, a5, a6, a7, a8] (st) h z bc bs Kr Kx := q_iconst dL_law_2081 (by decide) kk
theorem dL_law_2082 : decode (i_b iL_law) 2082 = .ok (.iadd, 1) := by decide +kernel
theorem wL_law_2082 {x y : Int32} (kk : QW V iL_law 2083 [a0, a1, a2, a3, a4, a5, a6, a7, a8] (.int (x + y) :: st) h z bc bs Kr Kx) : QW V iL_law 2082 [a0, a1, a2, a3, a4, a5, a6, a7, a8] (.int y :: .int x :: st) h z bc bs Kr Kx := q_iadd dL_law_2082 kk
theorem dL_law_2083 : decode (i_b iL_law) 2083 = .ok (.iaload, 1) := by decide +kernel
theorem wL_law_2083 {j : Nat} {i : Int32} (hi : i = nI j) (hj : j < e_sL V) (hn : e_sL V < 2147483648) (kk : QW V iL_law 2084 [a0, a1, a2, a3, a4, a5, a6, a7, a8] (.int (e_xs V j) :: st) h z bc bs Kr Kx) : QW V iL_law 2083 [a0, a1, a2, a3, a4, a5, a6, a7, a8] (.int i :: .ref (e_sb V) :: st) h z bc bs Kr Kx := q_sld dL_law_2083 hi hj hn kk
theorem dL_law_2084 : decode (i_b iL_law) 2084 = .ok (.invokevirtual 248, 3) := by decide +kernel
theorem wL_law_2084 {a : Nat} {fs : List Value} {x0 : Int32} {x1 : Int32} {x2 : Int32} (hb : h a = some (.inr (10, fs))) (hm : QMi V iX9_greatestBase [.ref a, .int x0, .int x1, .int x2] h z (fun r h' z' => QW V iL_law 2087 [a0, a1, a2, a3, a4, a5, a6, a7, a8] (.int r :: st) h' z' bc bs Kr Kx) Kx) (hW : (st.map fun v => v.category).sum ≤ 8 := by exact Nat.le_of_ble_eq_true rfl) : QW V iL_law 2084 [a0, a1, a2, a3, a4, a5, a6, a7, a8] (.int x2 :: .int x1 :: .int x0 :: .ref a :: st) h z bc bs Kr Kx := q_callV (y' := iX9_greatestBase) (As := [.int x0, .int x1, .int x2]) (rest := st) dL_law_2084 k8_6 k8_7 k8_8 k1_10 hhX9_greatestBase rfl hdX9_greatestBase rfl rfl (Nat.le_of_ble_eq_true rfl) (Nat.le_of_ble_eq_true rfl) hW rfl hb (QMi.run hm)
theorem dL_law_2087 : decode (i_b iL_law) 2087 = .ok (.istore 7, 2) := by decide +kernel
theorem wL_law_2087 {x : Int32} (kk : QW V iL_law 2089 [a0, a1, a2, a3, a4, a5, a6, some (.int x), a8] (st) h z bc bs Kr Kx) (hp : q_n2 a6 = true := by rfl) : QW V iL_law 2087 [a0, a1, a2, a3, a4, a5, a6, a7, a8] (.int x :: st) h z bc bs Kr Kx := q_istore dL_law_2087 (Nat.le_of_ble_eq_true rfl) hp kk
theorem dL_law_2089 : decode (i_b iL_law) 2089 = .ok (.aload_n 2, 1) := by decide +kernel
theorem wL_law_2089 {x : Nat} (kk : QW V iL_law 2090 [a0, a1, some (.ref x), a3, a4, a5, a6, a7, a8] (.ref x :: st) h z bc bs Kr Kx) : QW V iL_law 2089 [a0, a1, some (.ref x), a3, a4, a5, a6, a7, a8] (st) h z bc bs Kr Kx := q_aload_n dL_law_2089 rfl rfl kk
theorem dL_law_2090 : decode (i_b iL_law) 2090 = .ok (.invokevirtual 150, 3) := by decide +kernel
theorem wL_law_2090 {a : Nat} {fs : List Value}  (hb : h a = some (.inr (10, fs))) (hm : QMi V iX9_thrown [.ref a] h z (fun r h' z' => QW V iL_law 2093 [a0, a1, a2, a3, a4, a5, a6, a7, a8] (.int r :: st) h' z' bc bs Kr Kx) Kx) (hW : (st.map fun v => v.category).sum ≤ 8 := by exact Nat.le_of_ble_eq_true rfl) : QW V iL_law 2090 [a0, a1, a2, a3, a4, a5, a6, a7, a8] (.ref a :: st) h z bc bs Kr Kx := q_callV (y' := iX9_thrown) (As := []) (rest := st) dL_law_2090 k6_80 k6_81 k6_82 k1_10 hhX9_thrown rfl hdX9_thrown rfl rfl (Nat.le_of_ble_eq_true rfl) (Nat.le_of_ble_eq_true rfl) hW rfl hb (QMi.run hm)
theorem dL_law_2093 : decode (i_b iL_law) 2093 = .ok (.iload 6, 2) := by decide +kernel
theorem wL_law_2093 {x : Int32} (kk : QW V iL_law 2095 [a0, a1, a2, a3, a4, a5, some (.int x), a7, a8] (.int x :: st) h z bc bs Kr Kx) : QW V iL_law 2093 [a0, a1, a2, a3, a4, a5, some (.int x), a7, a8] (st) h z bc bs Kr Kx := q_iload dL_law_2093 rfl kk
theorem dL_law_2095 : decode (i_b iL_law) 2095 = .ok (.if_icmp .eq 5, 3) := by decide +kernel
theorem wL_law_2095 {x y : Int32} (kt : x = y → QW V iL_law 2100 [a0, a1, a2, a3, a4, a5, a6, a7, a8] (st) h z bc bs Kr Kx) (kf : ¬ x = y → QW V iL_law 2098 [a0, a1, a2, a3, a4, a5, a6, a7, a8] (st) h z bc bs Kr Kx) : QW V iL_law 2095 [a0, a1, a2, a3, a4, a5, a6, a7, a8] (.int y :: .int x :: st) h z bc bs Kr Kx := q_icmp_eq dL_law_2095 (by decide) kt kf
theorem dL_law_2098 : decode (i_b iL_law) 2098 = .ok (.iconst 0, 1) := by decide +kernel
theorem wL_law_2098  (kk : QW V iL_law 2099 [a0, a1, a2, a3, a4, a5, a6, a7, a8] (.int (0) :: st) h z bc bs Kr Kx) : QW V iL_law 2098 [a0, a1, a2, a3, a4, a5, a6, a7, a8] (st) h z bc bs Kr Kx := q_iconst dL_law_2098 (by decide) kk
theorem dL_law_2099 : decode (i_b iL_law) 2099 = .ok (.ireturn, 1) := by decide +kernel
theorem wL_law_2099 {x : Int32} {P : Int32 → q_H → Option Nat → Prop} (hk : P x h z) (hn : narrow .boolean (.int x) = .int x := by first | rfl | exact q_b_n _) : QW V iL_law 2099 [a0, a1, a2, a3, a4, a5, a6, a7, a8] [.int x] h z bc bs (q_Ki P) Kx := q_iret dL_law_2099 rfl hn ⟨x, rfl, hk⟩
theorem dL_law_2100 : decode (i_b iL_law) 2100 = .ok (.iload 6, 2) := by decide +kernel
theorem wL_law_2100 {x : Int32} (kk : QW V iL_law 2102 [a0, a1, a2, a3, a4, a5, some (.int x), a7, a8] (.int x :: st) h z bc bs Kr Kx) : QW V iL_law 2100 [a0, a1, a2, a3, a4, a5, some (.int x), a7, a8] (st) h z bc bs Kr Kx := q_iload dL_law_2100 rfl kk
theorem dL_law_2102 : decode (i_b iL_law) 2102 = .ok (.ifCond .ne 15, 3) := by decide +kernel
theorem wL_law_2102 {x : Int32} (kt : ¬ x = 0 → QW V iL_law 2117 [a0, a1, a2, a3, a4, a5, a6, a7, a8] (st) h z bc bs Kr Kx) (kf : x = 0 → QW V iL_law 2105 [a0, a1, a2, a3, a4, a5, a6, a7, a8] (st) h z bc bs Kr Kx) : QW V iL_law 2102 [a0, a1, a2, a3, a4, a5, a6, a7, a8] (.int x :: st) h z bc bs Kr Kx := q_if_ne dL_law_2102 (by decide) kt kf
theorem dL_law_2105 : decode (i_b iL_law) 2105 = .ok (.aload_n 3, 1) := by decide +kernel
theorem wL_law_2105 {x : Nat} (kk : QW V iL_law 2106 [a0, a1, a2, some (.ref x), a4, a5, a6, a7, a8] (.ref x :: st) h z bc bs Kr Kx) : QW V iL_law 2105 [a0, a1, a2, some (.ref x), a4, a5, a6, a7, a8] (st) h z bc bs Kr Kx := q_aload_n dL_law_2105 rfl rfl kk
theorem dL_law_2106 : decode (i_b iL_law) 2106 = .ok (.iconst 0, 1) := by decide +kernel
theorem wL_law_2106  (kk : QW V iL_law 2107 [a0, a1, a2, a3, a4, a5, a6, a7, a8] (.int (0) :: st) h z bc bs Kr Kx) : QW V iL_law 2106 [a0, a1, a2, a3, a4, a5, a6, a7, a8] (st) h z bc bs Kr Kx := q_iconst dL_law_2106 (by decide) kk
theorem dL_law_2107 : decode (i_b iL_law) 2107 = .ok (.laload, 1) := by decide +kernel
theorem wL_law_2107 {a n j : Nat} {f : Nat → Int64} {i : Int32} (ha : h a = some (.inl (2, n, .inr (.inl f)))) (hi : i = nI j) (hj : j < n) (hn : n < 2147483648) (kk : QW V iL_law 2108 [a0, a1, a2, a3, a4, a5, a6, a7, a8] (.long (f j) :: st) h z bc bs Kr Kx) : QW V iL_law 2107 [a0, a1, a2, a3, a4, a5, a6, a7, a8] (.int i :: .ref a :: st) h z bc bs Kr Kx := q_lald dL_law_2107 ha hi hj hn kk
theorem dL_law_2108 : decode (i_b iL_law) 2108 = .ok (.iload 7, 2) := by decide +kernel
theorem wL_law_2108 {x : Int32} (kk : QW V iL_law 2110 [a0, a1, a2, a3, a4, a5, a6, some (.int x), a8] (.int x :: st) h z bc bs Kr Kx) : QW V iL_law 2108 [a0, a1, a2, a3, a4, a5, a6, some (.int x), a8] (st) h z bc bs Kr Kx := q_iload dL_law_2108 rfl kk
theorem dL_law_2110 : decode (i_b iL_law) 2110 = .ok (.i2l, 1) := by decide +kernel
theorem wL_law_2110 {x : Int32} (kk : QW V iL_law 2111 [a0, a1, a2, a3, a4, a5, a6, a7, a8] (.long (x.toInt64) :: st) h z bc bs Kr Kx) : QW V iL_law 2110 [a0, a1, a2, a3, a4, a5, a6, a7, a8] (.int x :: st) h z bc bs Kr Kx := q_i2l dL_law_2110 kk
theorem dL_law_2111 : decode (i_b iL_law) 2111 = .ok (.lcmp, 1) := by decide +kernel
theorem dL_law_2112 : decode (i_b iL_law) 2112 = .ok (.ifCond .eq 5, 3) := by decide +kernel
theorem wL_law_2111 {x y : Int64} (kt : x = y → QW V iL_law 2117 [a0, a1, a2, a3, a4, a5, a6, a7, a8] (st) h z bc bs Kr Kx) (kf : ¬ x = y → QW V iL_law 2115 [a0, a1, a2, a3, a4, a5, a6, a7, a8] (st) h z bc bs Kr Kx) : QW V iL_law 2111 [a0, a1, a2, a3, a4, a5, a6, a7, a8] (.long y :: .long x :: st) h z bc bs Kr Kx := q_lcmp dL_law_2111 (q_if_eq dL_law_2112 (by decide) (fun q => kt ((q_lc_eq x y).mp q)) (fun q => kf (q_lcn_eq q)))
theorem dL_law_2115 : decode (i_b iL_law) 2115 = .ok (.iconst 0, 1) := by decide +kernel
theorem wL_law_2115  (kk : QW V iL_law 2116 [a0, a1, a2, a3, a4, a5, a6, a7, a8] (.int (0) :: st) h z bc bs Kr Kx) : QW V iL_law 2115 [a0, a1, a2, a3, a4, a5, a6, a7, a8] (st) h z bc bs Kr Kx := q_iconst dL_law_2115 (by decide) kk
theorem dL_law_2116 : decode (i_b iL_law) 2116 = .ok (.ireturn, 1) := by decide +kernel
theorem wL_law_2116 {x : Int32} {P : Int32 → q_H → Option Nat → Prop} (hk : P x h z) (hn : narrow .boolean (.int x) = .int x := by first | rfl | exact q_b_n _) : QW V iL_law 2116 [a0, a1, a2, a3, a4, a5, a6, a7, a8] [.int x] h z bc bs (q_Ki P) Kx := q_iret dL_law_2116 rfl hn ⟨x, rfl, hk⟩
theorem dL_law_2117 : decode (i_b iL_law) 2117 = .ok (.goto 634, 3) := by decide +kernel
theorem wL_law_2117  (kk : QW V iL_law 2751 [a0, a1, a2, a3, a4, a5, a6, a7, a8] (st) h z bc bs Kr Kx) : QW V iL_law 2117 [a0, a1, a2, a3, a4, a5, a6, a7, a8] (st) h z bc bs Kr Kx := q_goto dL_law_2117 (by decide) kk
theorem dL_law_2120 : decode (i_b iL_law) 2120 = .ok (.aload_n 1, 1) := by decide +kernel
theorem wL_law_2120 {x : Nat} (kk : QW V iL_law 2121 [a0, some (.ref x), a2, a3, a4, a5, a6, a7, a8] (.ref x :: st) h z bc bs Kr Kx) : QW V iL_law 2120 [a0, some (.ref x), a2, a3, a4, a5, a6, a7, a8] (st) h z bc bs Kr Kx := q_aload_n dL_law_2120 rfl rfl kk
theorem dL_law_2121 : decode (i_b iL_law) 2121 = .ok (.aload_n 0, 1) := by decide +kernel
theorem wL_law_2121 {x : Nat} (kk : QW V iL_law 2122 [some (.ref x), a1, a2, a3, a4, a5, a6, a7, a8] (.ref x :: st) h z bc bs Kr Kx) : QW V iL_law 2121 [some (.ref x), a1, a2, a3, a4, a5, a6, a7, a8] (st) h z bc bs Kr Kx := q_aload_n dL_law_2121 rfl rfl kk
theorem dL_law_2122 : decode (i_b iL_law) 2122 = .ok (.iload 5, 2) := by decide +kernel
theorem wL_law_2122 {x : Int32} (kk : QW V iL_law 2124 [a0, a1, a2, a3, a4, some (.int x), a6, a7, a8] (.int x :: st) h z bc bs Kr Kx) : QW V iL_law 2122 [a0, a1, a2, a3, a4, some (.int x), a6, a7, a8] (st) h z bc bs Kr Kx := q_iload dL_law_2122 rfl kk
theorem dL_law_2124 : decode (i_b iL_law) 2124 = .ok (.iconst 1, 1) := by decide +kernel
theorem wL_law_2124  (kk : QW V iL_law 2125 [a0, a1, a2, a3, a4, a5, a6, a7, a8] (.int (1) :: st) h z bc bs Kr Kx) : QW V iL_law 2124 [a0, a1, a2, a3, a4, a5, a6, a7, a8] (st) h z bc bs Kr Kx := q_iconst dL_law_2124 (by decide) kk
theorem dL_law_2125 : decode (i_b iL_law) 2125 = .ok (.iadd, 1) := by decide +kernel
theorem wL_law_2125 {x y : Int32} (kk : QW V iL_law 2126 [a0, a1, a2, a3, a4, a5, a6, a7, a8] (.int (x + y) :: st) h z bc bs Kr Kx) : QW V iL_law 2125 [a0, a1, a2, a3, a4, a5, a6, a7, a8] (.int y :: .int x :: st) h z bc bs Kr Kx := q_iadd dL_law_2125 kk
theorem dL_law_2126 : decode (i_b iL_law) 2126 = .ok (.iaload, 1) := by decide +kernel
theorem wL_law_2126 {j : Nat} {i : Int32} (hi : i = nI j) (hj : j < e_sL V) (hn : e_sL V < 2147483648) (kk : QW V iL_law 2127 [a0, a1, a2, a3, a4, a5, a6, a7, a8] (.int (e_xs V j) :: st) h z bc bs Kr Kx) : QW V iL_law 2126 [a0, a1, a2, a3, a4, a5, a6, a7, a8] (.int i :: .ref (e_sb V) :: st) h z bc bs Kr Kx := q_sld dL_law_2126 hi hj hn kk
theorem dL_law_2127 : decode (i_b iL_law) 2127 = .ok (.aload_n 0, 1) := by decide +kernel
theorem wL_law_2127 {x : Nat} (kk : QW V iL_law 2128 [some (.ref x), a1, a2, a3, a4, a5, a6, a7, a8] (.ref x :: st) h z bc bs Kr Kx) : QW V iL_law 2127 [some (.ref x), a1, a2, a3, a4, a5, a6, a7, a8] (st) h z bc bs Kr Kx := q_aload_n dL_law_2127 rfl rfl kk
theorem dL_law_2128 : decode (i_b iL_law) 2128 = .ok (.iload 5, 2) := by decide +kernel
theorem wL_law_2128 {x : Int32} (kk : QW V iL_law 2130 [a0, a1, a2, a3, a4, some (.int x), a6, a7, a8] (.int x :: st) h z bc bs Kr Kx) : QW V iL_law 2128 [a0, a1, a2, a3, a4, some (.int x), a6, a7, a8] (st) h z bc bs Kr Kx := q_iload dL_law_2128 rfl kk
theorem dL_law_2130 : decode (i_b iL_law) 2130 = .ok (.iconst 2, 1) := by decide +kernel
theorem wL_law_2130  (kk : QW V iL_law 2131 [a0, a1, a2, a3, a4, a5, a6, a7, a8] (.int (2) :: st) h z bc bs Kr Kx) : QW V iL_law 2130 [a0, a1, a2, a3, a4, a5, a6, a7, a8] (st) h z bc bs Kr Kx := q_iconst dL_law_2130 (by decide) kk
theorem dL_law_2131 : decode (i_b iL_law) 2131 = .ok (.iadd, 1) := by decide +kernel
theorem wL_law_2131 {x y : Int32} (kk : QW V iL_law 2132 [a0, a1, a2, a3, a4, a5, a6, a7, a8] (.int (x + y) :: st) h z bc bs Kr Kx) : QW V iL_law 2131 [a0, a1, a2, a3, a4, a5, a6, a7, a8] (.int y :: .int x :: st) h z bc bs Kr Kx := q_iadd dL_law_2131 kk
theorem dL_law_2132 : decode (i_b iL_law) 2132 = .ok (.iaload, 1) := by decide +kernel
theorem wL_law_2132 {j : Nat} {i : Int32} (hi : i = nI j) (hj : j < e_sL V) (hn : e_sL V < 2147483648) (kk : QW V iL_law 2133 [a0, a1, a2, a3, a4, a5, a6, a7, a8] (.int (e_xs V j) :: st) h z bc bs Kr Kx) : QW V iL_law 2132 [a0, a1, a2, a3, a4, a5, a6, a7, a8] (.int i :: .ref (e_sb V) :: st) h z bc bs Kr Kx := q_sld dL_law_2132 hi hj hn kk
theorem dL_law_2133 : decode (i_b iL_law) 2133 = .ok (.ifCond .eq 7, 3) := by decide +kernel
theorem wL_law_2133 {x : Int32} (kt : x = 0 → QW V iL_law 2140 [a0, a1, a2, a3, a4, a5, a6, a7, a8] (st) h z bc bs Kr Kx) (kf : ¬ x = 0 → QW V iL_law 2136 [a0, a1, a2, a3, a4, a5, a6, a7, a8] (st) h z bc bs Kr Kx) : QW V iL_law 2133 [a0, a1, a2, a3, a4, a5, a6, a7, a8] (.int x :: st) h z bc bs Kr Kx := q_if_eq dL_law_2133 (by decide) kt kf
theorem dL_law_2136 : decode (i_b iL_law) 2136 = .ok (.iconst 1, 1) := by decide +kernel
theorem wL_law_2136  (kk : QW V iL_law 2137 [a0, a1, a2, a3, a4, a5, a6, a7, a8] (.int (1) :: st) h z bc bs Kr Kx) : QW V iL_law 2136 [a0, a1, a2, a3, a4, a5, a6, a7, a8] (st) h z bc bs Kr Kx := q_iconst dL_law_2136 (by decide) kk
theorem dL_law_2137 : decode (i_b iL_law) 2137 = .ok (.goto 4, 3) := by decide +kernel
theorem wL_law_2137  (kk : QW V iL_law 2141 [a0, a1, a2, a3, a4, a5, a6, a7, a8] (st) h z bc bs Kr Kx) : QW V iL_law 2137 [a0, a1, a2, a3, a4, a5, a6, a7, a8] (st) h z bc bs Kr Kx := q_goto dL_law_2137 (by decide) kk
theorem dL_law_2140 : decode (i_b iL_law) 2140 = .ok (.iconst 0, 1) := by decide +kernel
theorem wL_law_2140  (kk : QW V iL_law 2141 [a0, a1, a2, a3, a4, a5, a6, a7, a8] (.int (0) :: st) h z bc bs Kr Kx) : QW V iL_law 2140 [a0, a1, a2, a3, a4, a5, a6, a7, a8] (st) h z bc bs Kr Kx := q_iconst dL_law_2140 (by decide) kk
theorem dL_law_2141 : decode (i_b iL_law) 2141 = .ok (.aload_n 0, 1) := by decide +kernel
theorem wL_law_2141 {x : Nat} (kk : QW V iL_law 2142 [some (.ref x), a1, a2, a3, a4, a5, a6, a7, a8] (.ref x :: st) h z bc bs Kr Kx) : QW V iL_law 2141 [some (.ref x), a1, a2, a3, a4, a5, a6, a7, a8] (st) h z bc bs Kr Kx := q_aload_n dL_law_2141 rfl rfl kk
theorem dL_law_2142 : decode (i_b iL_law) 2142 = .ok (.iload 5, 2) := by decide +kernel
theorem wL_law_2142 {x : Int32} (kk : QW V iL_law 2144 [a0, a1, a2, a3, a4, some (.int x), a6, a7, a8] (.int x :: st) h z bc bs Kr Kx) : QW V iL_law 2142 [a0, a1, a2, a3, a4, some (.int x), a6, a7, a8] (st) h z bc bs Kr Kx := q_iload dL_law_2142 rfl kk
theorem dL_law_2144 : decode (i_b iL_law) 2144 = .ok (.iconst 3, 1) := by decide +kernel
theorem wL_law_2144  (kk : QW V iL_law 2145 [a0, a1, a2, a3, a4, a5, a6, a7, a8] (.int (3) :: st) h z bc bs Kr Kx) : QW V iL_law 2144 [a0, a1, a2, a3, a4, a5, a6, a7, a8] (st) h z bc bs Kr Kx := q_iconst dL_law_2144 (by decide) kk
theorem dL_law_2145 : decode (i_b iL_law) 2145 = .ok (.iadd, 1) := by decide +kernel
theorem wL_law_2145 {x y : Int32} (kk : QW V iL_law 2146 [a0, a1, a2, a3, a4, a5, a6, a7, a8] (.int (x + y) :: st) h z bc bs Kr Kx) : QW V iL_law 2145 [a0, a1, a2, a3, a4, a5, a6, a7, a8] (.int y :: .int x :: st) h z bc bs Kr Kx := q_iadd dL_law_2145 kk
theorem dL_law_2146 : decode (i_b iL_law) 2146 = .ok (.iaload, 1) := by decide +kernel
theorem wL_law_2146 {j : Nat} {i : Int32} (hi : i = nI j) (hj : j < e_sL V) (hn : e_sL V < 2147483648) (kk : QW V iL_law 2147 [a0, a1, a2, a3, a4, a5, a6, a7, a8] (.int (e_xs V j) :: st) h z bc bs Kr Kx) : QW V iL_law 2146 [a0, a1, a2, a3, a4, a5, a6, a7, a8] (.int i :: .ref (e_sb V) :: st) h z bc bs Kr Kx := q_sld dL_law_2146 hi hj hn kk
theorem dL_law_2147 : decode (i_b iL_law) 2147 = .ok (.aload_n 3, 1) := by decide +kernel
theorem wL_law_2147 {x : Nat} (kk : QW V iL_law 2148 [a0, a1, a2, some (.ref x), a4, a5, a6, a7, a8] (.ref x :: st) h z bc bs Kr Kx) : QW V iL_law 2147 [a0, a1, a2, some (.ref x), a4, a5, a6, a7, a8] (st) h z bc bs Kr Kx := q_aload_n dL_law_2147 rfl rfl kk
theorem dL_law_2148 : decode (i_b iL_law) 2148 = .ok (.invokestatic 249, 3) := by decide +kernel
theorem wL_law_2148 {x0 : Nat} {x1 : Int32} {x2 : Int32} {x3 : Int32} {x4 : Nat} (hm : QMi V iL_releaseCost [.ref x0, .int x1, .int x2, .int x3, .ref x4] h z (fun r h' z' => QW V iL_law 2151 [a0, a1, a2, a3, a4, a5, a6, a7, a8] (.int r :: st) h' z' bc bs Kr Kx) Kx) (hW : (st.map fun v => v.category).sum ≤ 8 := by exact Nat.le_of_ble_eq_true rfl) : QW V iL_law 2148 [a0, a1, a2, a3, a4, a5, a6, a7, a8] (.ref x4 :: .int x3 :: .int x2 :: .int x1 :: .ref x0 :: st) h z (bc + 3) (bs + 18) Kr Kx := q_callSX (y' := iL_releaseCost) (As := [.ref x0, .int x1, .int x2, .int x3, .ref x4]) (rest := st) dL_law_2148 k5_95 k5_96 k1_0 hhL_releaseCost (by decide) hdL_releaseCost rfl (Nat.le_of_ble_eq_true rfl) (Nat.le_of_ble_eq_true rfl) hW rfl (QMi.run hm)
theorem dL_law_2151 : decode (i_b iL_law) 2151 = .ok (.istore 6, 2) := by decide +kernel
theorem wL_law_2151 {x : Int32} (kk : QW V iL_law 2153 [a0, a1, a2, a3, a4, a5, some (.int x), a7, a8] (st) h z bc bs Kr Kx) (hp : q_n2 a5 = true := by rfl) : QW V iL_law 2151 [a0, a1, a2, a3, a4, a5, a6, a7, a8] (.int x :: st) h z bc bs Kr Kx := q_istore dL_law_2151 (Nat.le_of_ble_eq_true rfl) hp kk
theorem dL_law_2153 : decode (i_b iL_law) 2153 = .ok (.aload_n 2, 1) := by decide +kernel
theorem wL_law_2153 {x : Nat} (kk : QW V iL_law 2154 [a0, a1, some (.ref x), a3, a4, a5, a6, a7, a8] (.ref x :: st) h z bc bs Kr Kx) : QW V iL_law 2153 [a0, a1, some (.ref x), a3, a4, a5, a6, a7, a8] (st) h z bc bs Kr Kx := q_aload_n dL_law_2153 rfl rfl kk
theorem dL_law_2154 : decode (i_b iL_law) 2154 = .ok (.aload_n 0, 1) := by decide +kernel
theorem wL_law_2154 {x : Nat} (kk : QW V iL_law 2155 [some (.ref x), a1, a2, a3, a4, a5, a6, a7, a8] (.ref x :: st) h z bc bs Kr Kx) : QW V iL_law 2154 [some (.ref x), a1, a2, a3, a4, a5, a6, a7, a8] (st) h z bc bs Kr Kx := q_aload_n dL_law_2154 rfl rfl kk
theorem dL_law_2155 : decode (i_b iL_law) 2155 = .ok (.iload 5, 2) := by decide +kernel
theorem wL_law_2155 {x : Int32} (kk : QW V iL_law 2157 [a0, a1, a2, a3, a4, some (.int x), a6, a7, a8] (.int x :: st) h z bc bs Kr Kx) : QW V iL_law 2155 [a0, a1, a2, a3, a4, some (.int x), a6, a7, a8] (st) h z bc bs Kr Kx := q_iload dL_law_2155 rfl kk
theorem dL_law_2157 : decode (i_b iL_law) 2157 = .ok (.iconst 1, 1) := by decide +kernel
theorem wL_law_2157  (kk : QW V iL_law 2158 [a0, a1, a2, a3, a4, a5, a6, a7, a8] (.int (1) :: st) h z bc bs Kr Kx) : QW V iL_law 2157 [a0, a1, a2, a3, a4, a5, a6, a7, a8] (st) h z bc bs Kr Kx := q_iconst dL_law_2157 (by decide) kk
theorem dL_law_2158 : decode (i_b iL_law) 2158 = .ok (.iadd, 1) := by decide +kernel
theorem wL_law_2158 {x y : Int32} (kk : QW V iL_law 2159 [a0, a1, a2, a3, a4, a5, a6, a7, a8] (.int (x + y) :: st) h z bc bs Kr Kx) : QW V iL_law 2158 [a0, a1, a2, a3, a4, a5, a6, a7, a8] (.int y :: .int x :: st) h z bc bs Kr Kx := q_iadd dL_law_2158 kk
theorem dL_law_2159 : decode (i_b iL_law) 2159 = .ok (.iaload, 1) := by decide +kernel
theorem wL_law_2159 {j : Nat} {i : Int32} (hi : i = nI j) (hj : j < e_sL V) (hn : e_sL V < 2147483648) (kk : QW V iL_law 2160 [a0, a1, a2, a3, a4, a5, a6, a7, a8] (.int (e_xs V j) :: st) h z bc bs Kr Kx) : QW V iL_law 2159 [a0, a1, a2, a3, a4, a5, a6, a7, a8] (.int i :: .ref (e_sb V) :: st) h z bc bs Kr Kx := q_sld dL_law_2159 hi hj hn kk
theorem dL_law_2160 : decode (i_b iL_law) 2160 = .ok (.aload_n 0, 1) := by decide +kernel
theorem wL_law_2160 {x : Nat} (kk : QW V iL_law 2161 [some (.ref x), a1, a2, a3, a4, a5, a6, a7, a8] (.ref x :: st) h z bc bs Kr Kx) : QW V iL_law 2160 [some (.ref x), a1, a2, a3, a4, a5, a6, a7, a8] (st) h z bc bs Kr Kx := q_aload_n dL_law_2160 rfl rfl kk
theorem dL_law_2161 : decode (i_b iL_law) 2161 = .ok (.iload 5, 2) := by decide +kernel
theorem wL_law_2161 {x : Int32} (kk : QW V iL_law 2163 [a0, a1, a2, a3, a4, some (.int x), a6, a7, a8] (.int x :: st) h z bc bs Kr Kx) : QW V iL_law 2161 [a0, a1, a2, a3, a4, some (.int x), a6, a7, a8] (st) h z bc bs Kr Kx := q_iload dL_law_2161 rfl kk
theorem dL_law_2163 : decode (i_b iL_law) 2163 = .ok (.iconst 2, 1) := by decide +kernel
theorem wL_law_2163  (kk : QW V iL_law 2164 [a0, a1, a2, a3, a4, a5, a6, a7, a8] (.int (2) :: st) h z bc bs Kr Kx) : QW V iL_law 2163 [a0, a1, a2, a3, a4, a5, a6, a7, a8] (st) h z bc bs Kr Kx := q_iconst dL_law_2163 (by decide) kk
theorem dL_law_2164 : decode (i_b iL_law) 2164 = .ok (.iadd, 1) := by decide +kernel
theorem wL_law_2164 {x y : Int32} (kk : QW V iL_law 2165 [a0, a1, a2, a3, a4, a5, a6, a7, a8] (.int (x + y) :: st) h z bc bs Kr Kx) : QW V iL_law 2164 [a0, a1, a2, a3, a4, a5, a6, a7, a8] (.int y :: .int x :: st) h z bc bs Kr Kx := q_iadd dL_law_2164 kk
theorem dL_law_2165 : decode (i_b iL_law) 2165 = .ok (.iaload, 1) := by decide +kernel
theorem wL_law_2165 {j : Nat} {i : Int32} (hi : i = nI j) (hj : j < e_sL V) (hn : e_sL V < 2147483648) (kk : QW V iL_law 2166 [a0, a1, a2, a3, a4, a5, a6, a7, a8] (.int (e_xs V j) :: st) h z bc bs Kr Kx) : QW V iL_law 2165 [a0, a1, a2, a3, a4, a5, a6, a7, a8] (.int i :: .ref (e_sb V) :: st) h z bc bs Kr Kx := q_sld dL_law_2165 hi hj hn kk
theorem dL_law_2166 : decode (i_b iL_law) 2166 = .ok (.ifCond .eq 7, 3) := by decide +kernel
theorem wL_law_2166 {x : Int32} (kt : x = 0 → QW V iL_law 2173 [a0, a1, a2, a3, a4, a5, a6, a7, a8] (st) h z bc bs Kr Kx) (kf : ¬ x = 0 → QW V iL_law 2169 [a0, a1, a2, a3, a4, a5, a6, a7, a8] (st) h z bc bs Kr Kx) : QW V iL_law 2166 [a0, a1, a2, a3, a4, a5, a6, a7, a8] (.int x :: st) h z bc bs Kr Kx := q_if_eq dL_law_2166 (by decide) kt kf
theorem dL_law_2169 : decode (i_b iL_law) 2169 = .ok (.iconst 1, 1) := by decide +kernel
theorem wL_law_2169  (kk : QW V iL_law 2170 [a0, a1, a2, a3, a4, a5, a6, a7, a8] (.int (1) :: st) h z bc bs Kr Kx) : QW V iL_law 2169 [a0, a1, a2, a3, a4, a5, a6, a7, a8] (st) h z bc bs Kr Kx := q_iconst dL_law_2169 (by decide) kk
theorem dL_law_2170 : decode (i_b iL_law) 2170 = .ok (.goto 4, 3) := by decide +kernel
theorem wL_law_2170  (kk : QW V iL_law 2174 [a0, a1, a2, a3, a4, a5, a6, a7, a8] (st) h z bc bs Kr Kx) : QW V iL_law 2170 [a0, a1, a2, a3, a4, a5, a6, a7, a8] (st) h z bc bs Kr Kx := q_goto dL_law_2170 (by decide) kk
theorem dL_law_2173 : decode (i_b iL_law) 2173 = .ok (.iconst 0, 1) := by decide +kernel
theorem wL_law_2173  (kk : QW V iL_law 2174 [a0, a1, a2, a3, a4, a5, a6, a7, a8] (.int (0) :: st) h z bc bs Kr Kx) : QW V iL_law 2173 [a0, a1, a2, a3, a4, a5, a6, a7, a8] (st) h z bc bs Kr Kx := q_iconst dL_law_2173 (by decide) kk
theorem dL_law_2174 : decode (i_b iL_law) 2174 = .ok (.aload_n 0, 1) := by decide +kernel
theorem wL_law_2174 {x : Nat} (kk : QW V iL_law 2175 [some (.ref x), a1, a2, a3, a4, a5, a6, a7, a8] (.ref x :: st) h z bc bs Kr Kx) : QW V iL_law 2174 [some (.ref x), a1, a2, a3, a4, a5, a6, a7, a8] (st) h z bc bs Kr Kx := q_aload_n dL_law_2174 rfl rfl kk
theorem dL_law_2175 : decode (i_b iL_law) 2175 = .ok (.iload 5, 2) := by decide +kernel
theorem wL_law_2175 {x : Int32} (kk : QW V iL_law 2177 [a0, a1, a2, a3, a4, some (.int x), a6, a7, a8] (.int x :: st) h z bc bs Kr Kx) : QW V iL_law 2175 [a0, a1, a2, a3, a4, some (.int x), a6, a7, a8] (st) h z bc bs Kr Kx := q_iload dL_law_2175 rfl kk
theorem dL_law_2177 : decode (i_b iL_law) 2177 = .ok (.iconst 3, 1) := by decide +kernel
theorem wL_law_2177  (kk : QW V iL_law 2178 [a0, a1, a2, a3, a4, a5, a6, a7, a8] (.int (3) :: st) h z bc bs Kr Kx) : QW V iL_law 2177 [a0, a1, a2, a3, a4, a5, a6, a7, a8] (st) h z bc bs Kr Kx := q_iconst dL_law_2177 (by decide) kk
theorem dL_law_2178 : decode (i_b iL_law) 2178 = .ok (.iadd, 1) := by decide +kernel
theorem wL_law_2178 {x y : Int32} (kk : QW V iL_law 2179 [a0, a1, a2, a3, a4, a5, a6, a7, a8] (.int (x + y) :: st) h z bc bs Kr Kx) : QW V iL_law 2178 [a0, a1, a2, a3, a4, a5, a6, a7, a8] (.int y :: .int x :: st) h z bc bs Kr Kx := q_iadd dL_law_2178 kk
theorem dL_law_2179 : decode (i_b iL_law) 2179 = .ok (.iaload, 1) := by decide +kernel
theorem wL_law_2179 {j : Nat} {i : Int32} (hi : i = nI j) (hj : j < e_sL V) (hn : e_sL V < 2147483648) (kk : QW V iL_law 2180 [a0, a1, a2, a3, a4, a5, a6, a7, a8] (.int (e_xs V j) :: st) h z bc bs Kr Kx) : QW V iL_law 2179 [a0, a1, a2, a3, a4, a5, a6, a7, a8] (.int i :: .ref (e_sb V) :: st) h z bc bs Kr Kx := q_sld dL_law_2179 hi hj hn kk
theorem dL_law_2180 : decode (i_b iL_law) 2180 = .ok (.invokevirtual 252, 3) := by decide +kernel
theorem wL_law_2180 {a : Nat} {fs : List Value} {x0 : Int32} {x1 : Int32} {x2 : Int32} (hb : h a = some (.inr (10, fs))) (hm : QMi V iX9_releaseCost [.ref a, .int x0, .int x1, .int x2] h z (fun r h' z' => QW V iL_law 2183 [a0, a1, a2, a3, a4, a5, a6, a7, a8] (.int r :: st) h' z' bc bs Kr Kx) Kx) (hW : (st.map fun v => v.category).sum ≤ 8 := by exact Nat.le_of_ble_eq_true rfl) : QW V iL_law 2180 [a0, a1, a2, a3, a4, a5, a6, a7, a8] (.int x2 :: .int x1 :: .int x0 :: .ref a :: st) h z bc bs Kr Kx := q_callV (y' := iX9_releaseCost) (As := [.int x0, .int x1, .int x2]) (rest := st) dL_law_2180 k8_11 k8_12 k8_13 k1_10 hhX9_releaseCost rfl hdX9_releaseCost rfl rfl (Nat.le_of_ble_eq_true rfl) (Nat.le_of_ble_eq_true rfl) hW rfl hb (QMi.run hm)
theorem dL_law_2183 : decode (i_b iL_law) 2183 = .ok (.istore 7, 2) := by decide +kernel
theorem wL_law_2183 {x : Int32} (kk : QW V iL_law 2185 [a0, a1, a2, a3, a4, a5, a6, some (.int x), a8] (st) h z bc bs Kr Kx) (hp : q_n2 a6 = true := by rfl) : QW V iL_law 2183 [a0, a1, a2, a3, a4, a5, a6, a7, a8] (.int x :: st) h z bc bs Kr Kx := q_istore dL_law_2183 (Nat.le_of_ble_eq_true rfl) hp kk
theorem dL_law_2185 : decode (i_b iL_law) 2185 = .ok (.aload_n 2, 1) := by decide +kernel
theorem wL_law_2185 {x : Nat} (kk : QW V iL_law 2186 [a0, a1, some (.ref x), a3, a4, a5, a6, a7, a8] (.ref x :: st) h z bc bs Kr Kx) : QW V iL_law 2185 [a0, a1, some (.ref x), a3, a4, a5, a6, a7, a8] (st) h z bc bs Kr Kx := q_aload_n dL_law_2185 rfl rfl kk
theorem dL_law_2186 : decode (i_b iL_law) 2186 = .ok (.invokevirtual 150, 3) := by decide +kernel
theorem wL_law_2186 {a : Nat} {fs : List Value}  (hb : h a = some (.inr (10, fs))) (hm : QMi V iX9_thrown [.ref a] h z (fun r h' z' => QW V iL_law 2189 [a0, a1, a2, a3, a4, a5, a6, a7, a8] (.int r :: st) h' z' bc bs Kr Kx) Kx) (hW : (st.map fun v => v.category).sum ≤ 8 := by exact Nat.le_of_ble_eq_true rfl) : QW V iL_law 2186 [a0, a1, a2, a3, a4, a5, a6, a7, a8] (.ref a :: st) h z bc bs Kr Kx := q_callV (y' := iX9_thrown) (As := []) (rest := st) dL_law_2186 k6_80 k6_81 k6_82 k1_10 hhX9_thrown rfl hdX9_thrown rfl rfl (Nat.le_of_ble_eq_true rfl) (Nat.le_of_ble_eq_true rfl) hW rfl hb (QMi.run hm)
theorem dL_law_2189 : decode (i_b iL_law) 2189 = .ok (.iload 6, 2) := by decide +kernel
theorem wL_law_2189 {x : Int32} (kk : QW V iL_law 2191 [a0, a1, a2, a3, a4, a5, some (.int x), a7, a8] (.int x :: st) h z bc bs Kr Kx) : QW V iL_law 2189 [a0, a1, a2, a3, a4, a5, some (.int x), a7, a8] (st) h z bc bs Kr Kx := q_iload dL_law_2189 rfl kk
theorem dL_law_2191 : decode (i_b iL_law) 2191 = .ok (.if_icmp .eq 5, 3) := by decide +kernel
theorem wL_law_2191 {x y : Int32} (kt : x = y → QW V iL_law 2196 [a0, a1, a2, a3, a4, a5, a6, a7, a8] (st) h z bc bs Kr Kx) (kf : ¬ x = y → QW V iL_law 2194 [a0, a1, a2, a3, a4, a5, a6, a7, a8] (st) h z bc bs Kr Kx) : QW V iL_law 2191 [a0, a1, a2, a3, a4, a5, a6, a7, a8] (.int y :: .int x :: st) h z bc bs Kr Kx := q_icmp_eq dL_law_2191 (by decide) kt kf
theorem dL_law_2194 : decode (i_b iL_law) 2194 = .ok (.iconst 0, 1) := by decide +kernel
theorem wL_law_2194  (kk : QW V iL_law 2195 [a0, a1, a2, a3, a4, a5, a6, a7, a8] (.int (0) :: st) h z bc bs Kr Kx) : QW V iL_law 2194 [a0, a1, a2, a3, a4, a5, a6, a7, a8] (st) h z bc bs Kr Kx := q_iconst dL_law_2194 (by decide) kk
theorem dL_law_2195 : decode (i_b iL_law) 2195 = .ok (.ireturn, 1) := by decide +kernel
theorem wL_law_2195 {x : Int32} {P : Int32 → q_H → Option Nat → Prop} (hk : P x h z) (hn : narrow .boolean (.int x) = .int x := by first | rfl | exact q_b_n _) : QW V iL_law 2195 [a0, a1, a2, a3, a4, a5, a6, a7, a8] [.int x] h z bc bs (q_Ki P) Kx := q_iret dL_law_2195 rfl hn ⟨x, rfl, hk⟩
theorem dL_law_2196 : decode (i_b iL_law) 2196 = .ok (.iload 6, 2) := by decide +kernel
theorem wL_law_2196 {x : Int32} (kk : QW V iL_law 2198 [a0, a1, a2, a3, a4, a5, some (.int x), a7, a8] (.int x :: st) h z bc bs Kr Kx) : QW V iL_law 2196 [a0, a1, a2, a3, a4, a5, some (.int x), a7, a8] (st) h z bc bs Kr Kx := q_iload dL_law_2196 rfl kk
theorem dL_law_2198 : decode (i_b iL_law) 2198 = .ok (.ifCond .ne 15, 3) := by decide +kernel
theorem wL_law_2198 {x : Int32} (kt : ¬ x = 0 → QW V iL_law 2213 [a0, a1, a2, a3, a4, a5, a6, a7, a8] (st) h z bc bs Kr Kx) (kf : x = 0 → QW V iL_law 2201 [a0, a1, a2, a3, a4, a5, a6, a7, a8] (st) h z bc bs Kr Kx) : QW V iL_law 2198 [a0, a1, a2, a3, a4, a5, a6, a7, a8] (.int x :: st) h z bc bs Kr Kx := q_if_ne dL_law_2198 (by decide) kt kf
theorem dL_law_2201 : decode (i_b iL_law) 2201 = .ok (.aload_n 3, 1) := by decide +kernel
theorem wL_law_2201 {x : Nat} (kk : QW V iL_law 2202 [a0, a1, a2, some (.ref x), a4, a5, a6, a7, a8] (.ref x :: st) h z bc bs Kr Kx) : QW V iL_law 2201 [a0, a1, a2, some (.ref x), a4, a5, a6, a7, a8] (st) h z bc bs Kr Kx := q_aload_n dL_law_2201 rfl rfl kk
theorem dL_law_2202 : decode (i_b iL_law) 2202 = .ok (.iconst 0, 1) := by decide +kernel
theorem wL_law_2202  (kk : QW V iL_law 2203 [a0, a1, a2, a3, a4, a5, a6, a7, a8] (.int (0) :: st) h z bc bs Kr Kx) : QW V iL_law 2202 [a0, a1, a2, a3, a4, a5, a6, a7, a8] (st) h z bc bs Kr Kx := q_iconst dL_law_2202 (by decide) kk
theorem dL_law_2203 : decode (i_b iL_law) 2203 = .ok (.laload, 1) := by decide +kernel
theorem wL_law_2203 {a n j : Nat} {f : Nat → Int64} {i : Int32} (ha : h a = some (.inl (2, n, .inr (.inl f)))) (hi : i = nI j) (hj : j < n) (hn : n < 2147483648) (kk : QW V iL_law 2204 [a0, a1, a2, a3, a4, a5, a6, a7, a8] (.long (f j) :: st) h z bc bs Kr Kx) : QW V iL_law 2203 [a0, a1, a2, a3, a4, a5, a6, a7, a8] (.int i :: .ref a :: st) h z bc bs Kr Kx := q_lald dL_law_2203 ha hi hj hn kk
theorem dL_law_2204 : decode (i_b iL_law) 2204 = .ok (.iload 7, 2) := by decide +kernel
theorem wL_law_2204 {x : Int32} (kk : QW V iL_law 2206 [a0, a1, a2, a3, a4, a5, a6, some (.int x), a8] (.int x :: st) h z bc bs Kr Kx) : QW V iL_law 2204 [a0, a1, a2, a3, a4, a5, a6, some (.int x), a8] (st) h z bc bs Kr Kx := q_iload dL_law_2204 rfl kk
theorem dL_law_2206 : decode (i_b iL_law) 2206 = .ok (.i2l, 1) := by decide +kernel
theorem wL_law_2206 {x : Int32} (kk : QW V iL_law 2207 [a0, a1, a2, a3, a4, a5, a6, a7, a8] (.long (x.toInt64) :: st) h z bc bs Kr Kx) : QW V iL_law 2206 [a0, a1, a2, a3, a4, a5, a6, a7, a8] (.int x :: st) h z bc bs Kr Kx := q_i2l dL_law_2206 kk
theorem dL_law_2207 : decode (i_b iL_law) 2207 = .ok (.lcmp, 1) := by decide +kernel
theorem dL_law_2208 : decode (i_b iL_law) 2208 = .ok (.ifCond .eq 5, 3) := by decide +kernel
theorem wL_law_2207 {x y : Int64} (kt : x = y → QW V iL_law 2213 [a0, a1, a2, a3, a4, a5, a6, a7, a8] (st) h z bc bs Kr Kx) (kf : ¬ x = y → QW V iL_law 2211 [a0, a1, a2, a3, a4, a5, a6, a7, a8] (st) h z bc bs Kr Kx) : QW V iL_law 2207 [a0, a1, a2, a3, a4, a5, a6, a7, a8] (.long y :: .long x :: st) h z bc bs Kr Kx := q_lcmp dL_law_2207 (q_if_eq dL_law_2208 (by decide) (fun q => kt ((q_lc_eq x y).mp q)) (fun q => kf (q_lcn_eq q)))
theorem dL_law_2211 : decode (i_b iL_law) 2211 = .ok (.iconst 0, 1) := by decide +kernel
theorem wL_law_2211  (kk : QW V iL_law 2212 [a0, a1, a2, a3, a4, a5, a6, a7, a8] (.int (0) :: st) h z bc bs Kr Kx) : QW V iL_law 2211 [a0, a1, a2, a3, a4, a5, a6, a7, a8] (st) h z bc bs Kr Kx := q_iconst dL_law_2211 (by decide) kk
theorem dL_law_2212 : decode (i_b iL_law) 2212 = .ok (.ireturn, 1) := by decide +kernel
theorem wL_law_2212 {x : Int32} {P : Int32 → q_H → Option Nat → Prop} (hk : P x h z) (hn : narrow .boolean (.int x) = .int x := by first | rfl | exact q_b_n _) : QW V iL_law 2212 [a0, a1, a2, a3, a4, a5, a6, a7, a8] [.int x] h z bc bs (q_Ki P) Kx := q_iret dL_law_2212 rfl hn ⟨x, rfl, hk⟩
theorem dL_law_2213 : decode (i_b iL_law) 2213 = .ok (.goto 538, 3) := by decide +kernel
theorem wL_law_2213  (kk : QW V iL_law 2751 [a0, a1, a2, a3, a4, a5, a6, a7, a8] (st) h z bc bs Kr Kx) : QW V iL_law 2213 [a0, a1, a2, a3, a4, a5, a6, a7, a8] (st) h z bc bs Kr Kx := q_goto dL_law_2213 (by decide) kk
theorem dL_law_2216 : decode (i_b iL_law) 2216 = .ok (.aload_n 1, 1) := by decide +kernel
theorem wL_law_2216 {x : Nat} (kk : QW V iL_law 2217 [a0, some (.ref x), a2, a3, a4, a5, a6, a7, a8] (.ref x :: st) h z bc bs Kr Kx) : QW V iL_law 2216 [a0, some (.ref x), a2, a3, a4, a5, a6, a7, a8] (st) h z bc bs Kr Kx := q_aload_n dL_law_2216 rfl rfl kk
theorem dL_law_2217 : decode (i_b iL_law) 2217 = .ok (.aload_n 0, 1) := by decide +kernel
theorem wL_law_2217 {x : Nat} (kk : QW V iL_law 2218 [some (.ref x), a1, a2, a3, a4, a5, a6, a7, a8] (.ref x :: st) h z bc bs Kr Kx) : QW V iL_law 2217 [some (.ref x), a1, a2, a3, a4, a5, a6, a7, a8] (st) h z bc bs Kr Kx := q_aload_n dL_law_2217 rfl rfl kk
theorem dL_law_2218 : decode (i_b iL_law) 2218 = .ok (.iload 5, 2) := by decide +kernel
theorem wL_law_2218 {x : Int32} (kk : QW V iL_law 2220 [a0, a1, a2, a3, a4, some (.int x), a6, a7, a8] (.int x :: st) h z bc bs Kr Kx) : QW V iL_law 2218 [a0, a1, a2, a3, a4, some (.int x), a6, a7, a8] (st) h z bc bs Kr Kx := q_iload dL_law_2218 rfl kk
theorem dL_law_2220 : decode (i_b iL_law) 2220 = .ok (.iconst 1, 1) := by decide +kernel
theorem wL_law_2220  (kk : QW V iL_law 2221 [a0, a1, a2, a3, a4, a5, a6, a7, a8] (.int (1) :: st) h z bc bs Kr Kx) : QW V iL_law 2220 [a0, a1, a2, a3, a4, a5, a6, a7, a8] (st) h z bc bs Kr Kx := q_iconst dL_law_2220 (by decide) kk
theorem dL_law_2221 : decode (i_b iL_law) 2221 = .ok (.iadd, 1) := by decide +kernel
theorem wL_law_2221 {x y : Int32} (kk : QW V iL_law 2222 [a0, a1, a2, a3, a4, a5, a6, a7, a8] (.int (x + y) :: st) h z bc bs Kr Kx) : QW V iL_law 2221 [a0, a1, a2, a3, a4, a5, a6, a7, a8] (.int y :: .int x :: st) h z bc bs Kr Kx := q_iadd dL_law_2221 kk
theorem dL_law_2222 : decode (i_b iL_law) 2222 = .ok (.iaload, 1) := by decide +kernel
theorem wL_law_2222 {j : Nat} {i : Int32} (hi : i = nI j) (hj : j < e_sL V) (hn : e_sL V < 2147483648) (kk : QW V iL_law 2223 [a0, a1, a2, a3, a4, a5, a6, a7, a8] (.int (e_xs V j) :: st) h z bc bs Kr Kx) : QW V iL_law 2222 [a0, a1, a2, a3, a4, a5, a6, a7, a8] (.int i :: .ref (e_sb V) :: st) h z bc bs Kr Kx := q_sld dL_law_2222 hi hj hn kk
theorem dL_law_2223 : decode (i_b iL_law) 2223 = .ok (.aload_n 0, 1) := by decide +kernel
theorem wL_law_2223 {x : Nat} (kk : QW V iL_law 2224 [some (.ref x), a1, a2, a3, a4, a5, a6, a7, a8] (.ref x :: st) h z bc bs Kr Kx) : QW V iL_law 2223 [some (.ref x), a1, a2, a3, a4, a5, a6, a7, a8] (st) h z bc bs Kr Kx := q_aload_n dL_law_2223 rfl rfl kk
theorem dL_law_2224 : decode (i_b iL_law) 2224 = .ok (.iload 5, 2) := by decide +kernel
theorem wL_law_2224 {x : Int32} (kk : QW V iL_law 2226 [a0, a1, a2, a3, a4, some (.int x), a6, a7, a8] (.int x :: st) h z bc bs Kr Kx) : QW V iL_law 2224 [a0, a1, a2, a3, a4, some (.int x), a6, a7, a8] (st) h z bc bs Kr Kx := q_iload dL_law_2224 rfl kk
theorem dL_law_2226 : decode (i_b iL_law) 2226 = .ok (.iconst 2, 1) := by decide +kernel
theorem wL_law_2226  (kk : QW V iL_law 2227 [a0, a1, a2, a3, a4, a5, a6, a7, a8] (.int (2) :: st) h z bc bs Kr Kx) : QW V iL_law 2226 [a0, a1, a2, a3, a4, a5, a6, a7, a8] (st) h z bc bs Kr Kx := q_iconst dL_law_2226 (by decide) kk
theorem dL_law_2227 : decode (i_b iL_law) 2227 = .ok (.iadd, 1) := by decide +kernel
theorem wL_law_2227 {x y : Int32} (kk : QW V iL_law 2228 [a0, a1, a2, a3, a4, a5, a6, a7, a8] (.int (x + y) :: st) h z bc bs Kr Kx) : QW V iL_law 2227 [a0, a1, a2, a3, a4, a5, a6, a7, a8] (.int y :: .int x :: st) h z bc bs Kr Kx := q_iadd dL_law_2227 kk
theorem dL_law_2228 : decode (i_b iL_law) 2228 = .ok (.iaload, 1) := by decide +kernel
theorem wL_law_2228 {j : Nat} {i : Int32} (hi : i = nI j) (hj : j < e_sL V) (hn : e_sL V < 2147483648) (kk : QW V iL_law 2229 [a0, a1, a2, a3, a4, a5, a6, a7, a8] (.int (e_xs V j) :: st) h z bc bs Kr Kx) : QW V iL_law 2228 [a0, a1, a2, a3, a4, a5, a6, a7, a8] (.int i :: .ref (e_sb V) :: st) h z bc bs Kr Kx := q_sld dL_law_2228 hi hj hn kk
theorem dL_law_2229 : decode (i_b iL_law) 2229 = .ok (.ifCond .eq 7, 3) := by decide +kernel
theorem wL_law_2229 {x : Int32} (kt : x = 0 → QW V iL_law 2236 [a0, a1, a2, a3, a4, a5, a6, a7, a8] (st) h z bc bs Kr Kx) (kf : ¬ x = 0 → QW V iL_law 2232 [a0, a1, a2, a3, a4, a5, a6, a7, a8] (st) h z bc bs Kr Kx) : QW V iL_law 2229 [a0, a1, a2, a3, a4, a5, a6, a7, a8] (.int x :: st) h z bc bs Kr Kx := q_if_eq dL_law_2229 (by decide) kt kf
theorem dL_law_2232 : decode (i_b iL_law) 2232 = .ok (.iconst 1, 1) := by decide +kernel
theorem wL_law_2232  (kk : QW V iL_law 2233 [a0, a1, a2, a3, a4, a5, a6, a7, a8] (.int (1) :: st) h z bc bs Kr Kx) : QW V iL_law 2232 [a0, a1, a2, a3, a4, a5, a6, a7, a8] (st) h z bc bs Kr Kx := q_iconst dL_law_2232 (by decide) kk
theorem dL_law_2233 : decode (i_b iL_law) 2233 = .ok (.goto 4, 3) := by decide +kernel
theorem wL_law_2233  (kk : QW V iL_law 2237 [a0, a1, a2, a3, a4, a5, a6, a7, a8] (st) h z bc bs Kr Kx) : QW V iL_law 2233 [a0, a1, a2, a3, a4, a5, a6, a7, a8] (st) h z bc bs Kr Kx := q_goto dL_law_2233 (by decide) kk
theorem dL_law_2236 : decode (i_b iL_law) 2236 = .ok (.iconst 0, 1) := by decide +kernel
theorem wL_law_2236  (kk : QW V iL_law 2237 [a0, a1, a2, a3, a4, a5, a6, a7, a8] (.int (0) :: st) h z bc bs Kr Kx) : QW V iL_law 2236 [a0, a1, a2, a3, a4, a5, a6, a7, a8] (st) h z bc bs Kr Kx := q_iconst dL_law_2236 (by decide) kk
theorem dL_law_2237 : decode (i_b iL_law) 2237 = .ok (.aload_n 3, 1) := by decide +kernel
theorem wL_law_2237 {x : Nat} (kk : QW V iL_law 2238 [a0, a1, a2, some (.ref x), a4, a5, a6, a7, a8] (.ref x :: st) h z bc bs Kr Kx) : QW V iL_law 2237 [a0, a1, a2, some (.ref x), a4, a5, a6, a7, a8] (st) h z bc bs Kr Kx := q_aload_n dL_law_2237 rfl rfl kk
theorem dL_law_2238 : decode (i_b iL_law) 2238 = .ok (.invokestatic 253, 3) := by decide +kernel
theorem wL_law_2238 {x0 : Nat} {x1 : Int32} {x2 : Int32} {x3 : Nat} (hm : QMi V iL_releaseGain [.ref x0, .int x1, .int x2, .ref x3] h z (fun r h' z' => QW V iL_law 2241 [a0, a1, a2, a3, a4, a5, a6, a7, a8] (.int r :: st) h' z' bc bs Kr Kx) Kx) (hW : (st.map fun v => v.category).sum ≤ 8 := by exact Nat.le_of_ble_eq_true rfl) : QW V iL_law 2238 [a0, a1, a2, a3, a4, a5, a6, a7, a8] (.ref x3 :: .int x2 :: .int x1 :: .ref x0 :: st) h z (bc + 2) (bs + 12) Kr Kx := q_callSX (y' := iL_releaseGain) (As := [.ref x0, .int x1, .int x2, .ref x3]) (rest := st) dL_law_2238 k5_103 k5_104 k1_0 hhL_releaseGain (by decide) hdL_releaseGain rfl (Nat.le_of_ble_eq_true rfl) (Nat.le_of_ble_eq_true rfl) hW rfl (QMi.run hm)
theorem dL_law_2241 : decode (i_b iL_law) 2241 = .ok (.istore 6, 2) := by decide +kernel
theorem wL_law_2241 {x : Int32} (kk : QW V iL_law 2243 [a0, a1, a2, a3, a4, a5, some (.int x), a7, a8] (st) h z bc bs Kr Kx) (hp : q_n2 a5 = true := by rfl) : QW V iL_law 2241 [a0, a1, a2, a3, a4, a5, a6, a7, a8] (.int x :: st) h z bc bs Kr Kx := q_istore dL_law_2241 (Nat.le_of_ble_eq_true rfl) hp kk
theorem dL_law_2243 : decode (i_b iL_law) 2243 = .ok (.aload_n 2, 1) := by decide +kernel
theorem wL_law_2243 {x : Nat} (kk : QW V iL_law 2244 [a0, a1, some (.ref x), a3, a4, a5, a6, a7, a8] (.ref x :: st) h z bc bs Kr Kx) : QW V iL_law 2243 [a0, a1, some (.ref x), a3, a4, a5, a6, a7, a8] (st) h z bc bs Kr Kx := q_aload_n dL_law_2243 rfl rfl kk
theorem dL_law_2244 : decode (i_b iL_law) 2244 = .ok (.aload_n 0, 1) := by decide +kernel
theorem wL_law_2244 {x : Nat} (kk : QW V iL_law 2245 [some (.ref x), a1, a2, a3, a4, a5, a6, a7, a8] (.ref x :: st) h z bc bs Kr Kx) : QW V iL_law 2244 [some (.ref x), a1, a2, a3, a4, a5, a6, a7, a8] (st) h z bc bs Kr Kx := q_aload_n dL_law_2244 rfl rfl kk
theorem dL_law_2245 : decode (i_b iL_law) 2245 = .ok (.iload 5, 2) := by decide +kernel
theorem wL_law_2245 {x : Int32} (kk : QW V iL_law 2247 [a0, a1, a2, a3, a4, some (.int x), a6, a7, a8] (.int x :: st) h z bc bs Kr Kx) : QW V iL_law 2245 [a0, a1, a2, a3, a4, some (.int x), a6, a7, a8] (st) h z bc bs Kr Kx := q_iload dL_law_2245 rfl kk
theorem dL_law_2247 : decode (i_b iL_law) 2247 = .ok (.iconst 1, 1) := by decide +kernel
theorem wL_law_2247  (kk : QW V iL_law 2248 [a0, a1, a2, a3, a4, a5, a6, a7, a8] (.int (1) :: st) h z bc bs Kr Kx) : QW V iL_law 2247 [a0, a1, a2, a3, a4, a5, a6, a7, a8] (st) h z bc bs Kr Kx := q_iconst dL_law_2247 (by decide) kk
theorem dL_law_2248 : decode (i_b iL_law) 2248 = .ok (.iadd, 1) := by decide +kernel
theorem wL_law_2248 {x y : Int32} (kk : QW V iL_law 2249 [a0, a1, a2, a3, a4, a5, a6, a7, a8] (.int (x + y) :: st) h z bc bs Kr Kx) : QW V iL_law 2248 [a0, a1, a2, a3, a4, a5, a6, a7, a8] (.int y :: .int x :: st) h z bc bs Kr Kx := q_iadd dL_law_2248 kk
theorem dL_law_2249 : decode (i_b iL_law) 2249 = .ok (.iaload, 1) := by decide +kernel
theorem wL_law_2249 {j : Nat} {i : Int32} (hi : i = nI j) (hj : j < e_sL V) (hn : e_sL V < 2147483648) (kk : QW V iL_law 2250 [a0, a1, a2, a3, a4, a5, a6, a7, a8] (.int (e_xs V j) :: st) h z bc bs Kr Kx) : QW V iL_law 2249 [a0, a1, a2, a3, a4, a5, a6, a7, a8] (.int i :: .ref (e_sb V) :: st) h z bc bs Kr Kx := q_sld dL_law_2249 hi hj hn kk
theorem dL_law_2250 : decode (i_b iL_law) 2250 = .ok (.aload_n 0, 1) := by decide +kernel
theorem wL_law_2250 {x : Nat} (kk : QW V iL_law 2251 [some (.ref x), a1, a2, a3, a4, a5, a6, a7, a8] (.ref x :: st) h z bc bs Kr Kx) : QW V iL_law 2250 [some (.ref x), a1, a2, a3, a4, a5, a6, a7, a8] (st) h z bc bs Kr Kx := q_aload_n dL_law_2250 rfl rfl kk
theorem dL_law_2251 : decode (i_b iL_law) 2251 = .ok (.iload 5, 2) := by decide +kernel
theorem wL_law_2251 {x : Int32} (kk : QW V iL_law 2253 [a0, a1, a2, a3, a4, some (.int x), a6, a7, a8] (.int x :: st) h z bc bs Kr Kx) : QW V iL_law 2251 [a0, a1, a2, a3, a4, some (.int x), a6, a7, a8] (st) h z bc bs Kr Kx := q_iload dL_law_2251 rfl kk
theorem dL_law_2253 : decode (i_b iL_law) 2253 = .ok (.iconst 2, 1) := by decide +kernel
theorem wL_law_2253  (kk : QW V iL_law 2254 [a0, a1, a2, a3, a4, a5, a6, a7, a8] (.int (2) :: st) h z bc bs Kr Kx) : QW V iL_law 2253 [a0, a1, a2, a3, a4, a5, a6, a7, a8] (st) h z bc bs Kr Kx := q_iconst dL_law_2253 (by decide) kk
theorem dL_law_2254 : decode (i_b iL_law) 2254 = .ok (.iadd, 1) := by decide +kernel
theorem wL_law_2254 {x y : Int32} (kk : QW V iL_law 2255 [a0, a1, a2, a3, a4, a5, a6, a7, a8] (.int (x + y) :: st) h z bc bs Kr Kx) : QW V iL_law 2254 [a0, a1, a2, a3, a4, a5, a6, a7, a8] (.int y :: .int x :: st) h z bc bs Kr Kx := q_iadd dL_law_2254 kk
theorem dL_law_2255 : decode (i_b iL_law) 2255 = .ok (.iaload, 1) := by decide +kernel
theorem wL_law_2255 {j : Nat} {i : Int32} (hi : i = nI j) (hj : j < e_sL V) (hn : e_sL V < 2147483648) (kk : QW V iL_law 2256 [a0, a1, a2, a3, a4, a5, a6, a7, a8] (.int (e_xs V j) :: st) h z bc bs Kr Kx) : QW V iL_law 2255 [a0, a1, a2, a3, a4, a5, a6, a7, a8] (.int i :: .ref (e_sb V) :: st) h z bc bs Kr Kx := q_sld dL_law_2255 hi hj hn kk
theorem dL_law_2256 : decode (i_b iL_law) 2256 = .ok (.ifCond .eq 7, 3) := by decide +kernel
theorem wL_law_2256 {x : Int32} (kt : x = 0 → QW V iL_law 2263 [a0, a1, a2, a3, a4, a5, a6, a7, a8] (st) h z bc bs Kr Kx) (kf : ¬ x = 0 → QW V iL_law 2259 [a0, a1, a2, a3, a4, a5, a6, a7, a8] (st) h z bc bs Kr Kx) : QW V iL_law 2256 [a0, a1, a2, a3, a4, a5, a6, a7, a8] (.int x :: st) h z bc bs Kr Kx := q_if_eq dL_law_2256 (by decide) kt kf
theorem dL_law_2259 : decode (i_b iL_law) 2259 = .ok (.iconst 1, 1) := by decide +kernel
theorem wL_law_2259  (kk : QW V iL_law 2260 [a0, a1, a2, a3, a4, a5, a6, a7, a8] (.int (1) :: st) h z bc bs Kr Kx) : QW V iL_law 2259 [a0, a1, a2, a3, a4, a5, a6, a7, a8] (st) h z bc bs Kr Kx := q_iconst dL_law_2259 (by decide) kk
theorem dL_law_2260 : decode (i_b iL_law) 2260 = .ok (.goto 4, 3) := by decide +kernel
theorem wL_law_2260  (kk : QW V iL_law 2264 [a0, a1, a2, a3, a4, a5, a6, a7, a8] (st) h z bc bs Kr Kx) : QW V iL_law 2260 [a0, a1, a2, a3, a4, a5, a6, a7, a8] (st) h z bc bs Kr Kx := q_goto dL_law_2260 (by decide) kk
theorem dL_law_2263 : decode (i_b iL_law) 2263 = .ok (.iconst 0, 1) := by decide +kernel
theorem wL_law_2263  (kk : QW V iL_law 2264 [a0, a1, a2, a3, a4, a5, a6, a7, a8] (.int (0) :: st) h z bc bs Kr Kx) : QW V iL_law 2263 [a0, a1, a2, a3, a4, a5, a6, a7, a8] (st) h z bc bs Kr Kx := q_iconst dL_law_2263 (by decide) kk
theorem dL_law_2264 : decode (i_b iL_law) 2264 = .ok (.invokevirtual 255, 3) := by decide +kernel
theorem wL_law_2264 {a : Nat} {fs : List Value} {x0 : Int32} {x1 : Int32} (hb : h a = some (.inr (10, fs))) (hm : QMi V iX9_releaseGain [.ref a, .int x0, .int x1] h z (fun r h' z' => QW V iL_law 2267 [a0, a1, a2, a3, a4, a5, a6, a7, a8] (.int r :: st) h' z' bc bs Kr Kx) Kx) (hW : (st.map fun v => v.category).sum ≤ 8 := by exact Nat.le_of_ble_eq_true rfl) : QW V iL_law 2264 [a0, a1, a2, a3, a4, a5, a6, a7, a8] (.int x1 :: .int x0 :: .ref a :: st) h z bc bs Kr Kx := q_callV (y' := iX9_releaseGain) (As := [.int x0, .int x1]) (rest := st) dL_law_2264 k8_15 k8_16 k8_17 k1_10 hhX9_releaseGain rfl hdX9_releaseGain rfl rfl (Nat.le_of_ble_eq_true rfl) (Nat.le_of_ble_eq_true rfl) hW rfl hb (QMi.run hm)
theorem dL_law_2267 : decode (i_b iL_law) 2267 = .ok (.istore 7, 2) := by decide +kernel
theorem wL_law_2267 {x : Int32} (kk : QW V iL_law 2269 [a0, a1, a2, a3, a4, a5, a6, some (.int x), a8] (st) h z bc bs Kr Kx) (hp : q_n2 a6 = true := by rfl) : QW V iL_law 2267 [a0, a1, a2, a3, a4, a5, a6, a7, a8] (.int x :: st) h z bc bs Kr Kx := q_istore dL_law_2267 (Nat.le_of_ble_eq_true rfl) hp kk
theorem dL_law_2269 : decode (i_b iL_law) 2269 = .ok (.aload_n 2, 1) := by decide +kernel
theorem wL_law_2269 {x : Nat} (kk : QW V iL_law 2270 [a0, a1, some (.ref x), a3, a4, a5, a6, a7, a8] (.ref x :: st) h z bc bs Kr Kx) : QW V iL_law 2269 [a0, a1, some (.ref x), a3, a4, a5, a6, a7, a8] (st) h z bc bs Kr Kx := q_aload_n dL_law_2269 rfl rfl kk
theorem dL_law_2270 : decode (i_b iL_law) 2270 = .ok (.invokevirtual 150, 3) := by decide +kernel
theorem wL_law_2270 {a : Nat} {fs : List Value}  (hb : h a = some (.inr (10, fs))) (hm : QMi V iX9_thrown [.ref a] h z (fun r h' z' => QW V iL_law 2273 [a0, a1, a2, a3, a4, a5, a6, a7, a8] (.int r :: st) h' z' bc bs Kr Kx) Kx) (hW : (st.map fun v => v.category).sum ≤ 8 := by exact Nat.le_of_ble_eq_true rfl) : QW V iL_law 2270 [a0, a1, a2, a3, a4, a5, a6, a7, a8] (.ref a :: st) h z bc bs Kr Kx := q_callV (y' := iX9_thrown) (As := []) (rest := st) dL_law_2270 k6_80 k6_81 k6_82 k1_10 hhX9_thrown rfl hdX9_thrown rfl rfl (Nat.le_of_ble_eq_true rfl) (Nat.le_of_ble_eq_true rfl) hW rfl hb (QMi.run hm)
theorem dL_law_2273 : decode (i_b iL_law) 2273 = .ok (.iload 6, 2) := by decide +kernel
theorem wL_law_2273 {x : Int32} (kk : QW V iL_law 2275 [a0, a1, a2, a3, a4, a5, some (.int x), a7, a8] (.int x :: st) h z bc bs Kr Kx) : QW V iL_law 2273 [a0, a1, a2, a3, a4, a5, some (.int x), a7, a8] (st) h z bc bs Kr Kx := q_iload dL_law_2273 rfl kk
theorem dL_law_2275 : decode (i_b iL_law) 2275 = .ok (.if_icmp .eq 5, 3) := by decide +kernel
theorem wL_law_2275 {x y : Int32} (kt : x = y → QW V iL_law 2280 [a0, a1, a2, a3, a4, a5, a6, a7, a8] (st) h z bc bs Kr Kx) (kf : ¬ x = y → QW V iL_law 2278 [a0, a1, a2, a3, a4, a5, a6, a7, a8] (st) h z bc bs Kr Kx) : QW V iL_law 2275 [a0, a1, a2, a3, a4, a5, a6, a7, a8] (.int y :: .int x :: st) h z bc bs Kr Kx := q_icmp_eq dL_law_2275 (by decide) kt kf
theorem dL_law_2278 : decode (i_b iL_law) 2278 = .ok (.iconst 0, 1) := by decide +kernel
theorem wL_law_2278  (kk : QW V iL_law 2279 [a0, a1, a2, a3, a4, a5, a6, a7, a8] (.int (0) :: st) h z bc bs Kr Kx) : QW V iL_law 2278 [a0, a1, a2, a3, a4, a5, a6, a7, a8] (st) h z bc bs Kr Kx := q_iconst dL_law_2278 (by decide) kk
theorem dL_law_2279 : decode (i_b iL_law) 2279 = .ok (.ireturn, 1) := by decide +kernel
theorem wL_law_2279 {x : Int32} {P : Int32 → q_H → Option Nat → Prop} (hk : P x h z) (hn : narrow .boolean (.int x) = .int x := by first | rfl | exact q_b_n _) : QW V iL_law 2279 [a0, a1, a2, a3, a4, a5, a6, a7, a8] [.int x] h z bc bs (q_Ki P) Kx := q_iret dL_law_2279 rfl hn ⟨x, rfl, hk⟩
theorem dL_law_2280 : decode (i_b iL_law) 2280 = .ok (.iload 6, 2) := by decide +kernel
theorem wL_law_2280 {x : Int32} (kk : QW V iL_law 2282 [a0, a1, a2, a3, a4, a5, some (.int x), a7, a8] (.int x :: st) h z bc bs Kr Kx) : QW V iL_law 2280 [a0, a1, a2, a3, a4, a5, some (.int x), a7, a8] (st) h z bc bs Kr Kx := q_iload dL_law_2280 rfl kk
theorem dL_law_2282 : decode (i_b iL_law) 2282 = .ok (.ifCond .ne 15, 3) := by decide +kernel
theorem wL_law_2282 {x : Int32} (kt : ¬ x = 0 → QW V iL_law 2297 [a0, a1, a2, a3, a4, a5, a6, a7, a8] (st) h z bc bs Kr Kx) (kf : x = 0 → QW V iL_law 2285 [a0, a1, a2, a3, a4, a5, a6, a7, a8] (st) h z bc bs Kr Kx) : QW V iL_law 2282 [a0, a1, a2, a3, a4, a5, a6, a7, a8] (.int x :: st) h z bc bs Kr Kx := q_if_ne dL_law_2282 (by decide) kt kf
theorem dL_law_2285 : decode (i_b iL_law) 2285 = .ok (.aload_n 3, 1) := by decide +kernel
theorem wL_law_2285 {x : Nat} (kk : QW V iL_law 2286 [a0, a1, a2, some (.ref x), a4, a5, a6, a7, a8] (.ref x :: st) h z bc bs Kr Kx) : QW V iL_law 2285 [a0, a1, a2, some (.ref x), a4, a5, a6, a7, a8] (st) h z bc bs Kr Kx := q_aload_n dL_law_2285 rfl rfl kk
theorem dL_law_2286 : decode (i_b iL_law) 2286 = .ok (.iconst 0, 1) := by decide +kernel
theorem wL_law_2286  (kk : QW V iL_law 2287 [a0, a1, a2, a3, a4, a5, a6, a7, a8] (.int (0) :: st) h z bc bs Kr Kx) : QW V iL_law 2286 [a0, a1, a2, a3, a4, a5, a6, a7, a8] (st) h z bc bs Kr Kx := q_iconst dL_law_2286 (by decide) kk
theorem dL_law_2287 : decode (i_b iL_law) 2287 = .ok (.laload, 1) := by decide +kernel
theorem wL_law_2287 {a n j : Nat} {f : Nat → Int64} {i : Int32} (ha : h a = some (.inl (2, n, .inr (.inl f)))) (hi : i = nI j) (hj : j < n) (hn : n < 2147483648) (kk : QW V iL_law 2288 [a0, a1, a2, a3, a4, a5, a6, a7, a8] (.long (f j) :: st) h z bc bs Kr Kx) : QW V iL_law 2287 [a0, a1, a2, a3, a4, a5, a6, a7, a8] (.int i :: .ref a :: st) h z bc bs Kr Kx := q_lald dL_law_2287 ha hi hj hn kk
theorem dL_law_2288 : decode (i_b iL_law) 2288 = .ok (.iload 7, 2) := by decide +kernel
theorem wL_law_2288 {x : Int32} (kk : QW V iL_law 2290 [a0, a1, a2, a3, a4, a5, a6, some (.int x), a8] (.int x :: st) h z bc bs Kr Kx) : QW V iL_law 2288 [a0, a1, a2, a3, a4, a5, a6, some (.int x), a8] (st) h z bc bs Kr Kx := q_iload dL_law_2288 rfl kk
theorem dL_law_2290 : decode (i_b iL_law) 2290 = .ok (.i2l, 1) := by decide +kernel
theorem wL_law_2290 {x : Int32} (kk : QW V iL_law 2291 [a0, a1, a2, a3, a4, a5, a6, a7, a8] (.long (x.toInt64) :: st) h z bc bs Kr Kx) : QW V iL_law 2290 [a0, a1, a2, a3, a4, a5, a6, a7, a8] (.int x :: st) h z bc bs Kr Kx := q_i2l dL_law_2290 kk
theorem dL_law_2291 : decode (i_b iL_law) 2291 = .ok (.lcmp, 1) := by decide +kernel
theorem dL_law_2292 : decode (i_b iL_law) 2292 = .ok (.ifCond .eq 5, 3) := by decide +kernel
theorem wL_law_2291 {x y : Int64} (kt : x = y → QW V iL_law 2297 [a0, a1, a2, a3, a4, a5, a6, a7, a8] (st) h z bc bs Kr Kx) (kf : ¬ x = y → QW V iL_law 2295 [a0, a1, a2, a3, a4, a5, a6, a7, a8] (st) h z bc bs Kr Kx) : QW V iL_law 2291 [a0, a1, a2, a3, a4, a5, a6, a7, a8] (.long y :: .long x :: st) h z bc bs Kr Kx := q_lcmp dL_law_2291 (q_if_eq dL_law_2292 (by decide) (fun q => kt ((q_lc_eq x y).mp q)) (fun q => kf (q_lcn_eq q)))
theorem dL_law_2295 : decode (i_b iL_law) 2295 = .ok (.iconst 0, 1) := by decide +kernel
theorem wL_law_2295  (kk : QW V iL_law 2296 [a0, a1, a2, a3, a4, a5, a6, a7, a8] (.int (0) :: st) h z bc bs Kr Kx) : QW V iL_law 2295 [a0, a1, a2, a3, a4, a5, a6, a7, a8] (st) h z bc bs Kr Kx := q_iconst dL_law_2295 (by decide) kk
theorem dL_law_2296 : decode (i_b iL_law) 2296 = .ok (.ireturn, 1) := by decide +kernel
theorem wL_law_2296 {x : Int32} {P : Int32 → q_H → Option Nat → Prop} (hk : P x h z) (hn : narrow .boolean (.int x) = .int x := by first | rfl | exact q_b_n _) : QW V iL_law 2296 [a0, a1, a2, a3, a4, a5, a6, a7, a8] [.int x] h z bc bs (q_Ki P) Kx := q_iret dL_law_2296 rfl hn ⟨x, rfl, hk⟩
theorem dL_law_2297 : decode (i_b iL_law) 2297 = .ok (.goto 454, 3) := by decide +kernel
theorem wL_law_2297  (kk : QW V iL_law 2751 [a0, a1, a2, a3, a4, a5, a6, a7, a8] (st) h z bc bs Kr Kx) : QW V iL_law 2297 [a0, a1, a2, a3, a4, a5, a6, a7, a8] (st) h z bc bs Kr Kx := q_goto dL_law_2297 (by decide) kk
theorem dL_law_2300 : decode (i_b iL_law) 2300 = .ok (.aload_n 1, 1) := by decide +kernel
theorem wL_law_2300 {x : Nat} (kk : QW V iL_law 2301 [a0, some (.ref x), a2, a3, a4, a5, a6, a7, a8] (.ref x :: st) h z bc bs Kr Kx) : QW V iL_law 2300 [a0, some (.ref x), a2, a3, a4, a5, a6, a7, a8] (st) h z bc bs Kr Kx := q_aload_n dL_law_2300 rfl rfl kk
theorem dL_law_2301 : decode (i_b iL_law) 2301 = .ok (.aload_n 0, 1) := by decide +kernel
theorem wL_law_2301 {x : Nat} (kk : QW V iL_law 2302 [some (.ref x), a1, a2, a3, a4, a5, a6, a7, a8] (.ref x :: st) h z bc bs Kr Kx) : QW V iL_law 2301 [some (.ref x), a1, a2, a3, a4, a5, a6, a7, a8] (st) h z bc bs Kr Kx := q_aload_n dL_law_2301 rfl rfl kk
theorem dL_law_2302 : decode (i_b iL_law) 2302 = .ok (.iload 5, 2) := by decide +kernel
theorem wL_law_2302 {x : Int32} (kk : QW V iL_law 2304 [a0, a1, a2, a3, a4, some (.int x), a6, a7, a8] (.int x :: st) h z bc bs Kr Kx) : QW V iL_law 2302 [a0, a1, a2, a3, a4, some (.int x), a6, a7, a8] (st) h z bc bs Kr Kx := q_iload dL_law_2302 rfl kk
theorem dL_law_2304 : decode (i_b iL_law) 2304 = .ok (.iconst 1, 1) := by decide +kernel
theorem wL_law_2304  (kk : QW V iL_law 2305 [a0, a1, a2, a3, a4, a5, a6, a7, a8] (.int (1) :: st) h z bc bs Kr Kx) : QW V iL_law 2304 [a0, a1, a2, a3, a4, a5, a6, a7, a8] (st) h z bc bs Kr Kx := q_iconst dL_law_2304 (by decide) kk
theorem dL_law_2305 : decode (i_b iL_law) 2305 = .ok (.iadd, 1) := by decide +kernel
theorem wL_law_2305 {x y : Int32} (kk : QW V iL_law 2306 [a0, a1, a2, a3, a4, a5, a6, a7, a8] (.int (x + y) :: st) h z bc bs Kr Kx) : QW V iL_law 2305 [a0, a1, a2, a3, a4, a5, a6, a7, a8] (.int y :: .int x :: st) h z bc bs Kr Kx := q_iadd dL_law_2305 kk
theorem dL_law_2306 : decode (i_b iL_law) 2306 = .ok (.iaload, 1) := by decide +kernel
theorem wL_law_2306 {j : Nat} {i : Int32} (hi : i = nI j) (hj : j < e_sL V) (hn : e_sL V < 2147483648) (kk : QW V iL_law 2307 [a0, a1, a2, a3, a4, a5, a6, a7, a8] (.int (e_xs V j) :: st) h z bc bs Kr Kx) : QW V iL_law 2306 [a0, a1, a2, a3, a4, a5, a6, a7, a8] (.int i :: .ref (e_sb V) :: st) h z bc bs Kr Kx := q_sld dL_law_2306 hi hj hn kk
theorem dL_law_2307 : decode (i_b iL_law) 2307 = .ok (.aload_n 3, 1) := by decide +kernel
theorem wL_law_2307 {x : Nat} (kk : QW V iL_law 2308 [a0, a1, a2, some (.ref x), a4, a5, a6, a7, a8] (.ref x :: st) h z bc bs Kr Kx) : QW V iL_law 2307 [a0, a1, a2, some (.ref x), a4, a5, a6, a7, a8] (st) h z bc bs Kr Kx := q_aload_n dL_law_2307 rfl rfl kk
theorem dL_law_2308 : decode (i_b iL_law) 2308 = .ok (.invokestatic 256, 3) := by decide +kernel
theorem wL_law_2308 {x0 : Nat} {x1 : Int32} {x2 : Nat} (hm : QMi V iL_fewestReleases [.ref x0, .int x1, .ref x2] h z (fun r h' z' => QW V iL_law 2311 [a0, a1, a2, a3, a4, a5, a6, a7, a8] (.int r :: st) h' z' bc bs Kr Kx) Kx) (hW : (st.map fun v => v.category).sum ≤ 8 := by exact Nat.le_of_ble_eq_true rfl) : QW V iL_law 2308 [a0, a1, a2, a3, a4, a5, a6, a7, a8] (.ref x2 :: .int x1 :: .ref x0 :: st) h z (bc + 2) (bs + 12) Kr Kx := q_callSX (y' := iL_fewestReleases) (As := [.ref x0, .int x1, .ref x2]) (rest := st) dL_law_2308 k5_116 k5_117 k1_0 hhL_fewestReleases (by decide) hdL_fewestReleases rfl (Nat.le_of_ble_eq_true rfl) (Nat.le_of_ble_eq_true rfl) hW rfl (QMi.run hm)
theorem dL_law_2311 : decode (i_b iL_law) 2311 = .ok (.istore 6, 2) := by decide +kernel
theorem wL_law_2311 {x : Int32} (kk : QW V iL_law 2313 [a0, a1, a2, a3, a4, a5, some (.int x), a7, a8] (st) h z bc bs Kr Kx) (hp : q_n2 a5 = true := by rfl) : QW V iL_law 2311 [a0, a1, a2, a3, a4, a5, a6, a7, a8] (.int x :: st) h z bc bs Kr Kx := q_istore dL_law_2311 (Nat.le_of_ble_eq_true rfl) hp kk
theorem dL_law_2313 : decode (i_b iL_law) 2313 = .ok (.aload_n 2, 1) := by decide +kernel
theorem wL_law_2313 {x : Nat} (kk : QW V iL_law 2314 [a0, a1, some (.ref x), a3, a4, a5, a6, a7, a8] (.ref x :: st) h z bc bs Kr Kx) : QW V iL_law 2313 [a0, a1, some (.ref x), a3, a4, a5, a6, a7, a8] (st) h z bc bs Kr Kx := q_aload_n dL_law_2313 rfl rfl kk
theorem dL_law_2314 : decode (i_b iL_law) 2314 = .ok (.aload_n 0, 1) := by decide +kernel
theorem wL_law_2314 {x : Nat} (kk : QW V iL_law 2315 [some (.ref x), a1, a2, a3, a4, a5, a6, a7, a8] (.ref x :: st) h z bc bs Kr Kx) : QW V iL_law 2314 [some (.ref x), a1, a2, a3, a4, a5, a6, a7, a8] (st) h z bc bs Kr Kx := q_aload_n dL_law_2314 rfl rfl kk
theorem dL_law_2315 : decode (i_b iL_law) 2315 = .ok (.iload 5, 2) := by decide +kernel
theorem wL_law_2315 {x : Int32} (kk : QW V iL_law 2317 [a0, a1, a2, a3, a4, some (.int x), a6, a7, a8] (.int x :: st) h z bc bs Kr Kx) : QW V iL_law 2315 [a0, a1, a2, a3, a4, some (.int x), a6, a7, a8] (st) h z bc bs Kr Kx := q_iload dL_law_2315 rfl kk
theorem dL_law_2317 : decode (i_b iL_law) 2317 = .ok (.iconst 1, 1) := by decide +kernel
theorem wL_law_2317  (kk : QW V iL_law 2318 [a0, a1, a2, a3, a4, a5, a6, a7, a8] (.int (1) :: st) h z bc bs Kr Kx) : QW V iL_law 2317 [a0, a1, a2, a3, a4, a5, a6, a7, a8] (st) h z bc bs Kr Kx := q_iconst dL_law_2317 (by decide) kk
theorem dL_law_2318 : decode (i_b iL_law) 2318 = .ok (.iadd, 1) := by decide +kernel
theorem wL_law_2318 {x y : Int32} (kk : QW V iL_law 2319 [a0, a1, a2, a3, a4, a5, a6, a7, a8] (.int (x + y) :: st) h z bc bs Kr Kx) : QW V iL_law 2318 [a0, a1, a2, a3, a4, a5, a6, a7, a8] (.int y :: .int x :: st) h z bc bs Kr Kx := q_iadd dL_law_2318 kk
theorem dL_law_2319 : decode (i_b iL_law) 2319 = .ok (.iaload, 1) := by decide +kernel
theorem wL_law_2319 {j : Nat} {i : Int32} (hi : i = nI j) (hj : j < e_sL V) (hn : e_sL V < 2147483648) (kk : QW V iL_law 2320 [a0, a1, a2, a3, a4, a5, a6, a7, a8] (.int (e_xs V j) :: st) h z bc bs Kr Kx) : QW V iL_law 2319 [a0, a1, a2, a3, a4, a5, a6, a7, a8] (.int i :: .ref (e_sb V) :: st) h z bc bs Kr Kx := q_sld dL_law_2319 hi hj hn kk
theorem dL_law_2320 : decode (i_b iL_law) 2320 = .ok (.invokevirtual 258, 3) := by decide +kernel
theorem wL_law_2320 {a : Nat} {fs : List Value} {x0 : Int32} (hb : h a = some (.inr (10, fs))) (hm : QMi V iX9_fewestReleases [.ref a, .int x0] h z (fun r h' z' => QW V iL_law 2323 [a0, a1, a2, a3, a4, a5, a6, a7, a8] (.int r :: st) h' z' bc bs Kr Kx) Kx) (hW : (st.map fun v => v.category).sum ≤ 8 := by exact Nat.le_of_ble_eq_true rfl) : QW V iL_law 2320 [a0, a1, a2, a3, a4, a5, a6, a7, a8] (.int x0 :: .ref a :: st) h z bc bs Kr Kx := q_callV (y' := iX9_fewestReleases) (As := [.int x0]) (rest := st) dL_law_2320 k8_23 k8_24 k8_25 k1_10 hhX9_fewestReleases rfl hdX9_fewestReleases rfl rfl (Nat.le_of_ble_eq_true rfl) (Nat.le_of_ble_eq_true rfl) hW rfl hb (QMi.run hm)
theorem dL_law_2323 : decode (i_b iL_law) 2323 = .ok (.istore 7, 2) := by decide +kernel
theorem wL_law_2323 {x : Int32} (kk : QW V iL_law 2325 [a0, a1, a2, a3, a4, a5, a6, some (.int x), a8] (st) h z bc bs Kr Kx) (hp : q_n2 a6 = true := by rfl) : QW V iL_law 2323 [a0, a1, a2, a3, a4, a5, a6, a7, a8] (.int x :: st) h z bc bs Kr Kx := q_istore dL_law_2323 (Nat.le_of_ble_eq_true rfl) hp kk
theorem dL_law_2325 : decode (i_b iL_law) 2325 = .ok (.aload_n 2, 1) := by decide +kernel
theorem wL_law_2325 {x : Nat} (kk : QW V iL_law 2326 [a0, a1, some (.ref x), a3, a4, a5, a6, a7, a8] (.ref x :: st) h z bc bs Kr Kx) : QW V iL_law 2325 [a0, a1, some (.ref x), a3, a4, a5, a6, a7, a8] (st) h z bc bs Kr Kx := q_aload_n dL_law_2325 rfl rfl kk
theorem dL_law_2326 : decode (i_b iL_law) 2326 = .ok (.invokevirtual 150, 3) := by decide +kernel
theorem wL_law_2326 {a : Nat} {fs : List Value}  (hb : h a = some (.inr (10, fs))) (hm : QMi V iX9_thrown [.ref a] h z (fun r h' z' => QW V iL_law 2329 [a0, a1, a2, a3, a4, a5, a6, a7, a8] (.int r :: st) h' z' bc bs Kr Kx) Kx) (hW : (st.map fun v => v.category).sum ≤ 8 := by exact Nat.le_of_ble_eq_true rfl) : QW V iL_law 2326 [a0, a1, a2, a3, a4, a5, a6, a7, a8] (.ref a :: st) h z bc bs Kr Kx := q_callV (y' := iX9_thrown) (As := []) (rest := st) dL_law_2326 k6_80 k6_81 k6_82 k1_10 hhX9_thrown rfl hdX9_thrown rfl rfl (Nat.le_of_ble_eq_true rfl) (Nat.le_of_ble_eq_true rfl) hW rfl hb (QMi.run hm)
theorem dL_law_2329 : decode (i_b iL_law) 2329 = .ok (.iload 6, 2) := by decide +kernel
theorem wL_law_2329 {x : Int32} (kk : QW V iL_law 2331 [a0, a1, a2, a3, a4, a5, some (.int x), a7, a8] (.int x :: st) h z bc bs Kr Kx) : QW V iL_law 2329 [a0, a1, a2, a3, a4, a5, some (.int x), a7, a8] (st) h z bc bs Kr Kx := q_iload dL_law_2329 rfl kk
theorem dL_law_2331 : decode (i_b iL_law) 2331 = .ok (.if_icmp .eq 5, 3) := by decide +kernel
theorem wL_law_2331 {x y : Int32} (kt : x = y → QW V iL_law 2336 [a0, a1, a2, a3, a4, a5, a6, a7, a8] (st) h z bc bs Kr Kx) (kf : ¬ x = y → QW V iL_law 2334 [a0, a1, a2, a3, a4, a5, a6, a7, a8] (st) h z bc bs Kr Kx) : QW V iL_law 2331 [a0, a1, a2, a3, a4, a5, a6, a7, a8] (.int y :: .int x :: st) h z bc bs Kr Kx := q_icmp_eq dL_law_2331 (by decide) kt kf
theorem dL_law_2334 : decode (i_b iL_law) 2334 = .ok (.iconst 0, 1) := by decide +kernel
theorem wL_law_2334  (kk : QW V iL_law 2335 [a0, a1, a2, a3, a4, a5, a6, a7, a8] (.int (0) :: st) h z bc bs Kr Kx) : QW V iL_law 2334 [a0, a1, a2, a3, a4, a5, a6, a7, a8] (st) h z bc bs Kr Kx := q_iconst dL_law_2334 (by decide) kk
theorem dL_law_2335 : decode (i_b iL_law) 2335 = .ok (.ireturn, 1) := by decide +kernel
theorem wL_law_2335 {x : Int32} {P : Int32 → q_H → Option Nat → Prop} (hk : P x h z) (hn : narrow .boolean (.int x) = .int x := by first | rfl | exact q_b_n _) : QW V iL_law 2335 [a0, a1, a2, a3, a4, a5, a6, a7, a8] [.int x] h z bc bs (q_Ki P) Kx := q_iret dL_law_2335 rfl hn ⟨x, rfl, hk⟩
theorem dL_law_2336 : decode (i_b iL_law) 2336 = .ok (.iload 6, 2) := by decide +kernel
theorem wL_law_2336 {x : Int32} (kk : QW V iL_law 2338 [a0, a1, a2, a3, a4, a5, some (.int x), a7, a8] (.int x :: st) h z bc bs Kr Kx) : QW V iL_law 2336 [a0, a1, a2, a3, a4, a5, some (.int x), a7, a8] (st) h z bc bs Kr Kx := q_iload dL_law_2336 rfl kk
theorem dL_law_2338 : decode (i_b iL_law) 2338 = .ok (.ifCond .ne 15, 3) := by decide +kernel
theorem wL_law_2338 {x : Int32} (kt : ¬ x = 0 → QW V iL_law 2353 [a0, a1, a2, a3, a4, a5, a6, a7, a8] (st) h z bc bs Kr Kx) (kf : x = 0 → QW V iL_law 2341 [a0, a1, a2, a3, a4, a5, a6, a7, a8] (st) h z bc bs Kr Kx) : QW V iL_law 2338 [a0, a1, a2, a3, a4, a5, a6, a7, a8] (.int x :: st) h z bc bs Kr Kx := q_if_ne dL_law_2338 (by decide) kt kf
theorem dL_law_2341 : decode (i_b iL_law) 2341 = .ok (.aload_n 3, 1) := by decide +kernel
theorem wL_law_2341 {x : Nat} (kk : QW V iL_law 2342 [a0, a1, a2, some (.ref x), a4, a5, a6, a7, a8] (.ref x :: st) h z bc bs Kr Kx) : QW V iL_law 2341 [a0, a1, a2, some (.ref x), a4, a5, a6, a7, a8] (st) h z bc bs Kr Kx := q_aload_n dL_law_2341 rfl rfl kk
theorem dL_law_2342 : decode (i_b iL_law) 2342 = .ok (.iconst 0, 1) := by decide +kernel
theorem wL_law_2342  (kk : QW V iL_law 2343 [a0, a1, a2, a3, a4, a5, a6, a7, a8] (.int (0) :: st) h z bc bs Kr Kx) : QW V iL_law 2342 [a0, a1, a2, a3, a4, a5, a6, a7, a8] (st) h z bc bs Kr Kx := q_iconst dL_law_2342 (by decide) kk
theorem dL_law_2343 : decode (i_b iL_law) 2343 = .ok (.laload, 1) := by decide +kernel
theorem wL_law_2343 {a n j : Nat} {f : Nat → Int64} {i : Int32} (ha : h a = some (.inl (2, n, .inr (.inl f)))) (hi : i = nI j) (hj : j < n) (hn : n < 2147483648) (kk : QW V iL_law 2344 [a0, a1, a2, a3, a4, a5, a6, a7, a8] (.long (f j) :: st) h z bc bs Kr Kx) : QW V iL_law 2343 [a0, a1, a2, a3, a4, a5, a6, a7, a8] (.int i :: .ref a :: st) h z bc bs Kr Kx := q_lald dL_law_2343 ha hi hj hn kk
theorem dL_law_2344 : decode (i_b iL_law) 2344 = .ok (.iload 7, 2) := by decide +kernel
theorem wL_law_2344 {x : Int32} (kk : QW V iL_law 2346 [a0, a1, a2, a3, a4, a5, a6, some (.int x), a8] (.int x :: st) h z bc bs Kr Kx) : QW V iL_law 2344 [a0, a1, a2, a3, a4, a5, a6, some (.int x), a8] (st) h z bc bs Kr Kx := q_iload dL_law_2344 rfl kk
theorem dL_law_2346 : decode (i_b iL_law) 2346 = .ok (.i2l, 1) := by decide +kernel
theorem wL_law_2346 {x : Int32} (kk : QW V iL_law 2347 [a0, a1, a2, a3, a4, a5, a6, a7, a8] (.long (x.toInt64) :: st) h z bc bs Kr Kx) : QW V iL_law 2346 [a0, a1, a2, a3, a4, a5, a6, a7, a8] (.int x :: st) h z bc bs Kr Kx := q_i2l dL_law_2346 kk
theorem dL_law_2347 : decode (i_b iL_law) 2347 = .ok (.lcmp, 1) := by decide +kernel
theorem dL_law_2348 : decode (i_b iL_law) 2348 = .ok (.ifCond .eq 5, 3) := by decide +kernel
theorem wL_law_2347 {x y : Int64} (kt : x = y → QW V iL_law 2353 [a0, a1, a2, a3, a4, a5, a6, a7, a8] (st) h z bc bs Kr Kx) (kf : ¬ x = y → QW V iL_law 2351 [a0, a1, a2, a3, a4, a5, a6, a7, a8] (st) h z bc bs Kr Kx) : QW V iL_law 2347 [a0, a1, a2, a3, a4, a5, a6, a7, a8] (.long y :: .long x :: st) h z bc bs Kr Kx := q_lcmp dL_law_2347 (q_if_eq dL_law_2348 (by decide) (fun q => kt ((q_lc_eq x y).mp q)) (fun q => kf (q_lcn_eq q)))
theorem dL_law_2351 : decode (i_b iL_law) 2351 = .ok (.iconst 0, 1) := by decide +kernel
theorem wL_law_2351  (kk : QW V iL_law 2352 [a0, a1, a2, a3, a4, a5, a6, a7, a8] (.int (0) :: st) h z bc bs Kr Kx) : QW V iL_law 2351 [a0, a1, a2, a3, a4, a5, a6, a7, a8] (st) h z bc bs Kr Kx := q_iconst dL_law_2351 (by decide) kk
theorem dL_law_2352 : decode (i_b iL_law) 2352 = .ok (.ireturn, 1) := by decide +kernel
theorem wL_law_2352 {x : Int32} {P : Int32 → q_H → Option Nat → Prop} (hk : P x h z) (hn : narrow .boolean (.int x) = .int x := by first | rfl | exact q_b_n _) : QW V iL_law 2352 [a0, a1, a2, a3, a4, a5, a6, a7, a8] [.int x] h z bc bs (q_Ki P) Kx := q_iret dL_law_2352 rfl hn ⟨x, rfl, hk⟩
theorem dL_law_2353 : decode (i_b iL_law) 2353 = .ok (.goto 398, 3) := by decide +kernel
theorem wL_law_2353  (kk : QW V iL_law 2751 [a0, a1, a2, a3, a4, a5, a6, a7, a8] (st) h z bc bs Kr Kx) : QW V iL_law 2353 [a0, a1, a2, a3, a4, a5, a6, a7, a8] (st) h z bc bs Kr Kx := q_goto dL_law_2353 (by decide) kk
theorem dL_law_2356 : decode (i_b iL_law) 2356 = .ok (.aload_n 1, 1) := by decide +kernel
theorem wL_law_2356 {x : Nat} (kk : QW V iL_law 2357 [a0, some (.ref x), a2, a3, a4, a5, a6, a7, a8] (.ref x :: st) h z bc bs Kr Kx) : QW V iL_law 2356 [a0, some (.ref x), a2, a3, a4, a5, a6, a7, a8] (st) h z bc bs Kr Kx := q_aload_n dL_law_2356 rfl rfl kk
theorem dL_law_2357 : decode (i_b iL_law) 2357 = .ok (.aload_n 0, 1) := by decide +kernel
theorem wL_law_2357 {x : Nat} (kk : QW V iL_law 2358 [some (.ref x), a1, a2, a3, a4, a5, a6, a7, a8] (.ref x :: st) h z bc bs Kr Kx) : QW V iL_law 2357 [some (.ref x), a1, a2, a3, a4, a5, a6, a7, a8] (st) h z bc bs Kr Kx := q_aload_n dL_law_2357 rfl rfl kk
theorem dL_law_2358 : decode (i_b iL_law) 2358 = .ok (.iload 5, 2) := by decide +kernel
theorem wL_law_2358 {x : Int32} (kk : QW V iL_law 2360 [a0, a1, a2, a3, a4, some (.int x), a6, a7, a8] (.int x :: st) h z bc bs Kr Kx) : QW V iL_law 2358 [a0, a1, a2, a3, a4, some (.int x), a6, a7, a8] (st) h z bc bs Kr Kx := q_iload dL_law_2358 rfl kk
theorem dL_law_2360 : decode (i_b iL_law) 2360 = .ok (.iconst 1, 1) := by decide +kernel
theorem wL_law_2360  (kk : QW V iL_law 2361 [a0, a1, a2, a3, a4, a5, a6, a7, a8] (.int (1) :: st) h z bc bs Kr Kx) : QW V iL_law 2360 [a0, a1, a2, a3, a4, a5, a6, a7, a8] (st) h z bc bs Kr Kx := q_iconst dL_law_2360 (by decide) kk
theorem dL_law_2361 : decode (i_b iL_law) 2361 = .ok (.iadd, 1) := by decide +kernel
theorem wL_law_2361 {x y : Int32} (kk : QW V iL_law 2362 [a0, a1, a2, a3, a4, a5, a6, a7, a8] (.int (x + y) :: st) h z bc bs Kr Kx) : QW V iL_law 2361 [a0, a1, a2, a3, a4, a5, a6, a7, a8] (.int y :: .int x :: st) h z bc bs Kr Kx := q_iadd dL_law_2361 kk
theorem dL_law_2362 : decode (i_b iL_law) 2362 = .ok (.iaload, 1) := by decide +kernel
theorem wL_law_2362 {j : Nat} {i : Int32} (hi : i = nI j) (hj : j < e_sL V) (hn : e_sL V < 2147483648) (kk : QW V iL_law 2363 [a0, a1, a2, a3, a4, a5, a6, a7, a8] (.int (e_xs V j) :: st) h z bc bs Kr Kx) : QW V iL_law 2362 [a0, a1, a2, a3, a4, a5, a6, a7, a8] (.int i :: .ref (e_sb V) :: st) h z bc bs Kr Kx := q_sld dL_law_2362 hi hj hn kk
theorem dL_law_2363 : decode (i_b iL_law) 2363 = .ok (.aload_n 3, 1) := by decide +kernel
theorem wL_law_2363 {x : Nat} (kk : QW V iL_law 2364 [a0, a1, a2, some (.ref x), a4, a5, a6, a7, a8] (.ref x :: st) h z bc bs Kr Kx) : QW V iL_law 2363 [a0, a1, a2, some (.ref x), a4, a5, a6, a7, a8] (st) h z bc bs Kr Kx := q_aload_n dL_law_2363 rfl rfl kk
theorem dL_law_2364 : decode (i_b iL_law) 2364 = .ok (.invokestatic 259, 3) := by decide +kernel
theorem wL_law_2364 {x0 : Nat} {x1 : Int32} {x2 : Nat} (hm : QMi V iL_releaseSet [.ref x0, .int x1, .ref x2] h z (fun r h' z' => QW V iL_law 2367 [a0, a1, a2, a3, a4, a5, a6, a7, a8] (.int r :: st) h' z' bc bs Kr Kx) Kx) (hW : (st.map fun v => v.category).sum ≤ 8 := by exact Nat.le_of_ble_eq_true rfl) : QW V iL_law 2364 [a0, a1, a2, a3, a4, a5, a6, a7, a8] (.ref x2 :: .int x1 :: .ref x0 :: st) h z (bc + 2) (bs + 12) Kr Kx := q_callSX (y' := iL_releaseSet) (As := [.ref x0, .int x1, .ref x2]) (rest := st) dL_law_2364 k5_142 k5_143 k1_0 hhL_releaseSet (by decide) hdL_releaseSet rfl (Nat.le_of_ble_eq_true rfl) (Nat.le_of_ble_eq_true rfl) hW rfl (QMi.run hm)
theorem dL_law_2367 : decode (i_b iL_law) 2367 = .ok (.istore 6, 2) := by decide +kernel
theorem wL_law_2367 {x : Int32} (kk : QW V iL_law 2369 [a0, a1, a2, a3, a4, a5, some (.int x), a7, a8] (st) h z bc bs Kr Kx) (hp : q_n2 a5 = true := by rfl) : QW V iL_law 2367 [a0, a1, a2, a3, a4, a5, a6, a7, a8] (.int x :: st) h z bc bs Kr Kx := q_istore dL_law_2367 (Nat.le_of_ble_eq_true rfl) hp kk
theorem dL_law_2369 : decode (i_b iL_law) 2369 = .ok (.aload_n 2, 1) := by decide +kernel
theorem wL_law_2369 {x : Nat} (kk : QW V iL_law 2370 [a0, a1, some (.ref x), a3, a4, a5, a6, a7, a8] (.ref x :: st) h z bc bs Kr Kx) : QW V iL_law 2369 [a0, a1, some (.ref x), a3, a4, a5, a6, a7, a8] (st) h z bc bs Kr Kx := q_aload_n dL_law_2369 rfl rfl kk
theorem dL_law_2370 : decode (i_b iL_law) 2370 = .ok (.aload_n 0, 1) := by decide +kernel
theorem wL_law_2370 {x : Nat} (kk : QW V iL_law 2371 [some (.ref x), a1, a2, a3, a4, a5, a6, a7, a8] (.ref x :: st) h z bc bs Kr Kx) : QW V iL_law 2370 [some (.ref x), a1, a2, a3, a4, a5, a6, a7, a8] (st) h z bc bs Kr Kx := q_aload_n dL_law_2370 rfl rfl kk
theorem dL_law_2371 : decode (i_b iL_law) 2371 = .ok (.iload 5, 2) := by decide +kernel
theorem wL_law_2371 {x : Int32} (kk : QW V iL_law 2373 [a0, a1, a2, a3, a4, some (.int x), a6, a7, a8] (.int x :: st) h z bc bs Kr Kx) : QW V iL_law 2371 [a0, a1, a2, a3, a4, some (.int x), a6, a7, a8] (st) h z bc bs Kr Kx := q_iload dL_law_2371 rfl kk
theorem dL_law_2373 : decode (i_b iL_law) 2373 = .ok (.iconst 1, 1) := by decide +kernel
theorem wL_law_2373  (kk : QW V iL_law 2374 [a0, a1, a2, a3, a4, a5, a6, a7, a8] (.int (1) :: st) h z bc bs Kr Kx) : QW V iL_law 2373 [a0, a1, a2, a3, a4, a5, a6, a7, a8] (st) h z bc bs Kr Kx := q_iconst dL_law_2373 (by decide) kk
theorem dL_law_2374 : decode (i_b iL_law) 2374 = .ok (.iadd, 1) := by decide +kernel
theorem wL_law_2374 {x y : Int32} (kk : QW V iL_law 2375 [a0, a1, a2, a3, a4, a5, a6, a7, a8] (.int (x + y) :: st) h z bc bs Kr Kx) : QW V iL_law 2374 [a0, a1, a2, a3, a4, a5, a6, a7, a8] (.int y :: .int x :: st) h z bc bs Kr Kx := q_iadd dL_law_2374 kk
theorem dL_law_2375 : decode (i_b iL_law) 2375 = .ok (.iaload, 1) := by decide +kernel
theorem wL_law_2375 {j : Nat} {i : Int32} (hi : i = nI j) (hj : j < e_sL V) (hn : e_sL V < 2147483648) (kk : QW V iL_law 2376 [a0, a1, a2, a3, a4, a5, a6, a7, a8] (.int (e_xs V j) :: st) h z bc bs Kr Kx) : QW V iL_law 2375 [a0, a1, a2, a3, a4, a5, a6, a7, a8] (.int i :: .ref (e_sb V) :: st) h z bc bs Kr Kx := q_sld dL_law_2375 hi hj hn kk
theorem dL_law_2376 : decode (i_b iL_law) 2376 = .ok (.invokevirtual 261, 3) := by decide +kernel
theorem wL_law_2376 {a : Nat} {fs : List Value} {x0 : Int32} (hb : h a = some (.inr (10, fs))) (hm : QMi V iX9_releaseSet [.ref a, .int x0] h z (fun r h' z' => QW V iL_law 2379 [a0, a1, a2, a3, a4, a5, a6, a7, a8] (.int r :: st) h' z' bc bs Kr Kx) Kx) (hW : (st.map fun v => v.category).sum ≤ 8 := by exact Nat.le_of_ble_eq_true rfl) : QW V iL_law 2376 [a0, a1, a2, a3, a4, a5, a6, a7, a8] (.int x0 :: .ref a :: st) h z bc bs Kr Kx := q_callV (y' := iX9_releaseSet) (As := [.int x0]) (rest := st) dL_law_2376 k8_31 k8_32 k8_33 k1_10 hhX9_releaseSet rfl hdX9_releaseSet rfl rfl (Nat.le_of_ble_eq_true rfl) (Nat.le_of_ble_eq_true rfl) hW rfl hb (QMi.run hm)
theorem dL_law_2379 : decode (i_b iL_law) 2379 = .ok (.istore 7, 2) := by decide +kernel
theorem wL_law_2379 {x : Int32} (kk : QW V iL_law 2381 [a0, a1, a2, a3, a4, a5, a6, some (.int x), a8] (st) h z bc bs Kr Kx) (hp : q_n2 a6 = true := by rfl) : QW V iL_law 2379 [a0, a1, a2, a3, a4, a5, a6, a7, a8] (.int x :: st) h z bc bs Kr Kx := q_istore dL_law_2379 (Nat.le_of_ble_eq_true rfl) hp kk
theorem dL_law_2381 : decode (i_b iL_law) 2381 = .ok (.aload_n 2, 1) := by decide +kernel
theorem wL_law_2381 {x : Nat} (kk : QW V iL_law 2382 [a0, a1, some (.ref x), a3, a4, a5, a6, a7, a8] (.ref x :: st) h z bc bs Kr Kx) : QW V iL_law 2381 [a0, a1, some (.ref x), a3, a4, a5, a6, a7, a8] (st) h z bc bs Kr Kx := q_aload_n dL_law_2381 rfl rfl kk
theorem dL_law_2382 : decode (i_b iL_law) 2382 = .ok (.invokevirtual 150, 3) := by decide +kernel
theorem wL_law_2382 {a : Nat} {fs : List Value}  (hb : h a = some (.inr (10, fs))) (hm : QMi V iX9_thrown [.ref a] h z (fun r h' z' => QW V iL_law 2385 [a0, a1, a2, a3, a4, a5, a6, a7, a8] (.int r :: st) h' z' bc bs Kr Kx) Kx) (hW : (st.map fun v => v.category).sum ≤ 8 := by exact Nat.le_of_ble_eq_true rfl) : QW V iL_law 2382 [a0, a1, a2, a3, a4, a5, a6, a7, a8] (.ref a :: st) h z bc bs Kr Kx := q_callV (y' := iX9_thrown) (As := []) (rest := st) dL_law_2382 k6_80 k6_81 k6_82 k1_10 hhX9_thrown rfl hdX9_thrown rfl rfl (Nat.le_of_ble_eq_true rfl) (Nat.le_of_ble_eq_true rfl) hW rfl hb (QMi.run hm)
theorem dL_law_2385 : decode (i_b iL_law) 2385 = .ok (.iload 6, 2) := by decide +kernel
theorem wL_law_2385 {x : Int32} (kk : QW V iL_law 2387 [a0, a1, a2, a3, a4, a5, some (.int x), a7, a8] (.int x :: st) h z bc bs Kr Kx) : QW V iL_law 2385 [a0, a1, a2, a3, a4, a5, some (.int x), a7, a8] (st) h z bc bs Kr Kx := q_iload dL_law_2385 rfl kk
theorem dL_law_2387 : decode (i_b iL_law) 2387 = .ok (.if_icmp .eq 5, 3) := by decide +kernel
theorem wL_law_2387 {x y : Int32} (kt : x = y → QW V iL_law 2392 [a0, a1, a2, a3, a4, a5, a6, a7, a8] (st) h z bc bs Kr Kx) (kf : ¬ x = y → QW V iL_law 2390 [a0, a1, a2, a3, a4, a5, a6, a7, a8] (st) h z bc bs Kr Kx) : QW V iL_law 2387 [a0, a1, a2, a3, a4, a5, a6, a7, a8] (.int y :: .int x :: st) h z bc bs Kr Kx := q_icmp_eq dL_law_2387 (by decide) kt kf
theorem dL_law_2390 : decode (i_b iL_law) 2390 = .ok (.iconst 0, 1) := by decide +kernel
theorem wL_law_2390  (kk : QW V iL_law 2391 [a0, a1, a2, a3, a4, a5, a6, a7, a8] (.int (0) :: st) h z bc bs Kr Kx) : QW V iL_law 2390 [a0, a1, a2, a3, a4, a5, a6, a7, a8] (st) h z bc bs Kr Kx := q_iconst dL_law_2390 (by decide) kk
theorem dL_law_2391 : decode (i_b iL_law) 2391 = .ok (.ireturn, 1) := by decide +kernel
theorem wL_law_2391 {x : Int32} {P : Int32 → q_H → Option Nat → Prop} (hk : P x h z) (hn : narrow .boolean (.int x) = .int x := by first | rfl | exact q_b_n _) : QW V iL_law 2391 [a0, a1, a2, a3, a4, a5, a6, a7, a8] [.int x] h z bc bs (q_Ki P) Kx := q_iret dL_law_2391 rfl hn ⟨x, rfl, hk⟩
theorem dL_law_2392 : decode (i_b iL_law) 2392 = .ok (.iload 6, 2) := by decide +kernel
theorem wL_law_2392 {x : Int32} (kk : QW V iL_law 2394 [a0, a1, a2, a3, a4, a5, some (.int x), a7, a8] (.int x :: st) h z bc bs Kr Kx) : QW V iL_law 2392 [a0, a1, a2, a3, a4, a5, some (.int x), a7, a8] (st) h z bc bs Kr Kx := q_iload dL_law_2392 rfl kk
theorem dL_law_2394 : decode (i_b iL_law) 2394 = .ok (.ifCond .ne 15, 3) := by decide +kernel
theorem wL_law_2394 {x : Int32} (kt : ¬ x = 0 → QW V iL_law 2409 [a0, a1, a2, a3, a4, a5, a6, a7, a8] (st) h z bc bs Kr Kx) (kf : x = 0 → QW V iL_law 2397 [a0, a1, a2, a3, a4, a5, a6, a7, a8] (st) h z bc bs Kr Kx) : QW V iL_law 2394 [a0, a1, a2, a3, a4, a5, a6, a7, a8] (.int x :: st) h z bc bs Kr Kx := q_if_ne dL_law_2394 (by decide) kt kf
theorem dL_law_2397 : decode (i_b iL_law) 2397 = .ok (.aload_n 3, 1) := by decide +kernel
theorem wL_law_2397 {x : Nat} (kk : QW V iL_law 2398 [a0, a1, a2, some (.ref x), a4, a5, a6, a7, a8] (.ref x :: st) h z bc bs Kr Kx) : QW V iL_law 2397 [a0, a1, a2, some (.ref x), a4, a5, a6, a7, a8] (st) h z bc bs Kr Kx := q_aload_n dL_law_2397 rfl rfl kk
theorem dL_law_2398 : decode (i_b iL_law) 2398 = .ok (.iconst 0, 1) := by decide +kernel
theorem wL_law_2398  (kk : QW V iL_law 2399 [a0, a1, a2, a3, a4, a5, a6, a7, a8] (.int (0) :: st) h z bc bs Kr Kx) : QW V iL_law 2398 [a0, a1, a2, a3, a4, a5, a6, a7, a8] (st) h z bc bs Kr Kx := q_iconst dL_law_2398 (by decide) kk
theorem dL_law_2399 : decode (i_b iL_law) 2399 = .ok (.laload, 1) := by decide +kernel
theorem wL_law_2399 {a n j : Nat} {f : Nat → Int64} {i : Int32} (ha : h a = some (.inl (2, n, .inr (.inl f)))) (hi : i = nI j) (hj : j < n) (hn : n < 2147483648) (kk : QW V iL_law 2400 [a0, a1, a2, a3, a4, a5, a6, a7, a8] (.long (f j) :: st) h z bc bs Kr Kx) : QW V iL_law 2399 [a0, a1, a2, a3, a4, a5, a6, a7, a8] (.int i :: .ref a :: st) h z bc bs Kr Kx := q_lald dL_law_2399 ha hi hj hn kk
theorem dL_law_2400 : decode (i_b iL_law) 2400 = .ok (.iload 7, 2) := by decide +kernel
theorem wL_law_2400 {x : Int32} (kk : QW V iL_law 2402 [a0, a1, a2, a3, a4, a5, a6, some (.int x), a8] (.int x :: st) h z bc bs Kr Kx) : QW V iL_law 2400 [a0, a1, a2, a3, a4, a5, a6, some (.int x), a8] (st) h z bc bs Kr Kx := q_iload dL_law_2400 rfl kk
theorem dL_law_2402 : decode (i_b iL_law) 2402 = .ok (.i2l, 1) := by decide +kernel
theorem wL_law_2402 {x : Int32} (kk : QW V iL_law 2403 [a0, a1, a2, a3, a4, a5, a6, a7, a8] (.long (x.toInt64) :: st) h z bc bs Kr Kx) : QW V iL_law 2402 [a0, a1, a2, a3, a4, a5, a6, a7, a8] (.int x :: st) h z bc bs Kr Kx := q_i2l dL_law_2402 kk
theorem dL_law_2403 : decode (i_b iL_law) 2403 = .ok (.lcmp, 1) := by decide +kernel
theorem dL_law_2404 : decode (i_b iL_law) 2404 = .ok (.ifCond .eq 5, 3) := by decide +kernel
theorem wL_law_2403 {x y : Int64} (kt : x = y → QW V iL_law 2409 [a0, a1, a2, a3, a4, a5, a6, a7, a8] (st) h z bc bs Kr Kx) (kf : ¬ x = y → QW V iL_law 2407 [a0, a1, a2, a3, a4, a5, a6, a7, a8] (st) h z bc bs Kr Kx) : QW V iL_law 2403 [a0, a1, a2, a3, a4, a5, a6, a7, a8] (.long y :: .long x :: st) h z bc bs Kr Kx := q_lcmp dL_law_2403 (q_if_eq dL_law_2404 (by decide) (fun q => kt ((q_lc_eq x y).mp q)) (fun q => kf (q_lcn_eq q)))
theorem dL_law_2407 : decode (i_b iL_law) 2407 = .ok (.iconst 0, 1) := by decide +kernel
theorem wL_law_2407  (kk : QW V iL_law 2408 [a0, a1, a2, a3, a4, a5, a6, a7, a8] (.int (0) :: st) h z bc bs Kr Kx) : QW V iL_law 2407 [a0, a1, a2, a3, a4, a5, a6, a7, a8] (st) h z bc bs Kr Kx := q_iconst dL_law_2407 (by decide) kk
theorem dL_law_2408 : decode (i_b iL_law) 2408 = .ok (.ireturn, 1) := by decide +kernel
theorem wL_law_2408 {x : Int32} {P : Int32 → q_H → Option Nat → Prop} (hk : P x h z) (hn : narrow .boolean (.int x) = .int x := by first | rfl | exact q_b_n _) : QW V iL_law 2408 [a0, a1, a2, a3, a4, a5, a6, a7, a8] [.int x] h z bc bs (q_Ki P) Kx := q_iret dL_law_2408 rfl hn ⟨x, rfl, hk⟩
theorem dL_law_2409 : decode (i_b iL_law) 2409 = .ok (.goto 342, 3) := by decide +kernel
theorem wL_law_2409  (kk : QW V iL_law 2751 [a0, a1, a2, a3, a4, a5, a6, a7, a8] (st) h z bc bs Kr Kx) : QW V iL_law 2409 [a0, a1, a2, a3, a4, a5, a6, a7, a8] (st) h z bc bs Kr Kx := q_goto dL_law_2409 (by decide) kk
theorem dL_law_2412 : decode (i_b iL_law) 2412 = .ok (.aload_n 1, 1) := by decide +kernel
theorem wL_law_2412 {x : Nat} (kk : QW V iL_law 2413 [a0, some (.ref x), a2, a3, a4, a5, a6, a7, a8] (.ref x :: st) h z bc bs Kr Kx) : QW V iL_law 2412 [a0, some (.ref x), a2, a3, a4, a5, a6, a7, a8] (st) h z bc bs Kr Kx := q_aload_n dL_law_2412 rfl rfl kk
theorem dL_law_2413 : decode (i_b iL_law) 2413 = .ok (.aload_n 0, 1) := by decide +kernel
theorem wL_law_2413 {x : Nat} (kk : QW V iL_law 2414 [some (.ref x), a1, a2, a3, a4, a5, a6, a7, a8] (.ref x :: st) h z bc bs Kr Kx) : QW V iL_law 2413 [some (.ref x), a1, a2, a3, a4, a5, a6, a7, a8] (st) h z bc bs Kr Kx := q_aload_n dL_law_2413 rfl rfl kk
theorem dL_law_2414 : decode (i_b iL_law) 2414 = .ok (.iload 5, 2) := by decide +kernel
theorem wL_law_2414 {x : Int32} (kk : QW V iL_law 2416 [a0, a1, a2, a3, a4, some (.int x), a6, a7, a8] (.int x :: st) h z bc bs Kr Kx) : QW V iL_law 2414 [a0, a1, a2, a3, a4, some (.int x), a6, a7, a8] (st) h z bc bs Kr Kx := q_iload dL_law_2414 rfl kk
theorem dL_law_2416 : decode (i_b iL_law) 2416 = .ok (.iconst 1, 1) := by decide +kernel
theorem wL_law_2416  (kk : QW V iL_law 2417 [a0, a1, a2, a3, a4, a5, a6, a7, a8] (.int (1) :: st) h z bc bs Kr Kx) : QW V iL_law 2416 [a0, a1, a2, a3, a4, a5, a6, a7, a8] (st) h z bc bs Kr Kx := q_iconst dL_law_2416 (by decide) kk
theorem dL_law_2417 : decode (i_b iL_law) 2417 = .ok (.iadd, 1) := by decide +kernel
theorem wL_law_2417 {x y : Int32} (kk : QW V iL_law 2418 [a0, a1, a2, a3, a4, a5, a6, a7, a8] (.int (x + y) :: st) h z bc bs Kr Kx) : QW V iL_law 2417 [a0, a1, a2, a3, a4, a5, a6, a7, a8] (.int y :: .int x :: st) h z bc bs Kr Kx := q_iadd dL_law_2417 kk
theorem dL_law_2418 : decode (i_b iL_law) 2418 = .ok (.iaload, 1) := by decide +kernel
theorem wL_law_2418 {j : Nat} {i : Int32} (hi : i = nI j) (hj : j < e_sL V) (hn : e_sL V < 2147483648) (kk : QW V iL_law 2419 [a0, a1, a2, a3, a4, a5, a6, a7, a8] (.int (e_xs V j) :: st) h z bc bs Kr Kx) : QW V iL_law 2418 [a0, a1, a2, a3, a4, a5, a6, a7, a8] (.int i :: .ref (e_sb V) :: st) h z bc bs Kr Kx := q_sld dL_law_2418 hi hj hn kk
theorem dL_law_2419 : decode (i_b iL_law) 2419 = .ok (.aload_n 0, 1) := by decide +kernel
theorem wL_law_2419 {x : Nat} (kk : QW V iL_law 2420 [some (.ref x), a1, a2, a3, a4, a5, a6, a7, a8] (.ref x :: st) h z bc bs Kr Kx) : QW V iL_law 2419 [some (.ref x), a1, a2, a3, a4, a5, a6, a7, a8] (st) h z bc bs Kr Kx := q_aload_n dL_law_2419 rfl rfl kk
theorem dL_law_2420 : decode (i_b iL_law) 2420 = .ok (.iload 5, 2) := by decide +kernel
theorem wL_law_2420 {x : Int32} (kk : QW V iL_law 2422 [a0, a1, a2, a3, a4, some (.int x), a6, a7, a8] (.int x :: st) h z bc bs Kr Kx) : QW V iL_law 2420 [a0, a1, a2, a3, a4, some (.int x), a6, a7, a8] (st) h z bc bs Kr Kx := q_iload dL_law_2420 rfl kk
theorem dL_law_2422 : decode (i_b iL_law) 2422 = .ok (.iconst 2, 1) := by decide +kernel
theorem wL_law_2422  (kk : QW V iL_law 2423 [a0, a1, a2, a3, a4, a5, a6, a7, a8] (.int (2) :: st) h z bc bs Kr Kx) : QW V iL_law 2422 [a0, a1, a2, a3, a4, a5, a6, a7, a8] (st) h z bc bs Kr Kx := q_iconst dL_law_2422 (by decide) kk
theorem dL_law_2423 : decode (i_b iL_law) 2423 = .ok (.iadd, 1) := by decide +kernel
theorem wL_law_2423 {x y : Int32} (kk : QW V iL_law 2424 [a0, a1, a2, a3, a4, a5, a6, a7, a8] (.int (x + y) :: st) h z bc bs Kr Kx) : QW V iL_law 2423 [a0, a1, a2, a3, a4, a5, a6, a7, a8] (.int y :: .int x :: st) h z bc bs Kr Kx := q_iadd dL_law_2423 kk
theorem dL_law_2424 : decode (i_b iL_law) 2424 = .ok (.iaload, 1) := by decide +kernel
theorem wL_law_2424 {j : Nat} {i : Int32} (hi : i = nI j) (hj : j < e_sL V) (hn : e_sL V < 2147483648) (kk : QW V iL_law 2425 [a0, a1, a2, a3, a4, a5, a6, a7, a8] (.int (e_xs V j) :: st) h z bc bs Kr Kx) : QW V iL_law 2424 [a0, a1, a2, a3, a4, a5, a6, a7, a8] (.int i :: .ref (e_sb V) :: st) h z bc bs Kr Kx := q_sld dL_law_2424 hi hj hn kk
theorem dL_law_2425 : decode (i_b iL_law) 2425 = .ok (.aload_n 0, 1) := by decide +kernel
theorem wL_law_2425 {x : Nat} (kk : QW V iL_law 2426 [some (.ref x), a1, a2, a3, a4, a5, a6, a7, a8] (.ref x :: st) h z bc bs Kr Kx) : QW V iL_law 2425 [some (.ref x), a1, a2, a3, a4, a5, a6, a7, a8] (st) h z bc bs Kr Kx := q_aload_n dL_law_2425 rfl rfl kk
theorem dL_law_2426 : decode (i_b iL_law) 2426 = .ok (.iload 5, 2) := by decide +kernel
theorem wL_law_2426 {x : Int32} (kk : QW V iL_law 2428 [a0, a1, a2, a3, a4, some (.int x), a6, a7, a8] (.int x :: st) h z bc bs Kr Kx) : QW V iL_law 2426 [a0, a1, a2, a3, a4, some (.int x), a6, a7, a8] (st) h z bc bs Kr Kx := q_iload dL_law_2426 rfl kk
theorem dL_law_2428 : decode (i_b iL_law) 2428 = .ok (.iconst 3, 1) := by decide +kernel
theorem wL_law_2428  (kk : QW V iL_law 2429 [a0, a1, a2, a3, a4, a5, a6, a7, a8] (.int (3) :: st) h z bc bs Kr Kx) : QW V iL_law 2428 [a0, a1, a2, a3, a4, a5, a6, a7, a8] (st) h z bc bs Kr Kx := q_iconst dL_law_2428 (by decide) kk
theorem dL_law_2429 : decode (i_b iL_law) 2429 = .ok (.iadd, 1) := by decide +kernel
theorem wL_law_2429 {x y : Int32} (kk : QW V iL_law 2430 [a0, a1, a2, a3, a4, a5, a6, a7, a8] (.int (x + y) :: st) h z bc bs Kr Kx) : QW V iL_law 2429 [a0, a1, a2, a3, a4, a5, a6, a7, a8] (.int y :: .int x :: st) h z bc bs Kr Kx := q_iadd dL_law_2429 kk
theorem dL_law_2430 : decode (i_b iL_law) 2430 = .ok (.iaload, 1) := by decide +kernel
theorem wL_law_2430 {j : Nat} {i : Int32} (hi : i = nI j) (hj : j < e_sL V) (hn : e_sL V < 2147483648) (kk : QW V iL_law 2431 [a0, a1, a2, a3, a4, a5, a6, a7, a8] (.int (e_xs V j) :: st) h z bc bs Kr Kx) : QW V iL_law 2430 [a0, a1, a2, a3, a4, a5, a6, a7, a8] (.int i :: .ref (e_sb V) :: st) h z bc bs Kr Kx := q_sld dL_law_2430 hi hj hn kk
theorem dL_law_2431 : decode (i_b iL_law) 2431 = .ok (.aload_n 0, 1) := by decide +kernel
theorem wL_law_2431 {x : Nat} (kk : QW V iL_law 2432 [some (.ref x), a1, a2, a3, a4, a5, a6, a7, a8] (.ref x :: st) h z bc bs Kr Kx) : QW V iL_law 2431 [some (.ref x), a1, a2, a3, a4, a5, a6, a7, a8] (st) h z bc bs Kr Kx := q_aload_n dL_law_2431 rfl rfl kk
theorem dL_law_2432 : decode (i_b iL_law) 2432 = .ok (.iload 5, 2) := by decide +kernel
theorem wL_law_2432 {x : Int32} (kk : QW V iL_law 2434 [a0, a1, a2, a3, a4, some (.int x), a6, a7, a8] (.int x :: st) h z bc bs Kr Kx) : QW V iL_law 2432 [a0, a1, a2, a3, a4, some (.int x), a6, a7, a8] (st) h z bc bs Kr Kx := q_iload dL_law_2432 rfl kk
theorem dL_law_2434 : decode (i_b iL_law) 2434 = .ok (.iconst 4, 1) := by decide +kernel
theorem wL_law_2434  (kk : QW V iL_law 2435 [a0, a1, a2, a3, a4, a5, a6, a7, a8] (.int (4) :: st) h z bc bs Kr Kx) : QW V iL_law 2434 [a0, a1, a2, a3, a4, a5, a6, a7, a8] (st) h z bc bs Kr Kx := q_iconst dL_law_2434 (by decide) kk
theorem dL_law_2435 : decode (i_b iL_law) 2435 = .ok (.iadd, 1) := by decide +kernel
theorem wL_law_2435 {x y : Int32} (kk : QW V iL_law 2436 [a0, a1, a2, a3, a4, a5, a6, a7, a8] (.int (x + y) :: st) h z bc bs Kr Kx) : QW V iL_law 2435 [a0, a1, a2, a3, a4, a5, a6, a7, a8] (.int y :: .int x :: st) h z bc bs Kr Kx := q_iadd dL_law_2435 kk
theorem dL_law_2436 : decode (i_b iL_law) 2436 = .ok (.iaload, 1) := by decide +kernel
theorem wL_law_2436 {j : Nat} {i : Int32} (hi : i = nI j) (hj : j < e_sL V) (hn : e_sL V < 2147483648) (kk : QW V iL_law 2437 [a0, a1, a2, a3, a4, a5, a6, a7, a8] (.int (e_xs V j) :: st) h z bc bs Kr Kx) : QW V iL_law 2436 [a0, a1, a2, a3, a4, a5, a6, a7, a8] (.int i :: .ref (e_sb V) :: st) h z bc bs Kr Kx := q_sld dL_law_2436 hi hj hn kk
theorem dL_law_2437 : decode (i_b iL_law) 2437 = .ok (.aload_n 3, 1) := by decide +kernel
theorem wL_law_2437 {x : Nat} (kk : QW V iL_law 2438 [a0, a1, a2, some (.ref x), a4, a5, a6, a7, a8] (.ref x :: st) h z bc bs Kr Kx) : QW V iL_law 2437 [a0, a1, a2, some (.ref x), a4, a5, a6, a7, a8] (st) h z bc bs Kr Kx := q_aload_n dL_law_2437 rfl rfl kk
theorem dL_law_2438 : decode (i_b iL_law) 2438 = .ok (.invokestatic 262, 3) := by decide +kernel
theorem wL_law_2438 {x0 : Nat} {x1 : Int32} {x2 : Int32} {x3 : Int32} {x4 : Int32} {x5 : Nat} (hm : QMi V iL_tradeCode [.ref x0, .int x1, .int x2, .int x3, .int x4, .ref x5] h z (fun r h' z' => QW V iL_law 2441 [a0, a1, a2, a3, a4, a5, a6, a7, a8] (.int r :: st) h' z' bc bs Kr Kx) Kx) (hW : (st.map fun v => v.category).sum ≤ 8 := by exact Nat.le_of_ble_eq_true rfl) : QW V iL_law 2438 [a0, a1, a2, a3, a4, a5, a6, a7, a8] (.ref x5 :: .int x4 :: .int x3 :: .int x2 :: .int x1 :: .ref x0 :: st) h z (bc + 6) (bs + 36) Kr Kx := q_callSX (y' := iL_tradeCode) (As := [.ref x0, .int x1, .int x2, .int x3, .int x4, .ref x5]) (rest := st) dL_law_2438 k5_163 k5_164 k1_0 hhL_tradeCode (by decide) hdL_tradeCode rfl (Nat.le_of_ble_eq_true rfl) (Nat.le_of_ble_eq_true rfl) hW rfl (QMi.run hm)
theorem dL_law_2441 : decode (i_b iL_law) 2441 = .ok (.istore 6, 2) := by decide +kernel
theorem wL_law_2441 {x : Int32} (kk : QW V iL_law 2443 [a0, a1, a2, a3, a4, a5, some (.int x), a7, a8] (st) h z bc bs Kr Kx) (hp : q_n2 a5 = true := by rfl) : QW V iL_law 2441 [a0, a1, a2, a3, a4, a5, a6, a7, a8] (.int x :: st) h z bc bs Kr Kx := q_istore dL_law_2441 (Nat.le_of_ble_eq_true rfl) hp kk
theorem dL_law_2443 : decode (i_b iL_law) 2443 = .ok (.aload_n 2, 1) := by decide +kernel
theorem wL_law_2443 {x : Nat} (kk : QW V iL_law 2444 [a0, a1, some (.ref x), a3, a4, a5, a6, a7, a8] (.ref x :: st) h z bc bs Kr Kx) : QW V iL_law 2443 [a0, a1, some (.ref x), a3, a4, a5, a6, a7, a8] (st) h z bc bs Kr Kx := q_aload_n dL_law_2443 rfl rfl kk
theorem dL_law_2444 : decode (i_b iL_law) 2444 = .ok (.aload_n 0, 1) := by decide +kernel
theorem wL_law_2444 {x : Nat} (kk : QW V iL_law 2445 [some (.ref x), a1, a2, a3, a4, a5, a6, a7, a8] (.ref x :: st) h z bc bs Kr Kx) : QW V iL_law 2444 [some (.ref x), a1, a2, a3, a4, a5, a6, a7, a8] (st) h z bc bs Kr Kx := q_aload_n dL_law_2444 rfl rfl kk
theorem dL_law_2445 : decode (i_b iL_law) 2445 = .ok (.iload 5, 2) := by decide +kernel
theorem wL_law_2445 {x : Int32} (kk : QW V iL_law 2447 [a0, a1, a2, a3, a4, some (.int x), a6, a7, a8] (.int x :: st) h z bc bs Kr Kx) : QW V iL_law 2445 [a0, a1, a2, a3, a4, some (.int x), a6, a7, a8] (st) h z bc bs Kr Kx := q_iload dL_law_2445 rfl kk
theorem dL_law_2447 : decode (i_b iL_law) 2447 = .ok (.iconst 1, 1) := by decide +kernel
theorem wL_law_2447  (kk : QW V iL_law 2448 [a0, a1, a2, a3, a4, a5, a6, a7, a8] (.int (1) :: st) h z bc bs Kr Kx) : QW V iL_law 2447 [a0, a1, a2, a3, a4, a5, a6, a7, a8] (st) h z bc bs Kr Kx := q_iconst dL_law_2447 (by decide) kk
theorem dL_law_2448 : decode (i_b iL_law) 2448 = .ok (.iadd, 1) := by decide +kernel
theorem wL_law_2448 {x y : Int32} (kk : QW V iL_law 2449 [a0, a1, a2, a3, a4, a5, a6, a7, a8] (.int (x + y) :: st) h z bc bs Kr Kx) : QW V iL_law 2448 [a0, a1, a2, a3, a4, a5, a6, a7, a8] (.int y :: .int x :: st) h z bc bs Kr Kx := q_iadd dL_law_2448 kk
theorem dL_law_2449 : decode (i_b iL_law) 2449 = .ok (.iaload, 1) := by decide +kernel
theorem wL_law_2449 {j : Nat} {i : Int32} (hi : i = nI j) (hj : j < e_sL V) (hn : e_sL V < 2147483648) (kk : QW V iL_law 2450 [a0, a1, a2, a3, a4, a5, a6, a7, a8] (.int (e_xs V j) :: st) h z bc bs Kr Kx) : QW V iL_law 2449 [a0, a1, a2, a3, a4, a5, a6, a7, a8] (.int i :: .ref (e_sb V) :: st) h z bc bs Kr Kx := q_sld dL_law_2449 hi hj hn kk
theorem dL_law_2450 : decode (i_b iL_law) 2450 = .ok (.aload_n 0, 1) := by decide +kernel
theorem wL_law_2450 {x : Nat} (kk : QW V iL_law 2451 [some (.ref x), a1, a2, a3, a4, a5, a6, a7, a8] (.ref x :: st) h z bc bs Kr Kx) : QW V iL_law 2450 [some (.ref x), a1, a2, a3, a4, a5, a6, a7, a8] (st) h z bc bs Kr Kx := q_aload_n dL_law_2450 rfl rfl kk
theorem dL_law_2451 : decode (i_b iL_law) 2451 = .ok (.iload 5, 2) := by decide +kernel
theorem wL_law_2451 {x : Int32} (kk : QW V iL_law 2453 [a0, a1, a2, a3, a4, some (.int x), a6, a7, a8] (.int x :: st) h z bc bs Kr Kx) : QW V iL_law 2451 [a0, a1, a2, a3, a4, some (.int x), a6, a7, a8] (st) h z bc bs Kr Kx := q_iload dL_law_2451 rfl kk
theorem dL_law_2453 : decode (i_b iL_law) 2453 = .ok (.iconst 2, 1) := by decide +kernel
theorem wL_law_2453  (kk : QW V iL_law 2454 [a0, a1, a2, a3, a4, a5, a6, a7, a8] (.int (2) :: st) h z bc bs Kr Kx) : QW V iL_law 2453 [a0, a1, a2, a3, a4, a5, a6, a7, a8] (st) h z bc bs Kr Kx := q_iconst dL_law_2453 (by decide) kk
theorem dL_law_2454 : decode (i_b iL_law) 2454 = .ok (.iadd, 1) := by decide +kernel
theorem wL_law_2454 {x y : Int32} (kk : QW V iL_law 2455 [a0, a1, a2, a3, a4, a5, a6, a7, a8] (.int (x + y) :: st) h z bc bs Kr Kx) : QW V iL_law 2454 [a0, a1, a2, a3, a4, a5, a6, a7, a8] (.int y :: .int x :: st) h z bc bs Kr Kx := q_iadd dL_law_2454 kk
theorem dL_law_2455 : decode (i_b iL_law) 2455 = .ok (.iaload, 1) := by decide +kernel
theorem wL_law_2455 {j : Nat} {i : Int32} (hi : i = nI j) (hj : j < e_sL V) (hn : e_sL V < 2147483648) (kk : QW V iL_law 2456 [a0, a1, a2, a3, a4, a5, a6, a7, a8] (.int (e_xs V j) :: st) h z bc bs Kr Kx) : QW V iL_law 2455 [a0, a1, a2, a3, a4, a5, a6, a7, a8] (.int i :: .ref (e_sb V) :: st) h z bc bs Kr Kx := q_sld dL_law_2455 hi hj hn kk
theorem dL_law_2456 : decode (i_b iL_law) 2456 = .ok (.aload_n 0, 1) := by decide +kernel
theorem wL_law_2456 {x : Nat} (kk : QW V iL_law 2457 [some (.ref x), a1, a2, a3, a4, a5, a6, a7, a8] (.ref x :: st) h z bc bs Kr Kx) : QW V iL_law 2456 [some (.ref x), a1, a2, a3, a4, a5, a6, a7, a8] (st) h z bc bs Kr Kx := q_aload_n dL_law_2456 rfl rfl kk
theorem dL_law_2457 : decode (i_b iL_law) 2457 = .ok (.iload 5, 2) := by decide +kernel
theorem wL_law_2457 {x : Int32} (kk : QW V iL_law 2459 [a0, a1, a2, a3, a4, some (.int x), a6, a7, a8] (.int x :: st) h z bc bs Kr Kx) : QW V iL_law 2457 [a0, a1, a2, a3, a4, some (.int x), a6, a7, a8] (st) h z bc bs Kr Kx := q_iload dL_law_2457 rfl kk
theorem dL_law_2459 : decode (i_b iL_law) 2459 = .ok (.iconst 3, 1) := by decide +kernel
theorem wL_law_2459  (kk : QW V iL_law 2460 [a0, a1, a2, a3, a4, a5, a6, a7, a8] (.int (3) :: st) h z bc bs Kr Kx) : QW V iL_law 2459 [a0, a1, a2, a3, a4, a5, a6, a7, a8] (st) h z bc bs Kr Kx := q_iconst dL_law_2459 (by decide) kk
theorem dL_law_2460 : decode (i_b iL_law) 2460 = .ok (.iadd, 1) := by decide +kernel
theorem wL_law_2460 {x y : Int32} (kk : QW V iL_law 2461 [a0, a1, a2, a3, a4, a5, a6, a7, a8] (.int (x + y) :: st) h z bc bs Kr Kx) : QW V iL_law 2460 [a0, a1, a2, a3, a4, a5, a6, a7, a8] (.int y :: .int x :: st) h z bc bs Kr Kx := q_iadd dL_law_2460 kk
theorem dL_law_2461 : decode (i_b iL_law) 2461 = .ok (.iaload, 1) := by decide +kernel
theorem wL_law_2461 {j : Nat} {i : Int32} (hi : i = nI j) (hj : j < e_sL V) (hn : e_sL V < 2147483648) (kk : QW V iL_law 2462 [a0, a1, a2, a3, a4, a5, a6, a7, a8] (.int (e_xs V j) :: st) h z bc bs Kr Kx) : QW V iL_law 2461 [a0, a1, a2, a3, a4, a5, a6, a7, a8] (.int i :: .ref (e_sb V) :: st) h z bc bs Kr Kx := q_sld dL_law_2461 hi hj hn kk
theorem dL_law_2462 : decode (i_b iL_law) 2462 = .ok (.aload_n 0, 1) := by decide +kernel
theorem wL_law_2462 {x : Nat} (kk : QW V iL_law 2463 [some (.ref x), a1, a2, a3, a4, a5, a6, a7, a8] (.ref x :: st) h z bc bs Kr Kx) : QW V iL_law 2462 [some (.ref x), a1, a2, a3, a4, a5, a6, a7, a8] (st) h z bc bs Kr Kx := q_aload_n dL_law_2462 rfl rfl kk
theorem dL_law_2463 : decode (i_b iL_law) 2463 = .ok (.iload 5, 2) := by decide +kernel
theorem wL_law_2463 {x : Int32} (kk : QW V iL_law 2465 [a0, a1, a2, a3, a4, some (.int x), a6, a7, a8] (.int x :: st) h z bc bs Kr Kx) : QW V iL_law 2463 [a0, a1, a2, a3, a4, some (.int x), a6, a7, a8] (st) h z bc bs Kr Kx := q_iload dL_law_2463 rfl kk
theorem dL_law_2465 : decode (i_b iL_law) 2465 = .ok (.iconst 4, 1) := by decide +kernel
theorem wL_law_2465  (kk : QW V iL_law 2466 [a0, a1, a2, a3, a4, a5, a6, a7, a8] (.int (4) :: st) h z bc bs Kr Kx) : QW V iL_law 2465 [a0, a1, a2, a3, a4, a5, a6, a7, a8] (st) h z bc bs Kr Kx := q_iconst dL_law_2465 (by decide) kk
theorem dL_law_2466 : decode (i_b iL_law) 2466 = .ok (.iadd, 1) := by decide +kernel
theorem wL_law_2466 {x y : Int32} (kk : QW V iL_law 2467 [a0, a1, a2, a3, a4, a5, a6, a7, a8] (.int (x + y) :: st) h z bc bs Kr Kx) : QW V iL_law 2466 [a0, a1, a2, a3, a4, a5, a6, a7, a8] (.int y :: .int x :: st) h z bc bs Kr Kx := q_iadd dL_law_2466 kk
theorem dL_law_2467 : decode (i_b iL_law) 2467 = .ok (.iaload, 1) := by decide +kernel
theorem wL_law_2467 {j : Nat} {i : Int32} (hi : i = nI j) (hj : j < e_sL V) (hn : e_sL V < 2147483648) (kk : QW V iL_law 2468 [a0, a1, a2, a3, a4, a5, a6, a7, a8] (.int (e_xs V j) :: st) h z bc bs Kr Kx) : QW V iL_law 2467 [a0, a1, a2, a3, a4, a5, a6, a7, a8] (.int i :: .ref (e_sb V) :: st) h z bc bs Kr Kx := q_sld dL_law_2467 hi hj hn kk
theorem dL_law_2468 : decode (i_b iL_law) 2468 = .ok (.invokevirtual 264, 3) := by decide +kernel
theorem wL_law_2468 {a : Nat} {fs : List Value} {x0 : Int32} {x1 : Int32} {x2 : Int32} {x3 : Int32} (hb : h a = some (.inr (10, fs))) (hm : QMi V iX9_tradeCode [.ref a, .int x0, .int x1, .int x2, .int x3] h z (fun r h' z' => QW V iL_law 2471 [a0, a1, a2, a3, a4, a5, a6, a7, a8] (.int r :: st) h' z' bc bs Kr Kx) Kx) (hW : (st.map fun v => v.category).sum ≤ 8 := by exact Nat.le_of_ble_eq_true rfl) : QW V iL_law 2468 [a0, a1, a2, a3, a4, a5, a6, a7, a8] (.int x3 :: .int x2 :: .int x1 :: .int x0 :: .ref a :: st) h z bc bs Kr Kx := q_callV (y' := iX9_tradeCode) (As := [.int x0, .int x1, .int x2, .int x3]) (rest := st) dL_law_2468 k8_35 k8_36 k8_37 k1_10 hhX9_tradeCode rfl hdX9_tradeCode rfl rfl (Nat.le_of_ble_eq_true rfl) (Nat.le_of_ble_eq_true rfl) hW rfl hb (QMi.run hm)
theorem dL_law_2471 : decode (i_b iL_law) 2471 = .ok (.istore 7, 2) := by decide +kernel
theorem wL_law_2471 {x : Int32} (kk : QW V iL_law 2473 [a0, a1, a2, a3, a4, a5, a6, some (.int x), a8] (st) h z bc bs Kr Kx) (hp : q_n2 a6 = true := by rfl) : QW V iL_law 2471 [a0, a1, a2, a3, a4, a5, a6, a7, a8] (.int x :: st) h z bc bs Kr Kx := q_istore dL_law_2471 (Nat.le_of_ble_eq_true rfl) hp kk
theorem dL_law_2473 : decode (i_b iL_law) 2473 = .ok (.aload_n 2, 1) := by decide +kernel
theorem wL_law_2473 {x : Nat} (kk : QW V iL_law 2474 [a0, a1, some (.ref x), a3, a4, a5, a6, a7, a8] (.ref x :: st) h z bc bs Kr Kx) : QW V iL_law 2473 [a0, a1, some (.ref x), a3, a4, a5, a6, a7, a8] (st) h z bc bs Kr Kx := q_aload_n dL_law_2473 rfl rfl kk
theorem dL_law_2474 : decode (i_b iL_law) 2474 = .ok (.invokevirtual 150, 3) := by decide +kernel
theorem wL_law_2474 {a : Nat} {fs : List Value}  (hb : h a = some (.inr (10, fs))) (hm : QMi V iX9_thrown [.ref a] h z (fun r h' z' => QW V iL_law 2477 [a0, a1, a2, a3, a4, a5, a6, a7, a8] (.int r :: st) h' z' bc bs Kr Kx) Kx) (hW : (st.map fun v => v.category).sum ≤ 8 := by exact Nat.le_of_ble_eq_true rfl) : QW V iL_law 2474 [a0, a1, a2, a3, a4, a5, a6, a7, a8] (.ref a :: st) h z bc bs Kr Kx := q_callV (y' := iX9_thrown) (As := []) (rest := st) dL_law_2474 k6_80 k6_81 k6_82 k1_10 hhX9_thrown rfl hdX9_thrown rfl rfl (Nat.le_of_ble_eq_true rfl) (Nat.le_of_ble_eq_true rfl) hW rfl hb (QMi.run hm)
theorem dL_law_2477 : decode (i_b iL_law) 2477 = .ok (.iload 6, 2) := by decide +kernel
theorem wL_law_2477 {x : Int32} (kk : QW V iL_law 2479 [a0, a1, a2, a3, a4, a5, some (.int x), a7, a8] (.int x :: st) h z bc bs Kr Kx) : QW V iL_law 2477 [a0, a1, a2, a3, a4, a5, some (.int x), a7, a8] (st) h z bc bs Kr Kx := q_iload dL_law_2477 rfl kk
theorem dL_law_2479 : decode (i_b iL_law) 2479 = .ok (.if_icmp .eq 5, 3) := by decide +kernel
theorem wL_law_2479 {x y : Int32} (kt : x = y → QW V iL_law 2484 [a0, a1, a2, a3, a4, a5, a6, a7, a8] (st) h z bc bs Kr Kx) (kf : ¬ x = y → QW V iL_law 2482 [a0, a1, a2, a3, a4, a5, a6, a7, a8] (st) h z bc bs Kr Kx) : QW V iL_law 2479 [a0, a1, a2, a3, a4, a5, a6, a7, a8] (.int y :: .int x :: st) h z bc bs Kr Kx := q_icmp_eq dL_law_2479 (by decide) kt kf
theorem dL_law_2482 : decode (i_b iL_law) 2482 = .ok (.iconst 0, 1) := by decide +kernel
theorem wL_law_2482  (kk : QW V iL_law 2483 [a0, a1, a2, a3, a4, a5, a6, a7, a8] (.int (0) :: st) h z bc bs Kr Kx) : QW V iL_law 2482 [a0, a1, a2, a3, a4, a5, a6, a7, a8] (st) h z bc bs Kr Kx := q_iconst dL_law_2482 (by decide) kk
theorem dL_law_2483 : decode (i_b iL_law) 2483 = .ok (.ireturn, 1) := by decide +kernel
theorem wL_law_2483 {x : Int32} {P : Int32 → q_H → Option Nat → Prop} (hk : P x h z) (hn : narrow .boolean (.int x) = .int x := by first | rfl | exact q_b_n _) : QW V iL_law 2483 [a0, a1, a2, a3, a4, a5, a6, a7, a8] [.int x] h z bc bs (q_Ki P) Kx := q_iret dL_law_2483 rfl hn ⟨x, rfl, hk⟩
theorem dL_law_2484 : decode (i_b iL_law) 2484 = .ok (.iload 6, 2) := by decide +kernel
theorem wL_law_2484 {x : Int32} (kk : QW V iL_law 2486 [a0, a1, a2, a3, a4, a5, some (.int x), a7, a8] (.int x :: st) h z bc bs Kr Kx) : QW V iL_law 2484 [a0, a1, a2, a3, a4, a5, some (.int x), a7, a8] (st) h z bc bs Kr Kx := q_iload dL_law_2484 rfl kk
theorem dL_law_2486 : decode (i_b iL_law) 2486 = .ok (.ifCond .ne 15, 3) := by decide +kernel
theorem wL_law_2486 {x : Int32} (kt : ¬ x = 0 → QW V iL_law 2501 [a0, a1, a2, a3, a4, a5, a6, a7, a8] (st) h z bc bs Kr Kx) (kf : x = 0 → QW V iL_law 2489 [a0, a1, a2, a3, a4, a5, a6, a7, a8] (st) h z bc bs Kr Kx) : QW V iL_law 2486 [a0, a1, a2, a3, a4, a5, a6, a7, a8] (.int x :: st) h z bc bs Kr Kx := q_if_ne dL_law_2486 (by decide) kt kf
theorem dL_law_2489 : decode (i_b iL_law) 2489 = .ok (.aload_n 3, 1) := by decide +kernel
theorem wL_law_2489 {x : Nat} (kk : QW V iL_law 2490 [a0, a1, a2, some (.ref x), a4, a5, a6, a7, a8] (.ref x :: st) h z bc bs Kr Kx) : QW V iL_law 2489 [a0, a1, a2, some (.ref x), a4, a5, a6, a7, a8] (st) h z bc bs Kr Kx := q_aload_n dL_law_2489 rfl rfl kk
theorem dL_law_2490 : decode (i_b iL_law) 2490 = .ok (.iconst 0, 1) := by decide +kernel
theorem wL_law_2490  (kk : QW V iL_law 2491 [a0, a1, a2, a3, a4, a5, a6, a7, a8] (.int (0) :: st) h z bc bs Kr Kx) : QW V iL_law 2490 [a0, a1, a2, a3, a4, a5, a6, a7, a8] (st) h z bc bs Kr Kx := q_iconst dL_law_2490 (by decide) kk
theorem dL_law_2491 : decode (i_b iL_law) 2491 = .ok (.laload, 1) := by decide +kernel
theorem wL_law_2491 {a n j : Nat} {f : Nat → Int64} {i : Int32} (ha : h a = some (.inl (2, n, .inr (.inl f)))) (hi : i = nI j) (hj : j < n) (hn : n < 2147483648) (kk : QW V iL_law 2492 [a0, a1, a2, a3, a4, a5, a6, a7, a8] (.long (f j) :: st) h z bc bs Kr Kx) : QW V iL_law 2491 [a0, a1, a2, a3, a4, a5, a6, a7, a8] (.int i :: .ref a :: st) h z bc bs Kr Kx := q_lald dL_law_2491 ha hi hj hn kk
theorem dL_law_2492 : decode (i_b iL_law) 2492 = .ok (.iload 7, 2) := by decide +kernel
theorem wL_law_2492 {x : Int32} (kk : QW V iL_law 2494 [a0, a1, a2, a3, a4, a5, a6, some (.int x), a8] (.int x :: st) h z bc bs Kr Kx) : QW V iL_law 2492 [a0, a1, a2, a3, a4, a5, a6, some (.int x), a8] (st) h z bc bs Kr Kx := q_iload dL_law_2492 rfl kk
theorem dL_law_2494 : decode (i_b iL_law) 2494 = .ok (.i2l, 1) := by decide +kernel
theorem wL_law_2494 {x : Int32} (kk : QW V iL_law 2495 [a0, a1, a2, a3, a4, a5, a6, a7, a8] (.long (x.toInt64) :: st) h z bc bs Kr Kx) : QW V iL_law 2494 [a0, a1, a2, a3, a4, a5, a6, a7, a8] (.int x :: st) h z bc bs Kr Kx := q_i2l dL_law_2494 kk
theorem dL_law_2495 : decode (i_b iL_law) 2495 = .ok (.lcmp, 1) := by decide +kernel
theorem dL_law_2496 : decode (i_b iL_law) 2496 = .ok (.ifCond .eq 5, 3) := by decide +kernel
theorem wL_law_2495 {x y : Int64} (kt : x = y → QW V iL_law 2501 [a0, a1, a2, a3, a4, a5, a6, a7, a8] (st) h z bc bs Kr Kx) (kf : ¬ x = y → QW V iL_law 2499 [a0, a1, a2, a3, a4, a5, a6, a7, a8] (st) h z bc bs Kr Kx) : QW V iL_law 2495 [a0, a1, a2, a3, a4, a5, a6, a7, a8] (.long y :: .long x :: st) h z bc bs Kr Kx := q_lcmp dL_law_2495 (q_if_eq dL_law_2496 (by decide) (fun q => kt ((q_lc_eq x y).mp q)) (fun q => kf (q_lcn_eq q)))
theorem dL_law_2499 : decode (i_b iL_law) 2499 = .ok (.iconst 0, 1) := by decide +kernel
theorem wL_law_2499  (kk : QW V iL_law 2500 [a0, a1, a2, a3, a4, a5, a6, a7, a8] (.int (0) :: st) h z bc bs Kr Kx) : QW V iL_law 2499 [a0, a1, a2, a3, a4, a5, a6, a7, a8] (st) h z bc bs Kr Kx := q_iconst dL_law_2499 (by decide) kk
theorem dL_law_2500 : decode (i_b iL_law) 2500 = .ok (.ireturn, 1) := by decide +kernel
theorem wL_law_2500 {x : Int32} {P : Int32 → q_H → Option Nat → Prop} (hk : P x h z) (hn : narrow .boolean (.int x) = .int x := by first | rfl | exact q_b_n _) : QW V iL_law 2500 [a0, a1, a2, a3, a4, a5, a6, a7, a8] [.int x] h z bc bs (q_Ki P) Kx := q_iret dL_law_2500 rfl hn ⟨x, rfl, hk⟩
theorem dL_law_2501 : decode (i_b iL_law) 2501 = .ok (.goto 250, 3) := by decide +kernel
theorem wL_law_2501  (kk : QW V iL_law 2751 [a0, a1, a2, a3, a4, a5, a6, a7, a8] (st) h z bc bs Kr Kx) : QW V iL_law 2501 [a0, a1, a2, a3, a4, a5, a6, a7, a8] (st) h z bc bs Kr Kx := q_goto dL_law_2501 (by decide) kk
theorem dL_law_2504 : decode (i_b iL_law) 2504 = .ok (.aload_n 1, 1) := by decide +kernel
theorem wL_law_2504 {x : Nat} (kk : QW V iL_law 2505 [a0, some (.ref x), a2, a3, a4, a5, a6, a7, a8] (.ref x :: st) h z bc bs Kr Kx) : QW V iL_law 2504 [a0, some (.ref x), a2, a3, a4, a5, a6, a7, a8] (st) h z bc bs Kr Kx := q_aload_n dL_law_2504 rfl rfl kk
theorem dL_law_2505 : decode (i_b iL_law) 2505 = .ok (.aload_n 0, 1) := by decide +kernel
theorem wL_law_2505 {x : Nat} (kk : QW V iL_law 2506 [some (.ref x), a1, a2, a3, a4, a5, a6, a7, a8] (.ref x :: st) h z bc bs Kr Kx) : QW V iL_law 2505 [some (.ref x), a1, a2, a3, a4, a5, a6, a7, a8] (st) h z bc bs Kr Kx := q_aload_n dL_law_2505 rfl rfl kk
theorem dL_law_2506 : decode (i_b iL_law) 2506 = .ok (.iload 5, 2) := by decide +kernel
theorem wL_law_2506 {x : Int32} (kk : QW V iL_law 2508 [a0, a1, a2, a3, a4, some (.int x), a6, a7, a8] (.int x :: st) h z bc bs Kr Kx) : QW V iL_law 2506 [a0, a1, a2, a3, a4, some (.int x), a6, a7, a8] (st) h z bc bs Kr Kx := q_iload dL_law_2506 rfl kk
theorem dL_law_2508 : decode (i_b iL_law) 2508 = .ok (.iconst 1, 1) := by decide +kernel
theorem wL_law_2508  (kk : QW V iL_law 2509 [a0, a1, a2, a3, a4, a5, a6, a7, a8] (.int (1) :: st) h z bc bs Kr Kx) : QW V iL_law 2508 [a0, a1, a2, a3, a4, a5, a6, a7, a8] (st) h z bc bs Kr Kx := q_iconst dL_law_2508 (by decide) kk
theorem dL_law_2509 : decode (i_b iL_law) 2509 = .ok (.iadd, 1) := by decide +kernel
theorem wL_law_2509 {x y : Int32} (kk : QW V iL_law 2510 [a0, a1, a2, a3, a4, a5, a6, a7, a8] (.int (x + y) :: st) h z bc bs Kr Kx) : QW V iL_law 2509 [a0, a1, a2, a3, a4, a5, a6, a7, a8] (.int y :: .int x :: st) h z bc bs Kr Kx := q_iadd dL_law_2509 kk
theorem dL_law_2510 : decode (i_b iL_law) 2510 = .ok (.iaload, 1) := by decide +kernel
theorem wL_law_2510 {j : Nat} {i : Int32} (hi : i = nI j) (hj : j < e_sL V) (hn : e_sL V < 2147483648) (kk : QW V iL_law 2511 [a0, a1, a2, a3, a4, a5, a6, a7, a8] (.int (e_xs V j) :: st) h z bc bs Kr Kx) : QW V iL_law 2510 [a0, a1, a2, a3, a4, a5, a6, a7, a8] (.int i :: .ref (e_sb V) :: st) h z bc bs Kr Kx := q_sld dL_law_2510 hi hj hn kk
theorem dL_law_2511 : decode (i_b iL_law) 2511 = .ok (.aload_n 0, 1) := by decide +kernel
theorem wL_law_2511 {x : Nat} (kk : QW V iL_law 2512 [some (.ref x), a1, a2, a3, a4, a5, a6, a7, a8] (.ref x :: st) h z bc bs Kr Kx) : QW V iL_law 2511 [some (.ref x), a1, a2, a3, a4, a5, a6, a7, a8] (st) h z bc bs Kr Kx := q_aload_n dL_law_2511 rfl rfl kk
theorem dL_law_2512 : decode (i_b iL_law) 2512 = .ok (.iload 5, 2) := by decide +kernel
theorem wL_law_2512 {x : Int32} (kk : QW V iL_law 2514 [a0, a1, a2, a3, a4, some (.int x), a6, a7, a8] (.int x :: st) h z bc bs Kr Kx) : QW V iL_law 2512 [a0, a1, a2, a3, a4, some (.int x), a6, a7, a8] (st) h z bc bs Kr Kx := q_iload dL_law_2512 rfl kk
theorem dL_law_2514 : decode (i_b iL_law) 2514 = .ok (.iconst 2, 1) := by decide +kernel
theorem wL_law_2514  (kk : QW V iL_law 2515 [a0, a1, a2, a3, a4, a5, a6, a7, a8] (.int (2) :: st) h z bc bs Kr Kx) : QW V iL_law 2514 [a0, a1, a2, a3, a4, a5, a6, a7, a8] (st) h z bc bs Kr Kx := q_iconst dL_law_2514 (by decide) kk
theorem dL_law_2515 : decode (i_b iL_law) 2515 = .ok (.iadd, 1) := by decide +kernel
theorem wL_law_2515 {x y : Int32} (kk : QW V iL_law 2516 [a0, a1, a2, a3, a4, a5, a6, a7, a8] (.int (x + y) :: st) h z bc bs Kr Kx) : QW V iL_law 2515 [a0, a1, a2, a3, a4, a5, a6, a7, a8] (.int y :: .int x :: st) h z bc bs Kr Kx := q_iadd dL_law_2515 kk
theorem dL_law_2516 : decode (i_b iL_law) 2516 = .ok (.iaload, 1) := by decide +kernel
theorem wL_law_2516 {j : Nat} {i : Int32} (hi : i = nI j) (hj : j < e_sL V) (hn : e_sL V < 2147483648) (kk : QW V iL_law 2517 [a0, a1, a2, a3, a4, a5, a6, a7, a8] (.int (e_xs V j) :: st) h z bc bs Kr Kx) : QW V iL_law 2516 [a0, a1, a2, a3, a4, a5, a6, a7, a8] (.int i :: .ref (e_sb V) :: st) h z bc bs Kr Kx := q_sld dL_law_2516 hi hj hn kk
theorem dL_law_2517 : decode (i_b iL_law) 2517 = .ok (.aload_n 3, 1) := by decide +kernel
theorem wL_law_2517 {x : Nat} (kk : QW V iL_law 2518 [a0, a1, a2, some (.ref x), a4, a5, a6, a7, a8] (.ref x :: st) h z bc bs Kr Kx) : QW V iL_law 2517 [a0, a1, a2, some (.ref x), a4, a5, a6, a7, a8] (st) h z bc bs Kr Kx := q_aload_n dL_law_2517 rfl rfl kk
theorem dL_law_2518 : decode (i_b iL_law) 2518 = .ok (.invokestatic 265, 3) := by decide +kernel
theorem wL_law_2518 {x0 : Nat} {x1 : Int32} {x2 : Int32} {x3 : Nat} (hm : QMi V iL_swapCount [.ref x0, .int x1, .int x2, .ref x3] h z (fun r h' z' => QW V iL_law 2521 [a0, a1, a2, a3, a4, a5, a6, a7, a8] (.int r :: st) h' z' bc bs Kr Kx) Kx) (hW : (st.map fun v => v.category).sum ≤ 8 := by exact Nat.le_of_ble_eq_true rfl) : QW V iL_law 2518 [a0, a1, a2, a3, a4, a5, a6, a7, a8] (.ref x3 :: .int x2 :: .int x1 :: .ref x0 :: st) h z (bc + 4) (bs + 24) Kr Kx := q_callSX (y' := iL_swapCount) (As := [.ref x0, .int x1, .int x2, .ref x3]) (rest := st) dL_law_2518 k5_170 k5_171 k1_0 hhL_swapCount (by decide) hdL_swapCount rfl (Nat.le_of_ble_eq_true rfl) (Nat.le_of_ble_eq_true rfl) hW rfl (QMi.run hm)
theorem dL_law_2521 : decode (i_b iL_law) 2521 = .ok (.istore 6, 2) := by decide +kernel
theorem wL_law_2521 {x : Int32} (kk : QW V iL_law 2523 [a0, a1, a2, a3, a4, a5, some (.int x), a7, a8] (st) h z bc bs Kr Kx) (hp : q_n2 a5 = true := by rfl) : QW V iL_law 2521 [a0, a1, a2, a3, a4, a5, a6, a7, a8] (.int x :: st) h z bc bs Kr Kx := q_istore dL_law_2521 (Nat.le_of_ble_eq_true rfl) hp kk
theorem dL_law_2523 : decode (i_b iL_law) 2523 = .ok (.aload_n 2, 1) := by decide +kernel
theorem wL_law_2523 {x : Nat} (kk : QW V iL_law 2524 [a0, a1, some (.ref x), a3, a4, a5, a6, a7, a8] (.ref x :: st) h z bc bs Kr Kx) : QW V iL_law 2523 [a0, a1, some (.ref x), a3, a4, a5, a6, a7, a8] (st) h z bc bs Kr Kx := q_aload_n dL_law_2523 rfl rfl kk
theorem dL_law_2524 : decode (i_b iL_law) 2524 = .ok (.aload_n 0, 1) := by decide +kernel
theorem wL_law_2524 {x : Nat} (kk : QW V iL_law 2525 [some (.ref x), a1, a2, a3, a4, a5, a6, a7, a8] (.ref x :: st) h z bc bs Kr Kx) : QW V iL_law 2524 [some (.ref x), a1, a2, a3, a4, a5, a6, a7, a8] (st) h z bc bs Kr Kx := q_aload_n dL_law_2524 rfl rfl kk
theorem dL_law_2525 : decode (i_b iL_law) 2525 = .ok (.iload 5, 2) := by decide +kernel
theorem wL_law_2525 {x : Int32} (kk : QW V iL_law 2527 [a0, a1, a2, a3, a4, some (.int x), a6, a7, a8] (.int x :: st) h z bc bs Kr Kx) : QW V iL_law 2525 [a0, a1, a2, a3, a4, some (.int x), a6, a7, a8] (st) h z bc bs Kr Kx := q_iload dL_law_2525 rfl kk
theorem dL_law_2527 : decode (i_b iL_law) 2527 = .ok (.iconst 1, 1) := by decide +kernel
theorem wL_law_2527  (kk : QW V iL_law 2528 [a0, a1, a2, a3, a4, a5, a6, a7, a8] (.int (1) :: st) h z bc bs Kr Kx) : QW V iL_law 2527 [a0, a1, a2, a3, a4, a5, a6, a7, a8] (st) h z bc bs Kr Kx := q_iconst dL_law_2527 (by decide) kk
theorem dL_law_2528 : decode (i_b iL_law) 2528 = .ok (.iadd, 1) := by decide +kernel
theorem wL_law_2528 {x y : Int32} (kk : QW V iL_law 2529 [a0, a1, a2, a3, a4, a5, a6, a7, a8] (.int (x + y) :: st) h z bc bs Kr Kx) : QW V iL_law 2528 [a0, a1, a2, a3, a4, a5, a6, a7, a8] (.int y :: .int x :: st) h z bc bs Kr Kx := q_iadd dL_law_2528 kk
theorem dL_law_2529 : decode (i_b iL_law) 2529 = .ok (.iaload, 1) := by decide +kernel
theorem wL_law_2529 {j : Nat} {i : Int32} (hi : i = nI j) (hj : j < e_sL V) (hn : e_sL V < 2147483648) (kk : QW V iL_law 2530 [a0, a1, a2, a3, a4, a5, a6, a7, a8] (.int (e_xs V j) :: st) h z bc bs Kr Kx) : QW V iL_law 2529 [a0, a1, a2, a3, a4, a5, a6, a7, a8] (.int i :: .ref (e_sb V) :: st) h z bc bs Kr Kx := q_sld dL_law_2529 hi hj hn kk
theorem dL_law_2530 : decode (i_b iL_law) 2530 = .ok (.aload_n 0, 1) := by decide +kernel
theorem wL_law_2530 {x : Nat} (kk : QW V iL_law 2531 [some (.ref x), a1, a2, a3, a4, a5, a6, a7, a8] (.ref x :: st) h z bc bs Kr Kx) : QW V iL_law 2530 [some (.ref x), a1, a2, a3, a4, a5, a6, a7, a8] (st) h z bc bs Kr Kx := q_aload_n dL_law_2530 rfl rfl kk
theorem dL_law_2531 : decode (i_b iL_law) 2531 = .ok (.iload 5, 2) := by decide +kernel
theorem wL_law_2531 {x : Int32} (kk : QW V iL_law 2533 [a0, a1, a2, a3, a4, some (.int x), a6, a7, a8] (.int x :: st) h z bc bs Kr Kx) : QW V iL_law 2531 [a0, a1, a2, a3, a4, some (.int x), a6, a7, a8] (st) h z bc bs Kr Kx := q_iload dL_law_2531 rfl kk
theorem dL_law_2533 : decode (i_b iL_law) 2533 = .ok (.iconst 2, 1) := by decide +kernel
theorem wL_law_2533  (kk : QW V iL_law 2534 [a0, a1, a2, a3, a4, a5, a6, a7, a8] (.int (2) :: st) h z bc bs Kr Kx) : QW V iL_law 2533 [a0, a1, a2, a3, a4, a5, a6, a7, a8] (st) h z bc bs Kr Kx := q_iconst dL_law_2533 (by decide) kk
theorem dL_law_2534 : decode (i_b iL_law) 2534 = .ok (.iadd, 1) := by decide +kernel
theorem wL_law_2534 {x y : Int32} (kk : QW V iL_law 2535 [a0, a1, a2, a3, a4, a5, a6, a7, a8] (.int (x + y) :: st) h z bc bs Kr Kx) : QW V iL_law 2534 [a0, a1, a2, a3, a4, a5, a6, a7, a8] (.int y :: .int x :: st) h z bc bs Kr Kx := q_iadd dL_law_2534 kk
theorem dL_law_2535 : decode (i_b iL_law) 2535 = .ok (.iaload, 1) := by decide +kernel
theorem wL_law_2535 {j : Nat} {i : Int32} (hi : i = nI j) (hj : j < e_sL V) (hn : e_sL V < 2147483648) (kk : QW V iL_law 2536 [a0, a1, a2, a3, a4, a5, a6, a7, a8] (.int (e_xs V j) :: st) h z bc bs Kr Kx) : QW V iL_law 2535 [a0, a1, a2, a3, a4, a5, a6, a7, a8] (.int i :: .ref (e_sb V) :: st) h z bc bs Kr Kx := q_sld dL_law_2535 hi hj hn kk
theorem dL_law_2536 : decode (i_b iL_law) 2536 = .ok (.invokevirtual 267, 3) := by decide +kernel
theorem wL_law_2536 {a : Nat} {fs : List Value} {x0 : Int32} {x1 : Int32} (hb : h a = some (.inr (10, fs))) (hm : QMi V iX9_swapCount [.ref a, .int x0, .int x1] h z (fun r h' z' => QW V iL_law 2539 [a0, a1, a2, a3, a4, a5, a6, a7, a8] (.int r :: st) h' z' bc bs Kr Kx) Kx) (hW : (st.map fun v => v.category).sum ≤ 8 := by exact Nat.le_of_ble_eq_true rfl) : QW V iL_law 2536 [a0, a1, a2, a3, a4, a5, a6, a7, a8] (.int x1 :: .int x0 :: .ref a :: st) h z bc bs Kr Kx := q_callV (y' := iX9_swapCount) (As := [.int x0, .int x1]) (rest := st) dL_law_2536 k8_39 k8_40 k8_41 k1_10 hhX9_swapCount rfl hdX9_swapCount rfl rfl (Nat.le_of_ble_eq_true rfl) (Nat.le_of_ble_eq_true rfl) hW rfl hb (QMi.run hm)
theorem dL_law_2539 : decode (i_b iL_law) 2539 = .ok (.istore 7, 2) := by decide +kernel
theorem wL_law_2539 {x : Int32} (kk : QW V iL_law 2541 [a0, a1, a2, a3, a4, a5, a6, some (.int x), a8] (st) h z bc bs Kr Kx) (hp : q_n2 a6 = true := by rfl) : QW V iL_law 2539 [a0, a1, a2, a3, a4, a5, a6, a7, a8] (.int x :: st) h z bc bs Kr Kx := q_istore dL_law_2539 (Nat.le_of_ble_eq_true rfl) hp kk
theorem dL_law_2541 : decode (i_b iL_law) 2541 = .ok (.aload_n 2, 1) := by decide +kernel
theorem wL_law_2541 {x : Nat} (kk : QW V iL_law 2542 [a0, a1, some (.ref x), a3, a4, a5, a6, a7, a8] (.ref x :: st) h z bc bs Kr Kx) : QW V iL_law 2541 [a0, a1, some (.ref x), a3, a4, a5, a6, a7, a8] (st) h z bc bs Kr Kx := q_aload_n dL_law_2541 rfl rfl kk
theorem dL_law_2542 : decode (i_b iL_law) 2542 = .ok (.invokevirtual 150, 3) := by decide +kernel
theorem wL_law_2542 {a : Nat} {fs : List Value}  (hb : h a = some (.inr (10, fs))) (hm : QMi V iX9_thrown [.ref a] h z (fun r h' z' => QW V iL_law 2545 [a0, a1, a2, a3, a4, a5, a6, a7, a8] (.int r :: st) h' z' bc bs Kr Kx) Kx) (hW : (st.map fun v => v.category).sum ≤ 8 := by exact Nat.le_of_ble_eq_true rfl) : QW V iL_law 2542 [a0, a1, a2, a3, a4, a5, a6, a7, a8] (.ref a :: st) h z bc bs Kr Kx := q_callV (y' := iX9_thrown) (As := []) (rest := st) dL_law_2542 k6_80 k6_81 k6_82 k1_10 hhX9_thrown rfl hdX9_thrown rfl rfl (Nat.le_of_ble_eq_true rfl) (Nat.le_of_ble_eq_true rfl) hW rfl hb (QMi.run hm)
theorem dL_law_2545 : decode (i_b iL_law) 2545 = .ok (.iload 6, 2) := by decide +kernel
theorem wL_law_2545 {x : Int32} (kk : QW V iL_law 2547 [a0, a1, a2, a3, a4, a5, some (.int x), a7, a8] (.int x :: st) h z bc bs Kr Kx) : QW V iL_law 2545 [a0, a1, a2, a3, a4, a5, some (.int x), a7, a8] (st) h z bc bs Kr Kx := q_iload dL_law_2545 rfl kk
theorem dL_law_2547 : decode (i_b iL_law) 2547 = .ok (.if_icmp .eq 5, 3) := by decide +kernel
theorem wL_law_2547 {x y : Int32} (kt : x = y → QW V iL_law 2552 [a0, a1, a2, a3, a4, a5, a6, a7, a8] (st) h z bc bs Kr Kx) (kf : ¬ x = y → QW V iL_law 2550 [a0, a1, a2, a3, a4, a5, a6, a7, a8] (st) h z bc bs Kr Kx) : QW V iL_law 2547 [a0, a1, a2, a3, a4, a5, a6, a7, a8] (.int y :: .int x :: st) h z bc bs Kr Kx := q_icmp_eq dL_law_2547 (by decide) kt kf
theorem dL_law_2550 : decode (i_b iL_law) 2550 = .ok (.iconst 0, 1) := by decide +kernel
theorem wL_law_2550  (kk : QW V iL_law 2551 [a0, a1, a2, a3, a4, a5, a6, a7, a8] (.int (0) :: st) h z bc bs Kr Kx) : QW V iL_law 2550 [a0, a1, a2, a3, a4, a5, a6, a7, a8] (st) h z bc bs Kr Kx := q_iconst dL_law_2550 (by decide) kk
theorem dL_law_2551 : decode (i_b iL_law) 2551 = .ok (.ireturn, 1) := by decide +kernel
theorem wL_law_2551 {x : Int32} {P : Int32 → q_H → Option Nat → Prop} (hk : P x h z) (hn : narrow .boolean (.int x) = .int x := by first | rfl | exact q_b_n _) : QW V iL_law 2551 [a0, a1, a2, a3, a4, a5, a6, a7, a8] [.int x] h z bc bs (q_Ki P) Kx := q_iret dL_law_2551 rfl hn ⟨x, rfl, hk⟩
theorem dL_law_2552 : decode (i_b iL_law) 2552 = .ok (.iload 6, 2) := by decide +kernel
theorem wL_law_2552 {x : Int32} (kk : QW V iL_law 2554 [a0, a1, a2, a3, a4, a5, some (.int x), a7, a8] (.int x :: st) h z bc bs Kr Kx) : QW V iL_law 2552 [a0, a1, a2, a3, a4, a5, some (.int x), a7, a8] (st) h z bc bs Kr Kx := q_iload dL_law_2552 rfl kk
theorem dL_law_2554 : decode (i_b iL_law) 2554 = .ok (.ifCond .ne 15, 3) := by decide +kernel
theorem wL_law_2554 {x : Int32} (kt : ¬ x = 0 → QW V iL_law 2569 [a0, a1, a2, a3, a4, a5, a6, a7, a8] (st) h z bc bs Kr Kx) (kf : x = 0 → QW V iL_law 2557 [a0, a1, a2, a3, a4, a5, a6, a7, a8] (st) h z bc bs Kr Kx) : QW V iL_law 2554 [a0, a1, a2, a3, a4, a5, a6, a7, a8] (.int x :: st) h z bc bs Kr Kx := q_if_ne dL_law_2554 (by decide) kt kf
theorem dL_law_2557 : decode (i_b iL_law) 2557 = .ok (.aload_n 3, 1) := by decide +kernel
theorem wL_law_2557 {x : Nat} (kk : QW V iL_law 2558 [a0, a1, a2, some (.ref x), a4, a5, a6, a7, a8] (.ref x :: st) h z bc bs Kr Kx) : QW V iL_law 2557 [a0, a1, a2, some (.ref x), a4, a5, a6, a7, a8] (st) h z bc bs Kr Kx := q_aload_n dL_law_2557 rfl rfl kk
theorem dL_law_2558 : decode (i_b iL_law) 2558 = .ok (.iconst 0, 1) := by decide +kernel
theorem wL_law_2558  (kk : QW V iL_law 2559 [a0, a1, a2, a3, a4, a5, a6, a7, a8] (.int (0) :: st) h z bc bs Kr Kx) : QW V iL_law 2558 [a0, a1, a2, a3, a4, a5, a6, a7, a8] (st) h z bc bs Kr Kx := q_iconst dL_law_2558 (by decide) kk
theorem dL_law_2559 : decode (i_b iL_law) 2559 = .ok (.laload, 1) := by decide +kernel
theorem wL_law_2559 {a n j : Nat} {f : Nat → Int64} {i : Int32} (ha : h a = some (.inl (2, n, .inr (.inl f)))) (hi : i = nI j) (hj : j < n) (hn : n < 2147483648) (kk : QW V iL_law 2560 [a0, a1, a2, a3, a4, a5, a6, a7, a8] (.long (f j) :: st) h z bc bs Kr Kx) : QW V iL_law 2559 [a0, a1, a2, a3, a4, a5, a6, a7, a8] (.int i :: .ref a :: st) h z bc bs Kr Kx := q_lald dL_law_2559 ha hi hj hn kk
theorem dL_law_2560 : decode (i_b iL_law) 2560 = .ok (.iload 7, 2) := by decide +kernel
theorem wL_law_2560 {x : Int32} (kk : QW V iL_law 2562 [a0, a1, a2, a3, a4, a5, a6, some (.int x), a8] (.int x :: st) h z bc bs Kr Kx) : QW V iL_law 2560 [a0, a1, a2, a3, a4, a5, a6, some (.int x), a8] (st) h z bc bs Kr Kx := q_iload dL_law_2560 rfl kk
theorem dL_law_2562 : decode (i_b iL_law) 2562 = .ok (.i2l, 1) := by decide +kernel
theorem wL_law_2562 {x : Int32} (kk : QW V iL_law 2563 [a0, a1, a2, a3, a4, a5, a6, a7, a8] (.long (x.toInt64) :: st) h z bc bs Kr Kx) : QW V iL_law 2562 [a0, a1, a2, a3, a4, a5, a6, a7, a8] (.int x :: st) h z bc bs Kr Kx := q_i2l dL_law_2562 kk
theorem dL_law_2563 : decode (i_b iL_law) 2563 = .ok (.lcmp, 1) := by decide +kernel
theorem dL_law_2564 : decode (i_b iL_law) 2564 = .ok (.ifCond .eq 5, 3) := by decide +kernel
theorem wL_law_2563 {x y : Int64} (kt : x = y → QW V iL_law 2569 [a0, a1, a2, a3, a4, a5, a6, a7, a8] (st) h z bc bs Kr Kx) (kf : ¬ x = y → QW V iL_law 2567 [a0, a1, a2, a3, a4, a5, a6, a7, a8] (st) h z bc bs Kr Kx) : QW V iL_law 2563 [a0, a1, a2, a3, a4, a5, a6, a7, a8] (.long y :: .long x :: st) h z bc bs Kr Kx := q_lcmp dL_law_2563 (q_if_eq dL_law_2564 (by decide) (fun q => kt ((q_lc_eq x y).mp q)) (fun q => kf (q_lcn_eq q)))
theorem dL_law_2567 : decode (i_b iL_law) 2567 = .ok (.iconst 0, 1) := by decide +kernel
theorem wL_law_2567  (kk : QW V iL_law 2568 [a0, a1, a2, a3, a4, a5, a6, a7, a8] (.int (0) :: st) h z bc bs Kr Kx) : QW V iL_law 2567 [a0, a1, a2, a3, a4, a5, a6, a7, a8] (st) h z bc bs Kr Kx := q_iconst dL_law_2567 (by decide) kk
theorem dL_law_2568 : decode (i_b iL_law) 2568 = .ok (.ireturn, 1) := by decide +kernel
theorem wL_law_2568 {x : Int32} {P : Int32 → q_H → Option Nat → Prop} (hk : P x h z) (hn : narrow .boolean (.int x) = .int x := by first | rfl | exact q_b_n _) : QW V iL_law 2568 [a0, a1, a2, a3, a4, a5, a6, a7, a8] [.int x] h z bc bs (q_Ki P) Kx := q_iret dL_law_2568 rfl hn ⟨x, rfl, hk⟩
theorem dL_law_2569 : decode (i_b iL_law) 2569 = .ok (.goto 182, 3) := by decide +kernel
theorem wL_law_2569  (kk : QW V iL_law 2751 [a0, a1, a2, a3, a4, a5, a6, a7, a8] (st) h z bc bs Kr Kx) : QW V iL_law 2569 [a0, a1, a2, a3, a4, a5, a6, a7, a8] (st) h z bc bs Kr Kx := q_goto dL_law_2569 (by decide) kk
theorem dL_law_2572 : decode (i_b iL_law) 2572 = .ok (.aload_n 1, 1) := by decide +kernel
theorem wL_law_2572 {x : Nat} (kk : QW V iL_law 2573 [a0, some (.ref x), a2, a3, a4, a5, a6, a7, a8] (.ref x :: st) h z bc bs Kr Kx) : QW V iL_law 2572 [a0, some (.ref x), a2, a3, a4, a5, a6, a7, a8] (st) h z bc bs Kr Kx := q_aload_n dL_law_2572 rfl rfl kk
theorem dL_law_2573 : decode (i_b iL_law) 2573 = .ok (.aload_n 0, 1) := by decide +kernel
theorem wL_law_2573 {x : Nat} (kk : QW V iL_law 2574 [some (.ref x), a1, a2, a3, a4, a5, a6, a7, a8] (.ref x :: st) h z bc bs Kr Kx) : QW V iL_law 2573 [some (.ref x), a1, a2, a3, a4, a5, a6, a7, a8] (st) h z bc bs Kr Kx := q_aload_n dL_law_2573 rfl rfl kk
theorem dL_law_2574 : decode (i_b iL_law) 2574 = .ok (.iload 5, 2) := by decide +kernel
theorem wL_law_2574 {x : Int32} (kk : QW V iL_law 2576 [a0, a1, a2, a3, a4, some (.int x), a6, a7, a8] (.int x :: st) h z bc bs Kr Kx) : QW V iL_law 2574 [a0, a1, a2, a3, a4, some (.int x), a6, a7, a8] (st) h z bc bs Kr Kx := q_iload dL_law_2574 rfl kk
theorem dL_law_2576 : decode (i_b iL_law) 2576 = .ok (.iconst 1, 1) := by decide +kernel
theorem wL_law_2576  (kk : QW V iL_law 2577 [a0, a1, a2, a3, a4, a5, a6, a7, a8] (.int (1) :: st) h z bc bs Kr Kx) : QW V iL_law 2576 [a0, a1, a2, a3, a4, a5, a6, a7, a8] (st) h z bc bs Kr Kx := q_iconst dL_law_2576 (by decide) kk
theorem dL_law_2577 : decode (i_b iL_law) 2577 = .ok (.iadd, 1) := by decide +kernel
theorem wL_law_2577 {x y : Int32} (kk : QW V iL_law 2578 [a0, a1, a2, a3, a4, a5, a6, a7, a8] (.int (x + y) :: st) h z bc bs Kr Kx) : QW V iL_law 2577 [a0, a1, a2, a3, a4, a5, a6, a7, a8] (.int y :: .int x :: st) h z bc bs Kr Kx := q_iadd dL_law_2577 kk
theorem dL_law_2578 : decode (i_b iL_law) 2578 = .ok (.iaload, 1) := by decide +kernel
theorem wL_law_2578 {j : Nat} {i : Int32} (hi : i = nI j) (hj : j < e_sL V) (hn : e_sL V < 2147483648) (kk : QW V iL_law 2579 [a0, a1, a2, a3, a4, a5, a6, a7, a8] (.int (e_xs V j) :: st) h z bc bs Kr Kx) : QW V iL_law 2578 [a0, a1, a2, a3, a4, a5, a6, a7, a8] (.int i :: .ref (e_sb V) :: st) h z bc bs Kr Kx := q_sld dL_law_2578 hi hj hn kk
theorem dL_law_2579 : decode (i_b iL_law) 2579 = .ok (.aload_n 0, 1) := by decide +kernel
theorem wL_law_2579 {x : Nat} (kk : QW V iL_law 2580 [some (.ref x), a1, a2, a3, a4, a5, a6, a7, a8] (.ref x :: st) h z bc bs Kr Kx) : QW V iL_law 2579 [some (.ref x), a1, a2, a3, a4, a5, a6, a7, a8] (st) h z bc bs Kr Kx := q_aload_n dL_law_2579 rfl rfl kk
theorem dL_law_2580 : decode (i_b iL_law) 2580 = .ok (.iload 5, 2) := by decide +kernel
theorem wL_law_2580 {x : Int32} (kk : QW V iL_law 2582 [a0, a1, a2, a3, a4, some (.int x), a6, a7, a8] (.int x :: st) h z bc bs Kr Kx) : QW V iL_law 2580 [a0, a1, a2, a3, a4, some (.int x), a6, a7, a8] (st) h z bc bs Kr Kx := q_iload dL_law_2580 rfl kk
theorem dL_law_2582 : decode (i_b iL_law) 2582 = .ok (.iconst 2, 1) := by decide +kernel
theorem wL_law_2582  (kk : QW V iL_law 2583 [a0, a1, a2, a3, a4, a5, a6, a7, a8] (.int (2) :: st) h z bc bs Kr Kx) : QW V iL_law 2582 [a0, a1, a2, a3, a4, a5, a6, a7, a8] (st) h z bc bs Kr Kx := q_iconst dL_law_2582 (by decide) kk
theorem dL_law_2583 : decode (i_b iL_law) 2583 = .ok (.iadd, 1) := by decide +kernel
theorem wL_law_2583 {x y : Int32} (kk : QW V iL_law 2584 [a0, a1, a2, a3, a4, a5, a6, a7, a8] (.int (x + y) :: st) h z bc bs Kr Kx) : QW V iL_law 2583 [a0, a1, a2, a3, a4, a5, a6, a7, a8] (.int y :: .int x :: st) h z bc bs Kr Kx := q_iadd dL_law_2583 kk
theorem dL_law_2584 : decode (i_b iL_law) 2584 = .ok (.iaload, 1) := by decide +kernel
theorem wL_law_2584 {j : Nat} {i : Int32} (hi : i = nI j) (hj : j < e_sL V) (hn : e_sL V < 2147483648) (kk : QW V iL_law 2585 [a0, a1, a2, a3, a4, a5, a6, a7, a8] (.int (e_xs V j) :: st) h z bc bs Kr Kx) : QW V iL_law 2584 [a0, a1, a2, a3, a4, a5, a6, a7, a8] (.int i :: .ref (e_sb V) :: st) h z bc bs Kr Kx := q_sld dL_law_2584 hi hj hn kk
theorem dL_law_2585 : decode (i_b iL_law) 2585 = .ok (.aload_n 3, 1) := by decide +kernel
theorem wL_law_2585 {x : Nat} (kk : QW V iL_law 2586 [a0, a1, a2, some (.ref x), a4, a5, a6, a7, a8] (.ref x :: st) h z bc bs Kr Kx) : QW V iL_law 2585 [a0, a1, a2, some (.ref x), a4, a5, a6, a7, a8] (st) h z bc bs Kr Kx := q_aload_n dL_law_2585 rfl rfl kk
theorem dL_law_2586 : decode (i_b iL_law) 2586 = .ok (.invokestatic 268, 3) := by decide +kernel
theorem wL_law_2586 {x0 : Nat} {x1 : Int32} {x2 : Int32} {x3 : Nat} (hm : QMi V iL_bestSwap [.ref x0, .int x1, .int x2, .ref x3] h z (fun r h' z' => QW V iL_law 2589 [a0, a1, a2, a3, a4, a5, a6, a7, a8] (.int r :: st) h' z' bc bs Kr Kx) Kx) (hW : (st.map fun v => v.category).sum ≤ 8 := by exact Nat.le_of_ble_eq_true rfl) : QW V iL_law 2586 [a0, a1, a2, a3, a4, a5, a6, a7, a8] (.ref x3 :: .int x2 :: .int x1 :: .ref x0 :: st) h z (bc + 4) (bs + 24) Kr Kx := q_callSX (y' := iL_bestSwap) (As := [.ref x0, .int x1, .int x2, .ref x3]) (rest := st) dL_law_2586 k5_182 k5_183 k1_0 hhL_bestSwap (by decide) hdL_bestSwap rfl (Nat.le_of_ble_eq_true rfl) (Nat.le_of_ble_eq_true rfl) hW rfl (QMi.run hm)
theorem dL_law_2589 : decode (i_b iL_law) 2589 = .ok (.istore 6, 2) := by decide +kernel
theorem wL_law_2589 {x : Int32} (kk : QW V iL_law 2591 [a0, a1, a2, a3, a4, a5, some (.int x), a7, a8] (st) h z bc bs Kr Kx) (hp : q_n2 a5 = true := by rfl) : QW V iL_law 2589 [a0, a1, a2, a3, a4, a5, a6, a7, a8] (.int x :: st) h z bc bs Kr Kx := q_istore dL_law_2589 (Nat.le_of_ble_eq_true rfl) hp kk
theorem dL_law_2591 : decode (i_b iL_law) 2591 = .ok (.aload_n 2, 1) := by decide +kernel
theorem wL_law_2591 {x : Nat} (kk : QW V iL_law 2592 [a0, a1, some (.ref x), a3, a4, a5, a6, a7, a8] (.ref x :: st) h z bc bs Kr Kx) : QW V iL_law 2591 [a0, a1, some (.ref x), a3, a4, a5, a6, a7, a8] (st) h z bc bs Kr Kx := q_aload_n dL_law_2591 rfl rfl kk
theorem dL_law_2592 : decode (i_b iL_law) 2592 = .ok (.aload_n 0, 1) := by decide +kernel
theorem wL_law_2592 {x : Nat} (kk : QW V iL_law 2593 [some (.ref x), a1, a2, a3, a4, a5, a6, a7, a8] (.ref x :: st) h z bc bs Kr Kx) : QW V iL_law 2592 [some (.ref x), a1, a2, a3, a4, a5, a6, a7, a8] (st) h z bc bs Kr Kx := q_aload_n dL_law_2592 rfl rfl kk
theorem dL_law_2593 : decode (i_b iL_law) 2593 = .ok (.iload 5, 2) := by decide +kernel
theorem wL_law_2593 {x : Int32} (kk : QW V iL_law 2595 [a0, a1, a2, a3, a4, some (.int x), a6, a7, a8] (.int x :: st) h z bc bs Kr Kx) : QW V iL_law 2593 [a0, a1, a2, a3, a4, some (.int x), a6, a7, a8] (st) h z bc bs Kr Kx := q_iload dL_law_2593 rfl kk
theorem dL_law_2595 : decode (i_b iL_law) 2595 = .ok (.iconst 1, 1) := by decide +kernel
theorem wL_law_2595  (kk : QW V iL_law 2596 [a0, a1, a2, a3, a4, a5, a6, a7, a8] (.int (1) :: st) h z bc bs Kr Kx) : QW V iL_law 2595 [a0, a1, a2, a3, a4, a5, a6, a7, a8] (st) h z bc bs Kr Kx := q_iconst dL_law_2595 (by decide) kk
theorem dL_law_2596 : decode (i_b iL_law) 2596 = .ok (.iadd, 1) := by decide +kernel
theorem wL_law_2596 {x y : Int32} (kk : QW V iL_law 2597 [a0, a1, a2, a3, a4, a5, a6, a7, a8] (.int (x + y) :: st) h z bc bs Kr Kx) : QW V iL_law 2596 [a0, a1, a2, a3, a4, a5, a6, a7, a8] (.int y :: .int x :: st) h z bc bs Kr Kx := q_iadd dL_law_2596 kk
theorem dL_law_2597 : decode (i_b iL_law) 2597 = .ok (.iaload, 1) := by decide +kernel
theorem wL_law_2597 {j : Nat} {i : Int32} (hi : i = nI j) (hj : j < e_sL V) (hn : e_sL V < 2147483648) (kk : QW V iL_law 2598 [a0, a1, a2, a3, a4, a5, a6, a7, a8] (.int (e_xs V j) :: st) h z bc bs Kr Kx) : QW V iL_law 2597 [a0, a1, a2, a3, a4, a5, a6, a7, a8] (.int i :: .ref (e_sb V) :: st) h z bc bs Kr Kx := q_sld dL_law_2597 hi hj hn kk
theorem dL_law_2598 : decode (i_b iL_law) 2598 = .ok (.aload_n 0, 1) := by decide +kernel
theorem wL_law_2598 {x : Nat} (kk : QW V iL_law 2599 [some (.ref x), a1, a2, a3, a4, a5, a6, a7, a8] (.ref x :: st) h z bc bs Kr Kx) : QW V iL_law 2598 [some (.ref x), a1, a2, a3, a4, a5, a6, a7, a8] (st) h z bc bs Kr Kx := q_aload_n dL_law_2598 rfl rfl kk
theorem dL_law_2599 : decode (i_b iL_law) 2599 = .ok (.iload 5, 2) := by decide +kernel
theorem wL_law_2599 {x : Int32} (kk : QW V iL_law 2601 [a0, a1, a2, a3, a4, some (.int x), a6, a7, a8] (.int x :: st) h z bc bs Kr Kx) : QW V iL_law 2599 [a0, a1, a2, a3, a4, some (.int x), a6, a7, a8] (st) h z bc bs Kr Kx := q_iload dL_law_2599 rfl kk
theorem dL_law_2601 : decode (i_b iL_law) 2601 = .ok (.iconst 2, 1) := by decide +kernel
theorem wL_law_2601  (kk : QW V iL_law 2602 [a0, a1, a2, a3, a4, a5, a6, a7, a8] (.int (2) :: st) h z bc bs Kr Kx) : QW V iL_law 2601 [a0, a1, a2, a3, a4, a5, a6, a7, a8] (st) h z bc bs Kr Kx := q_iconst dL_law_2601 (by decide) kk
theorem dL_law_2602 : decode (i_b iL_law) 2602 = .ok (.iadd, 1) := by decide +kernel
theorem wL_law_2602 {x y : Int32} (kk : QW V iL_law 2603 [a0, a1, a2, a3, a4, a5, a6, a7, a8] (.int (x + y) :: st) h z bc bs Kr Kx) : QW V iL_law 2602 [a0, a1, a2, a3, a4, a5, a6, a7, a8] (.int y :: .int x :: st) h z bc bs Kr Kx := q_iadd dL_law_2602 kk
theorem dL_law_2603 : decode (i_b iL_law) 2603 = .ok (.iaload, 1) := by decide +kernel
theorem wL_law_2603 {j : Nat} {i : Int32} (hi : i = nI j) (hj : j < e_sL V) (hn : e_sL V < 2147483648) (kk : QW V iL_law 2604 [a0, a1, a2, a3, a4, a5, a6, a7, a8] (.int (e_xs V j) :: st) h z bc bs Kr Kx) : QW V iL_law 2603 [a0, a1, a2, a3, a4, a5, a6, a7, a8] (.int i :: .ref (e_sb V) :: st) h z bc bs Kr Kx := q_sld dL_law_2603 hi hj hn kk
theorem dL_law_2604 : decode (i_b iL_law) 2604 = .ok (.invokevirtual 270, 3) := by decide +kernel
theorem wL_law_2604 {a : Nat} {fs : List Value} {x0 : Int32} {x1 : Int32} (hb : h a = some (.inr (10, fs))) (hm : QMi V iX9_bestSwap [.ref a, .int x0, .int x1] h z (fun r h' z' => QW V iL_law 2607 [a0, a1, a2, a3, a4, a5, a6, a7, a8] (.int r :: st) h' z' bc bs Kr Kx) Kx) (hW : (st.map fun v => v.category).sum ≤ 8 := by exact Nat.le_of_ble_eq_true rfl) : QW V iL_law 2604 [a0, a1, a2, a3, a4, a5, a6, a7, a8] (.int x1 :: .int x0 :: .ref a :: st) h z bc bs Kr Kx := q_callV (y' := iX9_bestSwap) (As := [.int x0, .int x1]) (rest := st) dL_law_2604 k8_51 k8_52 k8_53 k1_10 hhX9_bestSwap rfl hdX9_bestSwap rfl rfl (Nat.le_of_ble_eq_true rfl) (Nat.le_of_ble_eq_true rfl) hW rfl hb (QMi.run hm)
theorem dL_law_2607 : decode (i_b iL_law) 2607 = .ok (.istore 7, 2) := by decide +kernel
theorem wL_law_2607 {x : Int32} (kk : QW V iL_law 2609 [a0, a1, a2, a3, a4, a5, a6, some (.int x), a8] (st) h z bc bs Kr Kx) (hp : q_n2 a6 = true := by rfl) : QW V iL_law 2607 [a0, a1, a2, a3, a4, a5, a6, a7, a8] (.int x :: st) h z bc bs Kr Kx := q_istore dL_law_2607 (Nat.le_of_ble_eq_true rfl) hp kk
theorem dL_law_2609 : decode (i_b iL_law) 2609 = .ok (.aload_n 2, 1) := by decide +kernel
theorem wL_law_2609 {x : Nat} (kk : QW V iL_law 2610 [a0, a1, some (.ref x), a3, a4, a5, a6, a7, a8] (.ref x :: st) h z bc bs Kr Kx) : QW V iL_law 2609 [a0, a1, some (.ref x), a3, a4, a5, a6, a7, a8] (st) h z bc bs Kr Kx := q_aload_n dL_law_2609 rfl rfl kk
theorem dL_law_2610 : decode (i_b iL_law) 2610 = .ok (.invokevirtual 150, 3) := by decide +kernel
theorem wL_law_2610 {a : Nat} {fs : List Value}  (hb : h a = some (.inr (10, fs))) (hm : QMi V iX9_thrown [.ref a] h z (fun r h' z' => QW V iL_law 2613 [a0, a1, a2, a3, a4, a5, a6, a7, a8] (.int r :: st) h' z' bc bs Kr Kx) Kx) (hW : (st.map fun v => v.category).sum ≤ 8 := by exact Nat.le_of_ble_eq_true rfl) : QW V iL_law 2610 [a0, a1, a2, a3, a4, a5, a6, a7, a8] (.ref a :: st) h z bc bs Kr Kx := q_callV (y' := iX9_thrown) (As := []) (rest := st) dL_law_2610 k6_80 k6_81 k6_82 k1_10 hhX9_thrown rfl hdX9_thrown rfl rfl (Nat.le_of_ble_eq_true rfl) (Nat.le_of_ble_eq_true rfl) hW rfl hb (QMi.run hm)
theorem dL_law_2613 : decode (i_b iL_law) 2613 = .ok (.iload 6, 2) := by decide +kernel
theorem wL_law_2613 {x : Int32} (kk : QW V iL_law 2615 [a0, a1, a2, a3, a4, a5, some (.int x), a7, a8] (.int x :: st) h z bc bs Kr Kx) : QW V iL_law 2613 [a0, a1, a2, a3, a4, a5, some (.int x), a7, a8] (st) h z bc bs Kr Kx := q_iload dL_law_2613 rfl kk
theorem dL_law_2615 : decode (i_b iL_law) 2615 = .ok (.if_icmp .eq 5, 3) := by decide +kernel
theorem wL_law_2615 {x y : Int32} (kt : x = y → QW V iL_law 2620 [a0, a1, a2, a3, a4, a5, a6, a7, a8] (st) h z bc bs Kr Kx) (kf : ¬ x = y → QW V iL_law 2618 [a0, a1, a2, a3, a4, a5, a6, a7, a8] (st) h z bc bs Kr Kx) : QW V iL_law 2615 [a0, a1, a2, a3, a4, a5, a6, a7, a8] (.int y :: .int x :: st) h z bc bs Kr Kx := q_icmp_eq dL_law_2615 (by decide) kt kf
theorem dL_law_2618 : decode (i_b iL_law) 2618 = .ok (.iconst 0, 1) := by decide +kernel
theorem wL_law_2618  (kk : QW V iL_law 2619 [a0, a1, a2, a3, a4, a5, a6, a7, a8] (.int (0) :: st) h z bc bs Kr Kx) : QW V iL_law 2618 [a0, a1, a2, a3, a4, a5, a6, a7, a8] (st) h z bc bs Kr Kx := q_iconst dL_law_2618 (by decide) kk
theorem dL_law_2619 : decode (i_b iL_law) 2619 = .ok (.ireturn, 1) := by decide +kernel
theorem wL_law_2619 {x : Int32} {P : Int32 → q_H → Option Nat → Prop} (hk : P x h z) (hn : narrow .boolean (.int x) = .int x := by first | rfl | exact q_b_n _) : QW V iL_law 2619 [a0, a1, a2, a3, a4, a5, a6, a7, a8] [.int x] h z bc bs (q_Ki P) Kx := q_iret dL_law_2619 rfl hn ⟨x, rfl, hk⟩
theorem dL_law_2620 : decode (i_b iL_law) 2620 = .ok (.iload 6, 2) := by decide +kernel
theorem wL_law_2620 {x : Int32} (kk : QW V iL_law 2622 [a0, a1, a2, a3, a4, a5, some (.int x), a7, a8] (.int x :: st) h z bc bs Kr Kx) : QW V iL_law 2620 [a0, a1, a2, a3, a4, a5, some (.int x), a7, a8] (st) h z bc bs Kr Kx := q_iload dL_law_2620 rfl kk
theorem dL_law_2622 : decode (i_b iL_law) 2622 = .ok (.ifCond .ne 15, 3) := by decide +kernel
theorem wL_law_2622 {x : Int32} (kt : ¬ x = 0 → QW V iL_law 2637 [a0, a1, a2, a3, a4, a5, a6, a7, a8] (st) h z bc bs Kr Kx) (kf : x = 0 → QW V iL_law 2625 [a0, a1, a2, a3, a4, a5, a6, a7, a8] (st) h z bc bs Kr Kx) : QW V iL_law 2622 [a0, a1, a2, a3, a4, a5, a6, a7, a8] (.int x :: st) h z bc bs Kr Kx := q_if_ne dL_law_2622 (by decide) kt kf
theorem dL_law_2625 : decode (i_b iL_law) 2625 = .ok (.aload_n 3, 1) := by decide +kernel
theorem wL_law_2625 {x : Nat} (kk : QW V iL_law 2626 [a0, a1, a2, some (.ref x), a4, a5, a6, a7, a8] (.ref x :: st) h z bc bs Kr Kx) : QW V iL_law 2625 [a0, a1, a2, some (.ref x), a4, a5, a6, a7, a8] (st) h z bc bs Kr Kx := q_aload_n dL_law_2625 rfl rfl kk
theorem dL_law_2626 : decode (i_b iL_law) 2626 = .ok (.iconst 0, 1) := by decide +kernel
theorem wL_law_2626  (kk : QW V iL_law 2627 [a0, a1, a2, a3, a4, a5, a6, a7, a8] (.int (0) :: st) h z bc bs Kr Kx) : QW V iL_law 2626 [a0, a1, a2, a3, a4, a5, a6, a7, a8] (st) h z bc bs Kr Kx := q_iconst dL_law_2626 (by decide) kk
theorem dL_law_2627 : decode (i_b iL_law) 2627 = .ok (.laload, 1) := by decide +kernel
theorem wL_law_2627 {a n j : Nat} {f : Nat → Int64} {i : Int32} (ha : h a = some (.inl (2, n, .inr (.inl f)))) (hi : i = nI j) (hj : j < n) (hn : n < 2147483648) (kk : QW V iL_law 2628 [a0, a1, a2, a3, a4, a5, a6, a7, a8] (.long (f j) :: st) h z bc bs Kr Kx) : QW V iL_law 2627 [a0, a1, a2, a3, a4, a5, a6, a7, a8] (.int i :: .ref a :: st) h z bc bs Kr Kx := q_lald dL_law_2627 ha hi hj hn kk
theorem dL_law_2628 : decode (i_b iL_law) 2628 = .ok (.iload 7, 2) := by decide +kernel
theorem wL_law_2628 {x : Int32} (kk : QW V iL_law 2630 [a0, a1, a2, a3, a4, a5, a6, some (.int x), a8] (.int x :: st) h z bc bs Kr Kx) : QW V iL_law 2628 [a0, a1, a2, a3, a4, a5, a6, some (.int x), a8] (st) h z bc bs Kr Kx := q_iload dL_law_2628 rfl kk
theorem dL_law_2630 : decode (i_b iL_law) 2630 = .ok (.i2l, 1) := by decide +kernel
theorem wL_law_2630 {x : Int32} (kk : QW V iL_law 2631 [a0, a1, a2, a3, a4, a5, a6, a7, a8] (.long (x.toInt64) :: st) h z bc bs Kr Kx) : QW V iL_law 2630 [a0, a1, a2, a3, a4, a5, a6, a7, a8] (.int x :: st) h z bc bs Kr Kx := q_i2l dL_law_2630 kk
theorem dL_law_2631 : decode (i_b iL_law) 2631 = .ok (.lcmp, 1) := by decide +kernel
theorem dL_law_2632 : decode (i_b iL_law) 2632 = .ok (.ifCond .eq 5, 3) := by decide +kernel
theorem wL_law_2631 {x y : Int64} (kt : x = y → QW V iL_law 2637 [a0, a1, a2, a3, a4, a5, a6, a7, a8] (st) h z bc bs Kr Kx) (kf : ¬ x = y → QW V iL_law 2635 [a0, a1, a2, a3, a4, a5, a6, a7, a8] (st) h z bc bs Kr Kx) : QW V iL_law 2631 [a0, a1, a2, a3, a4, a5, a6, a7, a8] (.long y :: .long x :: st) h z bc bs Kr Kx := q_lcmp dL_law_2631 (q_if_eq dL_law_2632 (by decide) (fun q => kt ((q_lc_eq x y).mp q)) (fun q => kf (q_lcn_eq q)))
theorem dL_law_2635 : decode (i_b iL_law) 2635 = .ok (.iconst 0, 1) := by decide +kernel
theorem wL_law_2635  (kk : QW V iL_law 2636 [a0, a1, a2, a3, a4, a5, a6, a7, a8] (.int (0) :: st) h z bc bs Kr Kx) : QW V iL_law 2635 [a0, a1, a2, a3, a4, a5, a6, a7, a8] (st) h z bc bs Kr Kx := q_iconst dL_law_2635 (by decide) kk
theorem dL_law_2636 : decode (i_b iL_law) 2636 = .ok (.ireturn, 1) := by decide +kernel
theorem wL_law_2636 {x : Int32} {P : Int32 → q_H → Option Nat → Prop} (hk : P x h z) (hn : narrow .boolean (.int x) = .int x := by first | rfl | exact q_b_n _) : QW V iL_law 2636 [a0, a1, a2, a3, a4, a5, a6, a7, a8] [.int x] h z bc bs (q_Ki P) Kx := q_iret dL_law_2636 rfl hn ⟨x, rfl, hk⟩
theorem dL_law_2637 : decode (i_b iL_law) 2637 = .ok (.goto 114, 3) := by decide +kernel
theorem wL_law_2637  (kk : QW V iL_law 2751 [a0, a1, a2, a3, a4, a5, a6, a7, a8] (st) h z bc bs Kr Kx) : QW V iL_law 2637 [a0, a1, a2, a3, a4, a5, a6, a7, a8] (st) h z bc bs Kr Kx := q_goto dL_law_2637 (by decide) kk
theorem dL_law_2640 : decode (i_b iL_law) 2640 = .ok (.aload_n 1, 1) := by decide +kernel
theorem wL_law_2640 {x : Nat} (kk : QW V iL_law 2641 [a0, some (.ref x), a2, a3, a4, a5, a6, a7, a8] (.ref x :: st) h z bc bs Kr Kx) : QW V iL_law 2640 [a0, some (.ref x), a2, a3, a4, a5, a6, a7, a8] (st) h z bc bs Kr Kx := q_aload_n dL_law_2640 rfl rfl kk
theorem dL_law_2641 : decode (i_b iL_law) 2641 = .ok (.aload_n 0, 1) := by decide +kernel
theorem wL_law_2641 {x : Nat} (kk : QW V iL_law 2642 [some (.ref x), a1, a2, a3, a4, a5, a6, a7, a8] (.ref x :: st) h z bc bs Kr Kx) : QW V iL_law 2641 [some (.ref x), a1, a2, a3, a4, a5, a6, a7, a8] (st) h z bc bs Kr Kx := q_aload_n dL_law_2641 rfl rfl kk
theorem dL_law_2642 : decode (i_b iL_law) 2642 = .ok (.iload 5, 2) := by decide +kernel
theorem wL_law_2642 {x : Int32} (kk : QW V iL_law 2644 [a0, a1, a2, a3, a4, some (.int x), a6, a7, a8] (.int x :: st) h z bc bs Kr Kx) : QW V iL_law 2642 [a0, a1, a2, a3, a4, some (.int x), a6, a7, a8] (st) h z bc bs Kr Kx := q_iload dL_law_2642 rfl kk
theorem dL_law_2644 : decode (i_b iL_law) 2644 = .ok (.iconst 1, 1) := by decide +kernel
theorem wL_law_2644  (kk : QW V iL_law 2645 [a0, a1, a2, a3, a4, a5, a6, a7, a8] (.int (1) :: st) h z bc bs Kr Kx) : QW V iL_law 2644 [a0, a1, a2, a3, a4, a5, a6, a7, a8] (st) h z bc bs Kr Kx := q_iconst dL_law_2644 (by decide) kk
theorem dL_law_2645 : decode (i_b iL_law) 2645 = .ok (.iadd, 1) := by decide +kernel
theorem wL_law_2645 {x y : Int32} (kk : QW V iL_law 2646 [a0, a1, a2, a3, a4, a5, a6, a7, a8] (.int (x + y) :: st) h z bc bs Kr Kx) : QW V iL_law 2645 [a0, a1, a2, a3, a4, a5, a6, a7, a8] (.int y :: .int x :: st) h z bc bs Kr Kx := q_iadd dL_law_2645 kk
theorem dL_law_2646 : decode (i_b iL_law) 2646 = .ok (.iaload, 1) := by decide +kernel
theorem wL_law_2646 {j : Nat} {i : Int32} (hi : i = nI j) (hj : j < e_sL V) (hn : e_sL V < 2147483648) (kk : QW V iL_law 2647 [a0, a1, a2, a3, a4, a5, a6, a7, a8] (.int (e_xs V j) :: st) h z bc bs Kr Kx) : QW V iL_law 2646 [a0, a1, a2, a3, a4, a5, a6, a7, a8] (.int i :: .ref (e_sb V) :: st) h z bc bs Kr Kx := q_sld dL_law_2646 hi hj hn kk
theorem dL_law_2647 : decode (i_b iL_law) 2647 = .ok (.aload_n 0, 1) := by decide +kernel
theorem wL_law_2647 {x : Nat} (kk : QW V iL_law 2648 [some (.ref x), a1, a2, a3, a4, a5, a6, a7, a8] (.ref x :: st) h z bc bs Kr Kx) : QW V iL_law 2647 [some (.ref x), a1, a2, a3, a4, a5, a6, a7, a8] (st) h z bc bs Kr Kx := q_aload_n dL_law_2647 rfl rfl kk
theorem dL_law_2648 : decode (i_b iL_law) 2648 = .ok (.iload 5, 2) := by decide +kernel
theorem wL_law_2648 {x : Int32} (kk : QW V iL_law 2650 [a0, a1, a2, a3, a4, some (.int x), a6, a7, a8] (.int x :: st) h z bc bs Kr Kx) : QW V iL_law 2648 [a0, a1, a2, a3, a4, some (.int x), a6, a7, a8] (st) h z bc bs Kr Kx := q_iload dL_law_2648 rfl kk
theorem dL_law_2650 : decode (i_b iL_law) 2650 = .ok (.iconst 2, 1) := by decide +kernel
theorem wL_law_2650  (kk : QW V iL_law 2651 [a0, a1, a2, a3, a4, a5, a6, a7, a8] (.int (2) :: st) h z bc bs Kr Kx) : QW V iL_law 2650 [a0, a1, a2, a3, a4, a5, a6, a7, a8] (st) h z bc bs Kr Kx := q_iconst dL_law_2650 (by decide) kk
theorem dL_law_2651 : decode (i_b iL_law) 2651 = .ok (.iadd, 1) := by decide +kernel
theorem wL_law_2651 {x y : Int32} (kk : QW V iL_law 2652 [a0, a1, a2, a3, a4, a5, a6, a7, a8] (.int (x + y) :: st) h z bc bs Kr Kx) : QW V iL_law 2651 [a0, a1, a2, a3, a4, a5, a6, a7, a8] (.int y :: .int x :: st) h z bc bs Kr Kx := q_iadd dL_law_2651 kk
theorem dL_law_2652 : decode (i_b iL_law) 2652 = .ok (.iaload, 1) := by decide +kernel
theorem wL_law_2652 {j : Nat} {i : Int32} (hi : i = nI j) (hj : j < e_sL V) (hn : e_sL V < 2147483648) (kk : QW V iL_law 2653 [a0, a1, a2, a3, a4, a5, a6, a7, a8] (.int (e_xs V j) :: st) h z bc bs Kr Kx) : QW V iL_law 2652 [a0, a1, a2, a3, a4, a5, a6, a7, a8] (.int i :: .ref (e_sb V) :: st) h z bc bs Kr Kx := q_sld dL_law_2652 hi hj hn kk
theorem dL_law_2653 : decode (i_b iL_law) 2653 = .ok (.aload_n 3, 1) := by decide +kernel
theorem wL_law_2653 {x : Nat} (kk : QW V iL_law 2654 [a0, a1, a2, some (.ref x), a4, a5, a6, a7, a8] (.ref x :: st) h z bc bs Kr Kx) : QW V iL_law 2653 [a0, a1, a2, some (.ref x), a4, a5, a6, a7, a8] (st) h z bc bs Kr Kx := q_aload_n dL_law_2653 rfl rfl kk
theorem dL_law_2654 : decode (i_b iL_law) 2654 = .ok (.invokestatic 271, 3) := by decide +kernel
theorem wL_law_2654 {x0 : Nat} {x1 : Int32} {x2 : Int32} {x3 : Nat} (hm : QMi V iL_taxAhead [.ref x0, .int x1, .int x2, .ref x3] h z (fun r h' z' => QW V iL_law 2657 [a0, a1, a2, a3, a4, a5, a6, a7, a8] (.int r :: st) h' z' bc bs Kr Kx) Kx) (hW : (st.map fun v => v.category).sum ≤ 8 := by exact Nat.le_of_ble_eq_true rfl) : QW V iL_law 2654 [a0, a1, a2, a3, a4, a5, a6, a7, a8] (.ref x3 :: .int x2 :: .int x1 :: .ref x0 :: st) h z (bc + 3) (bs + 18) Kr Kx := q_callSX (y' := iL_taxAhead) (As := [.ref x0, .int x1, .int x2, .ref x3]) (rest := st) dL_law_2654 k5_189 k5_190 k1_0 hhL_taxAhead (by decide) hdL_taxAhead rfl (Nat.le_of_ble_eq_true rfl) (Nat.le_of_ble_eq_true rfl) hW rfl (QMi.run hm)
theorem dL_law_2657 : decode (i_b iL_law) 2657 = .ok (.istore 6, 2) := by decide +kernel
theorem wL_law_2657 {x : Int32} (kk : QW V iL_law 2659 [a0, a1, a2, a3, a4, a5, some (.int x), a7, a8] (st) h z bc bs Kr Kx) (hp : q_n2 a5 = true := by rfl) : QW V iL_law 2657 [a0, a1, a2, a3, a4, a5, a6, a7, a8] (.int x :: st) h z bc bs Kr Kx := q_istore dL_law_2657 (Nat.le_of_ble_eq_true rfl) hp kk
theorem dL_law_2659 : decode (i_b iL_law) 2659 = .ok (.aload_n 2, 1) := by decide +kernel
theorem wL_law_2659 {x : Nat} (kk : QW V iL_law 2660 [a0, a1, some (.ref x), a3, a4, a5, a6, a7, a8] (.ref x :: st) h z bc bs Kr Kx) : QW V iL_law 2659 [a0, a1, some (.ref x), a3, a4, a5, a6, a7, a8] (st) h z bc bs Kr Kx := q_aload_n dL_law_2659 rfl rfl kk
theorem dL_law_2660 : decode (i_b iL_law) 2660 = .ok (.aload_n 0, 1) := by decide +kernel
theorem wL_law_2660 {x : Nat} (kk : QW V iL_law 2661 [some (.ref x), a1, a2, a3, a4, a5, a6, a7, a8] (.ref x :: st) h z bc bs Kr Kx) : QW V iL_law 2660 [some (.ref x), a1, a2, a3, a4, a5, a6, a7, a8] (st) h z bc bs Kr Kx := q_aload_n dL_law_2660 rfl rfl kk
theorem dL_law_2661 : decode (i_b iL_law) 2661 = .ok (.iload 5, 2) := by decide +kernel
theorem wL_law_2661 {x : Int32} (kk : QW V iL_law 2663 [a0, a1, a2, a3, a4, some (.int x), a6, a7, a8] (.int x :: st) h z bc bs Kr Kx) : QW V iL_law 2661 [a0, a1, a2, a3, a4, some (.int x), a6, a7, a8] (st) h z bc bs Kr Kx := q_iload dL_law_2661 rfl kk
theorem dL_law_2663 : decode (i_b iL_law) 2663 = .ok (.iconst 1, 1) := by decide +kernel
theorem wL_law_2663  (kk : QW V iL_law 2664 [a0, a1, a2, a3, a4, a5, a6, a7, a8] (.int (1) :: st) h z bc bs Kr Kx) : QW V iL_law 2663 [a0, a1, a2, a3, a4, a5, a6, a7, a8] (st) h z bc bs Kr Kx := q_iconst dL_law_2663 (by decide) kk
theorem dL_law_2664 : decode (i_b iL_law) 2664 = .ok (.iadd, 1) := by decide +kernel
theorem wL_law_2664 {x y : Int32} (kk : QW V iL_law 2665 [a0, a1, a2, a3, a4, a5, a6, a7, a8] (.int (x + y) :: st) h z bc bs Kr Kx) : QW V iL_law 2664 [a0, a1, a2, a3, a4, a5, a6, a7, a8] (.int y :: .int x :: st) h z bc bs Kr Kx := q_iadd dL_law_2664 kk
theorem dL_law_2665 : decode (i_b iL_law) 2665 = .ok (.iaload, 1) := by decide +kernel
theorem wL_law_2665 {j : Nat} {i : Int32} (hi : i = nI j) (hj : j < e_sL V) (hn : e_sL V < 2147483648) (kk : QW V iL_law 2666 [a0, a1, a2, a3, a4, a5, a6, a7, a8] (.int (e_xs V j) :: st) h z bc bs Kr Kx) : QW V iL_law 2665 [a0, a1, a2, a3, a4, a5, a6, a7, a8] (.int i :: .ref (e_sb V) :: st) h z bc bs Kr Kx := q_sld dL_law_2665 hi hj hn kk
theorem dL_law_2666 : decode (i_b iL_law) 2666 = .ok (.aload_n 0, 1) := by decide +kernel
theorem wL_law_2666 {x : Nat} (kk : QW V iL_law 2667 [some (.ref x), a1, a2, a3, a4, a5, a6, a7, a8] (.ref x :: st) h z bc bs Kr Kx) : QW V iL_law 2666 [some (.ref x), a1, a2, a3, a4, a5, a6, a7, a8] (st) h z bc bs Kr Kx := q_aload_n dL_law_2666 rfl rfl kk
theorem dL_law_2667 : decode (i_b iL_law) 2667 = .ok (.iload 5, 2) := by decide +kernel
theorem wL_law_2667 {x : Int32} (kk : QW V iL_law 2669 [a0, a1, a2, a3, a4, some (.int x), a6, a7, a8] (.int x :: st) h z bc bs Kr Kx) : QW V iL_law 2667 [a0, a1, a2, a3, a4, some (.int x), a6, a7, a8] (st) h z bc bs Kr Kx := q_iload dL_law_2667 rfl kk
theorem dL_law_2669 : decode (i_b iL_law) 2669 = .ok (.iconst 2, 1) := by decide +kernel
theorem wL_law_2669  (kk : QW V iL_law 2670 [a0, a1, a2, a3, a4, a5, a6, a7, a8] (.int (2) :: st) h z bc bs Kr Kx) : QW V iL_law 2669 [a0, a1, a2, a3, a4, a5, a6, a7, a8] (st) h z bc bs Kr Kx := q_iconst dL_law_2669 (by decide) kk
theorem dL_law_2670 : decode (i_b iL_law) 2670 = .ok (.iadd, 1) := by decide +kernel
theorem wL_law_2670 {x y : Int32} (kk : QW V iL_law 2671 [a0, a1, a2, a3, a4, a5, a6, a7, a8] (.int (x + y) :: st) h z bc bs Kr Kx) : QW V iL_law 2670 [a0, a1, a2, a3, a4, a5, a6, a7, a8] (.int y :: .int x :: st) h z bc bs Kr Kx := q_iadd dL_law_2670 kk
theorem dL_law_2671 : decode (i_b iL_law) 2671 = .ok (.iaload, 1) := by decide +kernel
theorem wL_law_2671 {j : Nat} {i : Int32} (hi : i = nI j) (hj : j < e_sL V) (hn : e_sL V < 2147483648) (kk : QW V iL_law 2672 [a0, a1, a2, a3, a4, a5, a6, a7, a8] (.int (e_xs V j) :: st) h z bc bs Kr Kx) : QW V iL_law 2671 [a0, a1, a2, a3, a4, a5, a6, a7, a8] (.int i :: .ref (e_sb V) :: st) h z bc bs Kr Kx := q_sld dL_law_2671 hi hj hn kk
theorem dL_law_2672 : decode (i_b iL_law) 2672 = .ok (.invokevirtual 273, 3) := by decide +kernel
theorem wL_law_2672 {a : Nat} {fs : List Value} {x0 : Int32} {x1 : Int32} (hb : h a = some (.inr (10, fs))) (hm : QMl V iX9_taxAhead [.ref a, .int x0, .int x1] h z (fun r h' z' => QW V iL_law 2675 [a0, a1, a2, a3, a4, a5, a6, a7, a8] (.long r :: st) h' z' bc bs Kr Kx) Kx) (hW : (st.map fun v => v.category).sum ≤ 8 := by exact Nat.le_of_ble_eq_true rfl) : QW V iL_law 2672 [a0, a1, a2, a3, a4, a5, a6, a7, a8] (.int x1 :: .int x0 :: .ref a :: st) h z bc bs Kr Kx := q_callV (y' := iX9_taxAhead) (As := [.int x0, .int x1]) (rest := st) dL_law_2672 k8_55 k8_56 k8_57 k1_10 hhX9_taxAhead rfl hdX9_taxAhead rfl rfl (Nat.le_of_ble_eq_true rfl) (Nat.le_of_ble_eq_true rfl) hW rfl hb (QMl.run hm)
theorem dL_law_2675 : decode (i_b iL_law) 2675 = .ok (.lstore 7, 2) := by decide +kernel
theorem wL_law_2675 {x : Int64} (kk : QW V iL_law 2677 [a0, a1, a2, a3, a4, a5, a6, some (.long x), none] (st) h z bc bs Kr Kx) (hp : q_n2 a6 = true := by rfl) : QW V iL_law 2675 [a0, a1, a2, a3, a4, a5, a6, a7, a8] (.long x :: st) h z bc bs Kr Kx := q_lstore dL_law_2675 (Nat.le_of_ble_eq_true rfl) hp kk
theorem dL_law_2677 : decode (i_b iL_law) 2677 = .ok (.aload_n 2, 1) := by decide +kernel
theorem wL_law_2677 {x : Nat} (kk : QW V iL_law 2678 [a0, a1, some (.ref x), a3, a4, a5, a6, a7, a8] (.ref x :: st) h z bc bs Kr Kx) : QW V iL_law 2677 [a0, a1, some (.ref x), a3, a4, a5, a6, a7, a8] (st) h z bc bs Kr Kx := q_aload_n dL_law_2677 rfl rfl kk
theorem dL_law_2678 : decode (i_b iL_law) 2678 = .ok (.invokevirtual 150, 3) := by decide +kernel
theorem wL_law_2678 {a : Nat} {fs : List Value}  (hb : h a = some (.inr (10, fs))) (hm : QMi V iX9_thrown [.ref a] h z (fun r h' z' => QW V iL_law 2681 [a0, a1, a2, a3, a4, a5, a6, a7, a8] (.int r :: st) h' z' bc bs Kr Kx) Kx) (hW : (st.map fun v => v.category).sum ≤ 8 := by exact Nat.le_of_ble_eq_true rfl) : QW V iL_law 2678 [a0, a1, a2, a3, a4, a5, a6, a7, a8] (.ref a :: st) h z bc bs Kr Kx := q_callV (y' := iX9_thrown) (As := []) (rest := st) dL_law_2678 k6_80 k6_81 k6_82 k1_10 hhX9_thrown rfl hdX9_thrown rfl rfl (Nat.le_of_ble_eq_true rfl) (Nat.le_of_ble_eq_true rfl) hW rfl hb (QMi.run hm)
theorem dL_law_2681 : decode (i_b iL_law) 2681 = .ok (.iload 6, 2) := by decide +kernel
theorem wL_law_2681 {x : Int32} (kk : QW V iL_law 2683 [a0, a1, a2, a3, a4, a5, some (.int x), a7, a8] (.int x :: st) h z bc bs Kr Kx) : QW V iL_law 2681 [a0, a1, a2, a3, a4, a5, some (.int x), a7, a8] (st) h z bc bs Kr Kx := q_iload dL_law_2681 rfl kk
theorem dL_law_2683 : decode (i_b iL_law) 2683 = .ok (.if_icmp .eq 5, 3) := by decide +kernel
theorem wL_law_2683 {x y : Int32} (kt : x = y → QW V iL_law 2688 [a0, a1, a2, a3, a4, a5, a6, a7, a8] (st) h z bc bs Kr Kx) (kf : ¬ x = y → QW V iL_law 2686 [a0, a1, a2, a3, a4, a5, a6, a7, a8] (st) h z bc bs Kr Kx) : QW V iL_law 2683 [a0, a1, a2, a3, a4, a5, a6, a7, a8] (.int y :: .int x :: st) h z bc bs Kr Kx := q_icmp_eq dL_law_2683 (by decide) kt kf
theorem dL_law_2686 : decode (i_b iL_law) 2686 = .ok (.iconst 0, 1) := by decide +kernel
theorem wL_law_2686  (kk : QW V iL_law 2687 [a0, a1, a2, a3, a4, a5, a6, a7, a8] (.int (0) :: st) h z bc bs Kr Kx) : QW V iL_law 2686 [a0, a1, a2, a3, a4, a5, a6, a7, a8] (st) h z bc bs Kr Kx := q_iconst dL_law_2686 (by decide) kk
theorem dL_law_2687 : decode (i_b iL_law) 2687 = .ok (.ireturn, 1) := by decide +kernel
theorem wL_law_2687 {x : Int32} {P : Int32 → q_H → Option Nat → Prop} (hk : P x h z) (hn : narrow .boolean (.int x) = .int x := by first | rfl | exact q_b_n _) : QW V iL_law 2687 [a0, a1, a2, a3, a4, a5, a6, a7, a8] [.int x] h z bc bs (q_Ki P) Kx := q_iret dL_law_2687 rfl hn ⟨x, rfl, hk⟩
theorem dL_law_2688 : decode (i_b iL_law) 2688 = .ok (.iload 6, 2) := by decide +kernel
theorem wL_law_2688 {x : Int32} (kk : QW V iL_law 2690 [a0, a1, a2, a3, a4, a5, some (.int x), a7, a8] (.int x :: st) h z bc bs Kr Kx) : QW V iL_law 2688 [a0, a1, a2, a3, a4, a5, some (.int x), a7, a8] (st) h z bc bs Kr Kx := q_iload dL_law_2688 rfl kk
theorem dL_law_2690 : decode (i_b iL_law) 2690 = .ok (.ifCond .ne 14, 3) := by decide +kernel
theorem wL_law_2690 {x : Int32} (kt : ¬ x = 0 → QW V iL_law 2704 [a0, a1, a2, a3, a4, a5, a6, a7, a8] (st) h z bc bs Kr Kx) (kf : x = 0 → QW V iL_law 2693 [a0, a1, a2, a3, a4, a5, a6, a7, a8] (st) h z bc bs Kr Kx) : QW V iL_law 2690 [a0, a1, a2, a3, a4, a5, a6, a7, a8] (.int x :: st) h z bc bs Kr Kx := q_if_ne dL_law_2690 (by decide) kt kf
theorem dL_law_2693 : decode (i_b iL_law) 2693 = .ok (.aload_n 3, 1) := by decide +kernel
theorem wL_law_2693 {x : Nat} (kk : QW V iL_law 2694 [a0, a1, a2, some (.ref x), a4, a5, a6, a7, a8] (.ref x :: st) h z bc bs Kr Kx) : QW V iL_law 2693 [a0, a1, a2, some (.ref x), a4, a5, a6, a7, a8] (st) h z bc bs Kr Kx := q_aload_n dL_law_2693 rfl rfl kk
theorem dL_law_2694 : decode (i_b iL_law) 2694 = .ok (.iconst 0, 1) := by decide +kernel
theorem wL_law_2694  (kk : QW V iL_law 2695 [a0, a1, a2, a3, a4, a5, a6, a7, a8] (.int (0) :: st) h z bc bs Kr Kx) : QW V iL_law 2694 [a0, a1, a2, a3, a4, a5, a6, a7, a8] (st) h z bc bs Kr Kx := q_iconst dL_law_2694 (by decide) kk
theorem dL_law_2695 : decode (i_b iL_law) 2695 = .ok (.laload, 1) := by decide +kernel
theorem wL_law_2695 {a n j : Nat} {f : Nat → Int64} {i : Int32} (ha : h a = some (.inl (2, n, .inr (.inl f)))) (hi : i = nI j) (hj : j < n) (hn : n < 2147483648) (kk : QW V iL_law 2696 [a0, a1, a2, a3, a4, a5, a6, a7, a8] (.long (f j) :: st) h z bc bs Kr Kx) : QW V iL_law 2695 [a0, a1, a2, a3, a4, a5, a6, a7, a8] (.int i :: .ref a :: st) h z bc bs Kr Kx := q_lald dL_law_2695 ha hi hj hn kk
theorem dL_law_2696 : decode (i_b iL_law) 2696 = .ok (.lload 7, 2) := by decide +kernel
theorem wL_law_2696 {x : Int64} (kk : QW V iL_law 2698 [a0, a1, a2, a3, a4, a5, a6, some (.long x), a8] (.long x :: st) h z bc bs Kr Kx) : QW V iL_law 2696 [a0, a1, a2, a3, a4, a5, a6, some (.long x), a8] (st) h z bc bs Kr Kx := q_lload dL_law_2696 rfl kk
theorem dL_law_2698 : decode (i_b iL_law) 2698 = .ok (.lcmp, 1) := by decide +kernel
theorem dL_law_2699 : decode (i_b iL_law) 2699 = .ok (.ifCond .eq 5, 3) := by decide +kernel
theorem wL_law_2698 {x y : Int64} (kt : x = y → QW V iL_law 2704 [a0, a1, a2, a3, a4, a5, a6, a7, a8] (st) h z bc bs Kr Kx) (kf : ¬ x = y → QW V iL_law 2702 [a0, a1, a2, a3, a4, a5, a6, a7, a8] (st) h z bc bs Kr Kx) : QW V iL_law 2698 [a0, a1, a2, a3, a4, a5, a6, a7, a8] (.long y :: .long x :: st) h z bc bs Kr Kx := q_lcmp dL_law_2698 (q_if_eq dL_law_2699 (by decide) (fun q => kt ((q_lc_eq x y).mp q)) (fun q => kf (q_lcn_eq q)))
theorem dL_law_2702 : decode (i_b iL_law) 2702 = .ok (.iconst 0, 1) := by decide +kernel
theorem wL_law_2702  (kk : QW V iL_law 2703 [a0, a1, a2, a3, a4, a5, a6, a7, a8] (.int (0) :: st) h z bc bs Kr Kx) : QW V iL_law 2702 [a0, a1, a2, a3, a4, a5, a6, a7, a8] (st) h z bc bs Kr Kx := q_iconst dL_law_2702 (by decide) kk
theorem dL_law_2703 : decode (i_b iL_law) 2703 = .ok (.ireturn, 1) := by decide +kernel
theorem wL_law_2703 {x : Int32} {P : Int32 → q_H → Option Nat → Prop} (hk : P x h z) (hn : narrow .boolean (.int x) = .int x := by first | rfl | exact q_b_n _) : QW V iL_law 2703 [a0, a1, a2, a3, a4, a5, a6, a7, a8] [.int x] h z bc bs (q_Ki P) Kx := q_iret dL_law_2703 rfl hn ⟨x, rfl, hk⟩
theorem dL_law_2704 : decode (i_b iL_law) 2704 = .ok (.goto 47, 3) := by decide +kernel
theorem wL_law_2704  (kk : QW V iL_law 2751 [a0, a1, a2, a3, a4, a5, a6, a7, a8] (st) h z bc bs Kr Kx) : QW V iL_law 2704 [a0, a1, a2, a3, a4, a5, a6, a7, a8] (st) h z bc bs Kr Kx := q_goto dL_law_2704 (by decide) kk
theorem dL_law_2707 : decode (i_b iL_law) 2707 = .ok (.aload_n 1, 1) := by decide +kernel
theorem wL_law_2707 {x : Nat} (kk : QW V iL_law 2708 [a0, some (.ref x), a2, a3, a4, a5, a6, a7, a8] (.ref x :: st) h z bc bs Kr Kx) : QW V iL_law 2707 [a0, some (.ref x), a2, a3, a4, a5, a6, a7, a8] (st) h z bc bs Kr Kx := q_aload_n dL_law_2707 rfl rfl kk
theorem dL_law_2708 : decode (i_b iL_law) 2708 = .ok (.aload_n 3, 1) := by decide +kernel
theorem wL_law_2708 {x : Nat} (kk : QW V iL_law 2709 [a0, a1, a2, some (.ref x), a4, a5, a6, a7, a8] (.ref x :: st) h z bc bs Kr Kx) : QW V iL_law 2708 [a0, a1, a2, some (.ref x), a4, a5, a6, a7, a8] (st) h z bc bs Kr Kx := q_aload_n dL_law_2708 rfl rfl kk
theorem dL_law_2709 : decode (i_b iL_law) 2709 = .ok (.invokestatic 274, 3) := by decide +kernel
theorem wL_law_2709 {x0 : Nat} {x1 : Nat} (hm : QMi V iL_undo [.ref x0, .ref x1] h z (fun r h' z' => QW V iL_law 2712 [a0, a1, a2, a3, a4, a5, a6, a7, a8] (.int r :: st) h' z' bc bs Kr Kx) Kx) (hW : (st.map fun v => v.category).sum ≤ 8 := by exact Nat.le_of_ble_eq_true rfl) : QW V iL_law 2709 [a0, a1, a2, a3, a4, a5, a6, a7, a8] (.ref x1 :: .ref x0 :: st) h z (bc + 1) (bs + 6) Kr Kx := q_callSX (y' := iL_undo) (As := [.ref x0, .ref x1]) (rest := st) dL_law_2709 k5_196 k5_197 k1_0 hhL_undo (by decide) hdL_undo rfl (Nat.le_of_ble_eq_true rfl) (Nat.le_of_ble_eq_true rfl) hW rfl (QMi.run hm)
theorem dL_law_2712 : decode (i_b iL_law) 2712 = .ok (.istore 6, 2) := by decide +kernel
theorem wL_law_2712 {x : Int32} (kk : QW V iL_law 2714 [a0, a1, a2, a3, a4, a5, some (.int x), a7, a8] (st) h z bc bs Kr Kx) (hp : q_n2 a5 = true := by rfl) : QW V iL_law 2712 [a0, a1, a2, a3, a4, a5, a6, a7, a8] (.int x :: st) h z bc bs Kr Kx := q_istore dL_law_2712 (Nat.le_of_ble_eq_true rfl) hp kk
theorem dL_law_2714 : decode (i_b iL_law) 2714 = .ok (.aload_n 2, 1) := by decide +kernel
theorem wL_law_2714 {x : Nat} (kk : QW V iL_law 2715 [a0, a1, some (.ref x), a3, a4, a5, a6, a7, a8] (.ref x :: st) h z bc bs Kr Kx) : QW V iL_law 2714 [a0, a1, some (.ref x), a3, a4, a5, a6, a7, a8] (st) h z bc bs Kr Kx := q_aload_n dL_law_2714 rfl rfl kk
theorem dL_law_2715 : decode (i_b iL_law) 2715 = .ok (.invokevirtual 276, 3) := by decide +kernel
theorem wL_law_2715 {a : Nat} {fs : List Value}  (hb : h a = some (.inr (10, fs))) (hm : QMi V iX9_undo [.ref a] h z (fun r h' z' => QW V iL_law 2718 [a0, a1, a2, a3, a4, a5, a6, a7, a8] (.int r :: st) h' z' bc bs Kr Kx) Kx) (hW : (st.map fun v => v.category).sum ≤ 8 := by exact Nat.le_of_ble_eq_true rfl) : QW V iL_law 2715 [a0, a1, a2, a3, a4, a5, a6, a7, a8] (.ref a :: st) h z bc bs Kr Kx := q_callV (y' := iX9_undo) (As := []) (rest := st) dL_law_2715 k6_184 k6_185 k6_186 k1_10 hhX9_undo rfl hdX9_undo rfl rfl (Nat.le_of_ble_eq_true rfl) (Nat.le_of_ble_eq_true rfl) hW rfl hb (QMi.run hm)
theorem dL_law_2718 : decode (i_b iL_law) 2718 = .ok (.istore 7, 2) := by decide +kernel
theorem wL_law_2718 {x : Int32} (kk : QW V iL_law 2720 [a0, a1, a2, a3, a4, a5, a6, some (.int x), a8] (st) h z bc bs Kr Kx) (hp : q_n2 a6 = true := by rfl) : QW V iL_law 2718 [a0, a1, a2, a3, a4, a5, a6, a7, a8] (.int x :: st) h z bc bs Kr Kx := q_istore dL_law_2718 (Nat.le_of_ble_eq_true rfl) hp kk
theorem dL_law_2720 : decode (i_b iL_law) 2720 = .ok (.aload_n 2, 1) := by decide +kernel
theorem wL_law_2720 {x : Nat} (kk : QW V iL_law 2721 [a0, a1, some (.ref x), a3, a4, a5, a6, a7, a8] (.ref x :: st) h z bc bs Kr Kx) : QW V iL_law 2720 [a0, a1, some (.ref x), a3, a4, a5, a6, a7, a8] (st) h z bc bs Kr Kx := q_aload_n dL_law_2720 rfl rfl kk
theorem dL_law_2721 : decode (i_b iL_law) 2721 = .ok (.invokevirtual 150, 3) := by decide +kernel
theorem wL_law_2721 {a : Nat} {fs : List Value}  (hb : h a = some (.inr (10, fs))) (hm : QMi V iX9_thrown [.ref a] h z (fun r h' z' => QW V iL_law 2724 [a0, a1, a2, a3, a4, a5, a6, a7, a8] (.int r :: st) h' z' bc bs Kr Kx) Kx) (hW : (st.map fun v => v.category).sum ≤ 8 := by exact Nat.le_of_ble_eq_true rfl) : QW V iL_law 2721 [a0, a1, a2, a3, a4, a5, a6, a7, a8] (.ref a :: st) h z bc bs Kr Kx := q_callV (y' := iX9_thrown) (As := []) (rest := st) dL_law_2721 k6_80 k6_81 k6_82 k1_10 hhX9_thrown rfl hdX9_thrown rfl rfl (Nat.le_of_ble_eq_true rfl) (Nat.le_of_ble_eq_true rfl) hW rfl hb (QMi.run hm)
theorem dL_law_2724 : decode (i_b iL_law) 2724 = .ok (.iload 6, 2) := by decide +kernel
theorem wL_law_2724 {x : Int32} (kk : QW V iL_law 2726 [a0, a1, a2, a3, a4, a5, some (.int x), a7, a8] (.int x :: st) h z bc bs Kr Kx) : QW V iL_law 2724 [a0, a1, a2, a3, a4, a5, some (.int x), a7, a8] (st) h z bc bs Kr Kx := q_iload dL_law_2724 rfl kk
theorem dL_law_2726 : decode (i_b iL_law) 2726 = .ok (.if_icmp .eq 5, 3) := by decide +kernel
theorem wL_law_2726 {x y : Int32} (kt : x = y → QW V iL_law 2731 [a0, a1, a2, a3, a4, a5, a6, a7, a8] (st) h z bc bs Kr Kx) (kf : ¬ x = y → QW V iL_law 2729 [a0, a1, a2, a3, a4, a5, a6, a7, a8] (st) h z bc bs Kr Kx) : QW V iL_law 2726 [a0, a1, a2, a3, a4, a5, a6, a7, a8] (.int y :: .int x :: st) h z bc bs Kr Kx := q_icmp_eq dL_law_2726 (by decide) kt kf
theorem dL_law_2729 : decode (i_b iL_law) 2729 = .ok (.iconst 0, 1) := by decide +kernel
theorem wL_law_2729  (kk : QW V iL_law 2730 [a0, a1, a2, a3, a4, a5, a6, a7, a8] (.int (0) :: st) h z bc bs Kr Kx) : QW V iL_law 2729 [a0, a1, a2, a3, a4, a5, a6, a7, a8] (st) h z bc bs Kr Kx := q_iconst dL_law_2729 (by decide) kk
theorem dL_law_2730 : decode (i_b iL_law) 2730 = .ok (.ireturn, 1) := by decide +kernel
theorem wL_law_2730 {x : Int32} {P : Int32 → q_H → Option Nat → Prop} (hk : P x h z) (hn : narrow .boolean (.int x) = .int x := by first | rfl | exact q_b_n _) : QW V iL_law 2730 [a0, a1, a2, a3, a4, a5, a6, a7, a8] [.int x] h z bc bs (q_Ki P) Kx := q_iret dL_law_2730 rfl hn ⟨x, rfl, hk⟩
theorem dL_law_2731 : decode (i_b iL_law) 2731 = .ok (.iload 6, 2) := by decide +kernel
theorem wL_law_2731 {x : Int32} (kk : QW V iL_law 2733 [a0, a1, a2, a3, a4, a5, some (.int x), a7, a8] (.int x :: st) h z bc bs Kr Kx) : QW V iL_law 2731 [a0, a1, a2, a3, a4, a5, some (.int x), a7, a8] (st) h z bc bs Kr Kx := q_iload dL_law_2731 rfl kk
theorem dL_law_2733 : decode (i_b iL_law) 2733 = .ok (.ifCond .ne 15, 3) := by decide +kernel
theorem wL_law_2733 {x : Int32} (kt : ¬ x = 0 → QW V iL_law 2748 [a0, a1, a2, a3, a4, a5, a6, a7, a8] (st) h z bc bs Kr Kx) (kf : x = 0 → QW V iL_law 2736 [a0, a1, a2, a3, a4, a5, a6, a7, a8] (st) h z bc bs Kr Kx) : QW V iL_law 2733 [a0, a1, a2, a3, a4, a5, a6, a7, a8] (.int x :: st) h z bc bs Kr Kx := q_if_ne dL_law_2733 (by decide) kt kf
theorem dL_law_2736 : decode (i_b iL_law) 2736 = .ok (.aload_n 3, 1) := by decide +kernel
theorem wL_law_2736 {x : Nat} (kk : QW V iL_law 2737 [a0, a1, a2, some (.ref x), a4, a5, a6, a7, a8] (.ref x :: st) h z bc bs Kr Kx) : QW V iL_law 2736 [a0, a1, a2, some (.ref x), a4, a5, a6, a7, a8] (st) h z bc bs Kr Kx := q_aload_n dL_law_2736 rfl rfl kk
theorem dL_law_2737 : decode (i_b iL_law) 2737 = .ok (.iconst 0, 1) := by decide +kernel
theorem wL_law_2737  (kk : QW V iL_law 2738 [a0, a1, a2, a3, a4, a5, a6, a7, a8] (.int (0) :: st) h z bc bs Kr Kx) : QW V iL_law 2737 [a0, a1, a2, a3, a4, a5, a6, a7, a8] (st) h z bc bs Kr Kx := q_iconst dL_law_2737 (by decide) kk
theorem dL_law_2738 : decode (i_b iL_law) 2738 = .ok (.laload, 1) := by decide +kernel
theorem wL_law_2738 {a n j : Nat} {f : Nat → Int64} {i : Int32} (ha : h a = some (.inl (2, n, .inr (.inl f)))) (hi : i = nI j) (hj : j < n) (hn : n < 2147483648) (kk : QW V iL_law 2739 [a0, a1, a2, a3, a4, a5, a6, a7, a8] (.long (f j) :: st) h z bc bs Kr Kx) : QW V iL_law 2738 [a0, a1, a2, a3, a4, a5, a6, a7, a8] (.int i :: .ref a :: st) h z bc bs Kr Kx := q_lald dL_law_2738 ha hi hj hn kk
theorem dL_law_2739 : decode (i_b iL_law) 2739 = .ok (.iload 7, 2) := by decide +kernel
theorem wL_law_2739 {x : Int32} (kk : QW V iL_law 2741 [a0, a1, a2, a3, a4, a5, a6, some (.int x), a8] (.int x :: st) h z bc bs Kr Kx) : QW V iL_law 2739 [a0, a1, a2, a3, a4, a5, a6, some (.int x), a8] (st) h z bc bs Kr Kx := q_iload dL_law_2739 rfl kk
theorem dL_law_2741 : decode (i_b iL_law) 2741 = .ok (.i2l, 1) := by decide +kernel
theorem wL_law_2741 {x : Int32} (kk : QW V iL_law 2742 [a0, a1, a2, a3, a4, a5, a6, a7, a8] (.long (x.toInt64) :: st) h z bc bs Kr Kx) : QW V iL_law 2741 [a0, a1, a2, a3, a4, a5, a6, a7, a8] (.int x :: st) h z bc bs Kr Kx := q_i2l dL_law_2741 kk
theorem dL_law_2742 : decode (i_b iL_law) 2742 = .ok (.lcmp, 1) := by decide +kernel
theorem dL_law_2743 : decode (i_b iL_law) 2743 = .ok (.ifCond .eq 5, 3) := by decide +kernel
theorem wL_law_2742 {x y : Int64} (kt : x = y → QW V iL_law 2748 [a0, a1, a2, a3, a4, a5, a6, a7, a8] (st) h z bc bs Kr Kx) (kf : ¬ x = y → QW V iL_law 2746 [a0, a1, a2, a3, a4, a5, a6, a7, a8] (st) h z bc bs Kr Kx) : QW V iL_law 2742 [a0, a1, a2, a3, a4, a5, a6, a7, a8] (.long y :: .long x :: st) h z bc bs Kr Kx := q_lcmp dL_law_2742 (q_if_eq dL_law_2743 (by decide) (fun q => kt ((q_lc_eq x y).mp q)) (fun q => kf (q_lcn_eq q)))
theorem dL_law_2746 : decode (i_b iL_law) 2746 = .ok (.iconst 0, 1) := by decide +kernel
theorem wL_law_2746  (kk : QW V iL_law 2747 [a0, a1, a2, a3, a4, a5, a6, a7, a8] (.int (0) :: st) h z bc bs Kr Kx) : QW V iL_law 2746 [a0, a1, a2, a3, a4, a5, a6, a7, a8] (st) h z bc bs Kr Kx := q_iconst dL_law_2746 (by decide) kk
theorem dL_law_2747 : decode (i_b iL_law) 2747 = .ok (.ireturn, 1) := by decide +kernel
theorem wL_law_2747 {x : Int32} {P : Int32 → q_H → Option Nat → Prop} (hk : P x h z) (hn : narrow .boolean (.int x) = .int x := by first | rfl | exact q_b_n _) : QW V iL_law 2747 [a0, a1, a2, a3, a4, a5, a6, a7, a8] [.int x] h z bc bs (q_Ki P) Kx := q_iret dL_law_2747 rfl hn ⟨x, rfl, hk⟩
theorem dL_law_2748 : decode (i_b iL_law) 2748 = .ok (.goto 3, 3) := by decide +kernel
theorem wL_law_2748  (kk : QW V iL_law 2751 [a0, a1, a2, a3, a4, a5, a6, a7, a8] (st) h z bc bs Kr Kx) : QW V iL_law 2748 [a0, a1, a2, a3, a4, a5, a6, a7, a8] (st) h z bc bs Kr Kx := q_goto dL_law_2748 (by decide) kk
theorem dL_law_2751 : decode (i_b iL_law) 2751 = .ok (.iinc 5 6, 3) := by decide +kernel
theorem wL_law_2751 {x : Int32} (kk : QW V iL_law 2754 [a0, a1, a2, a3, a4, some (.int (x + (6))), a6, a7, a8] (st) h z bc bs Kr Kx) (hp : q_n2 a4 = true := by rfl) : QW V iL_law 2751 [a0, a1, a2, a3, a4, some (.int x), a6, a7, a8] (st) h z bc bs Kr Kx := q_iinc (v := x + (6)) dL_law_2751 rfl rfl (Nat.le_of_ble_eq_true rfl) hp kk
theorem dL_law_2754 : decode (i_b iL_law) 2754 = .ok (.goto (-2726), 3) := by decide +kernel
theorem wL_law_2754  (kk : QW V iL_law 28 [a0, a1, a2, a3, a4, a5, a6, a7, a8] (st) h z bc bs Kr Kx) : QW V iL_law 2754 [a0, a1, a2, a3, a4, a5, a6, a7, a8] (st) h z bc bs Kr Kx := q_goto dL_law_2754 (by decide) kk
theorem dL_law_2757 : decode (i_b iL_law) 2757 = .ok (.iconst 1, 1) := by decide +kernel
theorem wL_law_2757  (kk : QW V iL_law 2758 [a0, a1, a2, a3, a4, a5, a6, a7, a8] (.int (1) :: st) h z bc bs Kr Kx) : QW V iL_law 2757 [a0, a1, a2, a3, a4, a5, a6, a7, a8] (st) h z bc bs Kr Kx := q_iconst dL_law_2757 (by decide) kk
theorem dL_law_2758 : decode (i_b iL_law) 2758 = .ok (.ireturn, 1) := by decide +kernel
theorem wL_law_2758 {x : Int32} {P : Int32 → q_H → Option Nat → Prop} (hk : P x h z) (hn : narrow .boolean (.int x) = .int x := by first | rfl | exact q_b_n _) : QW V iL_law 2758 [a0, a1, a2, a3, a4, a5, a6, a7, a8] [.int x] h z bc bs (q_Ki P) Kx := q_iret dL_law_2758 rfl hn ⟨x, rfl, hk⟩
end QXLL
