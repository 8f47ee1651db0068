section QR
variable {V : q_En} {y : q_I} {pc : Nat} {ls : List (Option Value)} {st : List Value} {h : q_H} {z : Option Nat} {bc bs : Nat} {Kr : q_KR} {Kx : q_KX}
theorem q_iconst {n : Int} {v : Int32} (d : decode (i_b y) pc = .ok (.iconst n, 1)) (hv : Int32.ofInt n = v) (kk : QW V y (pc + 1) ls (.int v :: st) h z bc bs Kr Kx) : QW V y pc ls (st) h z bc bs Kr Kx :=
  fun p e R s m args below meth c H locs cells slots l0 Q C hR hL hS hc hs hF => lv_iconst C.1 C.2.1 d hv (kk p e R s m args below meth c H locs cells slots l0 Q C hR hL hS hc hs hF)
theorem q_bipush {n : Int} {v : Int32} (d : decode (i_b y) pc = .ok (.bipush n, 2)) (hv : (Int8.ofInt n).toInt32 = v) (kk : QW V y (pc + 2) ls (.int v :: st) h z bc bs Kr Kx) : QW V y pc ls (st) h z bc bs Kr Kx :=
  fun p e R s m args below meth c H locs cells slots l0 Q C hR hL hS hc hs hF => lv_bipush C.1 C.2.1 d hv (kk p e R s m args below meth c H locs cells slots l0 Q C hR hL hS hc hs hF)
theorem q_sipush {n : Int} {v : Int32} (d : decode (i_b y) pc = .ok (.sipush n, 3)) (hv : (Int16.ofInt n).toInt32 = v) (kk : QW V y (pc + 3) ls (.int v :: st) h z bc bs Kr Kx) : QW V y pc ls (st) h z bc bs Kr Kx :=
  fun p e R s m args below meth c H locs cells slots l0 Q C hR hL hS hc hs hF => lv_sipush C.1 C.2.1 d hv (kk p e R s m args below meth c H locs cells slots l0 Q C hR hL hS hc hs hF)
theorem q_lconst {n : Fin 2} {v : Int64} (d : decode (i_b y) pc = .ok (.lconst n, 1)) (hv : Int64.ofNat (n : Nat) = v) (kk : QW V y (pc + 1) ls (.long v :: st) h z bc bs Kr Kx) : QW V y pc ls (st) h z bc bs Kr Kx :=
  fun p e R s m args below meth c H locs cells slots l0 Q C hR hL hS hc hs hF => lv_lconst C.1 C.2.1 d hv (kk p e R s m args below meth c H locs cells slots l0 Q C hR hL hS hc hs hF)
theorem q_dconst0  (d : decode (i_b y) pc = .ok (.dconst 0, 1)) (kk : QW V y (pc + 1) ls (.double FP.dconst0 :: st) h z bc bs Kr Kx) : QW V y pc ls (st) h z bc bs Kr Kx :=
  fun p e R s m args below meth c H locs cells slots l0 Q C hR hL hS hc hs hF => lv_dconst0 C.1 C.2.1 d  (kk p e R s m args below meth c H locs cells slots l0 Q C hR hL hS hc hs hF)
theorem q_iadd {x a : Int32} (d : decode (i_b y) pc = .ok (.iadd, 1)) (kk : QW V y (pc + 1) ls (.int (x + a) :: st) h z bc bs Kr Kx) : QW V y pc ls (.int a :: .int x :: st) h z bc bs Kr Kx :=
  fun p e R s m args below meth c H locs cells slots l0 Q C hR hL hS hc hs hF => lv_iadd C.1 C.2.1 d  (kk p e R s m args below meth c H locs cells slots l0 Q C hR hL hS hc hs hF)
theorem q_isub {x a : Int32} (d : decode (i_b y) pc = .ok (.isub, 1)) (kk : QW V y (pc + 1) ls (.int (x - a) :: st) h z bc bs Kr Kx) : QW V y pc ls (.int a :: .int x :: st) h z bc bs Kr Kx :=
  fun p e R s m args below meth c H locs cells slots l0 Q C hR hL hS hc hs hF => lv_isub C.1 C.2.1 d  (kk p e R s m args below meth c H locs cells slots l0 Q C hR hL hS hc hs hF)
theorem q_imul {x a : Int32} (d : decode (i_b y) pc = .ok (.imul, 1)) (kk : QW V y (pc + 1) ls (.int (x * a) :: st) h z bc bs Kr Kx) : QW V y pc ls (.int a :: .int x :: st) h z bc bs Kr Kx :=
  fun p e R s m args below meth c H locs cells slots l0 Q C hR hL hS hc hs hF => lv_imul C.1 C.2.1 d  (kk p e R s m args below meth c H locs cells slots l0 Q C hR hL hS hc hs hF)
theorem q_iand {x a : Int32} (d : decode (i_b y) pc = .ok (.iand, 1)) (kk : QW V y (pc + 1) ls (.int (x &&& a) :: st) h z bc bs Kr Kx) : QW V y pc ls (.int a :: .int x :: st) h z bc bs Kr Kx :=
  fun p e R s m args below meth c H locs cells slots l0 Q C hR hL hS hc hs hF => lv_iand C.1 C.2.1 d  (kk p e R s m args below meth c H locs cells slots l0 Q C hR hL hS hc hs hF)
theorem q_ior {x a : Int32} (d : decode (i_b y) pc = .ok (.ior, 1)) (kk : QW V y (pc + 1) ls (.int (x ||| a) :: st) h z bc bs Kr Kx) : QW V y pc ls (.int a :: .int x :: st) h z bc bs Kr Kx :=
  fun p e R s m args below meth c H locs cells slots l0 Q C hR hL hS hc hs hF => lv_ior C.1 C.2.1 d  (kk p e R s m args below meth c H locs cells slots l0 Q C hR hL hS hc hs hF)
theorem q_ixor {x a : Int32} (d : decode (i_b y) pc = .ok (.ixor, 1)) (kk : QW V y (pc + 1) ls (.int (x ^^^ a) :: st) h z bc bs Kr Kx) : QW V y pc ls (.int a :: .int x :: st) h z bc bs Kr Kx :=
  fun p e R s m args below meth c H locs cells slots l0 Q C hR hL hS hc hs hF => lv_ixor C.1 C.2.1 d  (kk p e R s m args below meth c H locs cells slots l0 Q C hR hL hS hc hs hF)
theorem q_ishl {x a : Int32} (d : decode (i_b y) pc = .ok (.ishl, 1)) (kk : QW V y (pc + 1) ls (.int (x <<< (a &&& 31)) :: st) h z bc bs Kr Kx) : QW V y pc ls (.int a :: .int x :: st) h z bc bs Kr Kx :=
  fun p e R s m args below meth c H locs cells slots l0 Q C hR hL hS hc hs hF => lv_ishl C.1 C.2.1 d  (kk p e R s m args below meth c H locs cells slots l0 Q C hR hL hS hc hs hF)
theorem q_ishr {x a : Int32} (d : decode (i_b y) pc = .ok (.ishr, 1)) (kk : QW V y (pc + 1) ls (.int (x >>> (a &&& 31)) :: st) h z bc bs Kr Kx) : QW V y pc ls (.int a :: .int x :: st) h z bc bs Kr Kx :=
  fun p e R s m args below meth c H locs cells slots l0 Q C hR hL hS hc hs hF => lv_ishr C.1 C.2.1 d  (kk p e R s m args below meth c H locs cells slots l0 Q C hR hL hS hc hs hF)
theorem q_idiv {x a : Int32} (d : decode (i_b y) pc = .ok (.idiv, 1)) (hne : ¬ a = 0) (kk : QW V y (pc + 1) ls (.int (x / a) :: st) h z bc bs Kr Kx) : QW V y pc ls (.int a :: .int x :: st) h z bc bs Kr Kx :=
  fun p e R s m args below meth c H locs cells slots l0 Q C hR hL hS hc hs hF => lv_idiv C.1 C.2.1 d hne (kk p e R s m args below meth c H locs cells slots l0 Q C hR hL hS hc hs hF)
theorem q_irem {x a : Int32} (d : decode (i_b y) pc = .ok (.irem, 1)) (hne : ¬ a = 0) (kk : QW V y (pc + 1) ls (.int (x - x / a * a) :: st) h z bc bs Kr Kx) : QW V y pc ls (.int a :: .int x :: st) h z bc bs Kr Kx :=
  fun p e R s m args below meth c H locs cells slots l0 Q C hR hL hS hc hs hF => lv_irem C.1 C.2.1 d hne (kk p e R s m args below meth c H locs cells slots l0 Q C hR hL hS hc hs hF)
theorem q_ldiv {x a : Int64} (d : decode (i_b y) pc = .ok (.ldiv, 1)) (hne : ¬ a = 0) (kk : QW V y (pc + 1) ls (.long (x / a) :: st) h z bc bs Kr Kx) : QW V y pc ls (.long a :: .long x :: st) h z bc bs Kr Kx :=
  fun p e R s m args below meth c H locs cells slots l0 Q C hR hL hS hc hs hF => lv_ldiv C.1 C.2.1 d hne (kk p e R s m args below meth c H locs cells slots l0 Q C hR hL hS hc hs hF)
theorem q_ineg {x : Int32} (d : decode (i_b y) pc = .ok (.ineg, 1)) (kk : QW V y (pc + 1) ls (.int (-x) :: st) h z bc bs Kr Kx) : QW V y pc ls (.int x :: st) h z bc bs Kr Kx :=
  fun p e R s m args below meth c H locs cells slots l0 Q C hR hL hS hc hs hF => lv_ineg C.1 C.2.1 d  (kk p e R s m args below meth c H locs cells slots l0 Q C hR hL hS hc hs hF)
theorem q_iushr {x a : Int32} (d : decode (i_b y) pc = .ok (.iushr, 1)) (kk : QW V y (pc + 1) ls (.int ((x.toUInt32 >>> (a.toUInt32 &&& Int32.toUInt32 31)).toInt32) :: st) h z bc bs Kr Kx) : QW V y pc ls (.int a :: .int x :: st) h z bc bs Kr Kx :=
  fun p e R s m args below meth c H locs cells slots l0 Q C hR hL hS hc hs hF => lv_iushr C.1 C.2.1 d rfl (kk p e R s m args below meth c H locs cells slots l0 Q C hR hL hS hc hs hF)
theorem q_lshl {x : Int64} {a : Int32} (d : decode (i_b y) pc = .ok (.lshl, 1)) (kk : QW V y (pc + 1) ls (.long (x <<< (a.toInt64 &&& 63)) :: st) h z bc bs Kr Kx) : QW V y pc ls (.int a :: .long x :: st) h z bc bs Kr Kx :=
  fun p e R s m args below meth c H locs cells slots l0 Q C hR hL hS hc hs hF => lv_lshl C.1 C.2.1 d rfl (kk p e R s m args below meth c H locs cells slots l0 Q C hR hL hS hc hs hF)
theorem q_ladd {x a : Int64} (d : decode (i_b y) pc = .ok (.ladd, 1)) (kk : QW V y (pc + 1) ls (.long (x + a) :: st) h z bc bs Kr Kx) : QW V y pc ls (.long a :: .long x :: st) h z bc bs Kr Kx :=
  fun p e R s m args below meth c H locs cells slots l0 Q C hR hL hS hc hs hF => lv_ladd C.1 C.2.1 d  (kk p e R s m args below meth c H locs cells slots l0 Q C hR hL hS hc hs hF)
theorem q_lsub {x a : Int64} (d : decode (i_b y) pc = .ok (.lsub, 1)) (kk : QW V y (pc + 1) ls (.long (x - a) :: st) h z bc bs Kr Kx) : QW V y pc ls (.long a :: .long x :: st) h z bc bs Kr Kx :=
  fun p e R s m args below meth c H locs cells slots l0 Q C hR hL hS hc hs hF => lv_lsub C.1 C.2.1 d  (kk p e R s m args below meth c H locs cells slots l0 Q C hR hL hS hc hs hF)
theorem q_lmul {x a : Int64} (d : decode (i_b y) pc = .ok (.lmul, 1)) (kk : QW V y (pc + 1) ls (.long (x * a) :: st) h z bc bs Kr Kx) : QW V y pc ls (.long a :: .long x :: st) h z bc bs Kr Kx :=
  fun p e R s m args below meth c H locs cells slots l0 Q C hR hL hS hc hs hF => lv_lmul C.1 C.2.1 d  (kk p e R s m args below meth c H locs cells slots l0 Q C hR hL hS hc hs hF)
theorem q_land {x a : Int64} (d : decode (i_b y) pc = .ok (.land, 1)) (kk : QW V y (pc + 1) ls (.long (x &&& a) :: st) h z bc bs Kr Kx) : QW V y pc ls (.long a :: .long x :: st) h z bc bs Kr Kx :=
  fun p e R s m args below meth c H locs cells slots l0 Q C hR hL hS hc hs hF => lv_land C.1 C.2.1 d  (kk p e R s m args below meth c H locs cells slots l0 Q C hR hL hS hc hs hF)
theorem q_lor {x a : Int64} (d : decode (i_b y) pc = .ok (.lor, 1)) (kk : QW V y (pc + 1) ls (.long (x ||| a) :: st) h z bc bs Kr Kx) : QW V y pc ls (.long a :: .long x :: st) h z bc bs Kr Kx :=
  fun p e R s m args below meth c H locs cells slots l0 Q C hR hL hS hc hs hF => lv_lor C.1 C.2.1 d  (kk p e R s m args below meth c H locs cells slots l0 Q C hR hL hS hc hs hF)
theorem q_i2l {x : Int32} (d : decode (i_b y) pc = .ok (.i2l, 1)) (kk : QW V y (pc + 1) ls (.long x.toInt64 :: st) h z bc bs Kr Kx) : QW V y pc ls (.int x :: st) h z bc bs Kr Kx :=
  fun p e R s m args below meth c H locs cells slots l0 Q C hR hL hS hc hs hF => lv_i2l C.1 C.2.1 d rfl (kk p e R s m args below meth c H locs cells slots l0 Q C hR hL hS hc hs hF)
theorem q_l2i {x : Int64} (d : decode (i_b y) pc = .ok (.l2i, 1)) (kk : QW V y (pc + 1) ls (.int x.toInt32 :: st) h z bc bs Kr Kx) : QW V y pc ls (.long x :: st) h z bc bs Kr Kx :=
  fun p e R s m args below meth c H locs cells slots l0 Q C hR hL hS hc hs hF => lv_l2i C.1 C.2.1 d rfl (kk p e R s m args below meth c H locs cells slots l0 Q C hR hL hS hc hs hF)
theorem q_i2b {x : Int32} (d : decode (i_b y) pc = .ok (.i2b, 1)) (kk : QW V y (pc + 1) ls (.int x.toInt8.toInt32 :: st) h z bc bs Kr Kx) : QW V y pc ls (.int x :: st) h z bc bs Kr Kx :=
  fun p e R s m args below meth c H locs cells slots l0 Q C hR hL hS hc hs hF => lv_i2b C.1 C.2.1 d rfl (kk p e R s m args below meth c H locs cells slots l0 Q C hR hL hS hc hs hF)
theorem q_i2d {x : Int32} (d : decode (i_b y) pc = .ok (.i2d, 1)) (kk : QW V y (pc + 1) ls (.double (FP.i2d x) :: st) h z bc bs Kr Kx) : QW V y pc ls (.int x :: st) h z bc bs Kr Kx :=
  fun p e R s m args below meth c H locs cells slots l0 Q C hR hL hS hc hs hF => lv_i2d C.1 C.2.1 d  (kk p e R s m args below meth c H locs cells slots l0 Q C hR hL hS hc hs hF)
theorem q_ddiv {x a : UInt64} (d : decode (i_b y) pc = .ok (.ddiv, 1)) (hne : vf_n64 (FP.ddiv x a)) (kk : QW V y (pc + 1) ls (.double (FP.ddiv x a) :: st) h z bc bs Kr Kx) : QW V y pc ls (.double a :: .double x :: st) h z bc bs Kr Kx :=
  fun p e R s m args below meth c H locs cells slots l0 Q C hR hL hS hc hs hF => lv_ddiv C.1 C.2.1 d hne (kk p e R s m args below meth c H locs cells slots l0 Q C hR hL hS hc hs hF)
theorem q_lcmp {x a : Int64} (d : decode (i_b y) pc = .ok (.lcmp, 1)) (kk : QW V y (pc + 1) ls (.int (lg_cmp x a) :: st) h z bc bs Kr Kx) : QW V y pc ls (.long a :: .long x :: st) h z bc bs Kr Kx :=
  fun p e R s m args below meth c H locs cells slots l0 Q C hR hL hS hc hs hF => W.lcmp C.1 C.2.1 d  (kk p e R s m args below meth c H locs cells slots l0 Q C hR hL hS hc hs hF)
theorem q_dcmp {x a : UInt64} {op : CmpOp} (d : decode (i_b y) pc = .ok (.dcmp op, 1)) (kk : QW V y (pc + 1) ls (.int (Op.cmpValue (FP.dcmp x a) op) :: st) h z bc bs Kr Kx) : QW V y pc ls (.double a :: .double x :: st) h z bc bs Kr Kx :=
  fun p e R s m args below meth c H locs cells slots l0 Q C hR hL hS hc hs hF => lv_dcmp C.1 C.2.1 d  (kk p e R s m args below meth c H locs cells slots l0 Q C hR hL hS hc hs hF)
theorem q_dup {v : Value} (d : decode (i_b y) pc = .ok (.dup, 1)) (hv : v.category = 1) (kk : QW V y (pc + 1) ls (v :: v :: st) h z bc bs Kr Kx) : QW V y pc ls (v :: st) h z bc bs Kr Kx :=
  fun p e R s m args below meth c H locs cells slots l0 Q C hR hL hS hc hs hF => lv_dup C.1 C.2.1 d hv (kk p e R s m args below meth c H locs cells slots l0 Q C hR hL hS hc hs hF)
theorem q_dup2 {v w : Value} (d : decode (i_b y) pc = .ok (.dup2, 1)) (hv : v.category = 1) (hw : w.category = 1) (kk : QW V y (pc + 1) ls (v :: w :: v :: w :: st) h z bc bs Kr Kx) : QW V y pc ls (v :: w :: st) h z bc bs Kr Kx :=
  fun p e R s m args below meth c H locs cells slots l0 Q C hR hL hS hc hs hF => lv_dup2_11 C.1 C.2.1 d hv hw (kk p e R s m args below meth c H locs cells slots l0 Q C hR hL hS hc hs hF)
theorem q_iload_n {k : Fin 4} {i : Nat} {x : Int32} (d : decode (i_b y) pc = .ok (.iload_n k, 1)) (hi : (k : Nat) = i) (hl : ls[i]? = some (some (.int x))) (kk : QW V y (pc + 1) ls (.int x :: st) h z bc bs Kr Kx) : QW V y pc ls st h z bc bs Kr Kx :=
  fun p e R s m args below meth c H locs cells slots l0 Q C hR hL hS hc hs hF => lv_iload_n C.1 C.2.1 d hi (hL.at hl) (kk p e R s m args below meth c H locs cells slots l0 Q C hR hL hS hc hs hF)
theorem q_iload {i : Nat} {x : Int32} (d : decode (i_b y) pc = .ok (.iload i, 2)) (hl : ls[i]? = some (some (.int x))) (kk : QW V y (pc + 2) ls (.int x :: st) h z bc bs Kr Kx) : QW V y pc ls st h z bc bs Kr Kx :=
  fun p e R s m args below meth c H locs cells slots l0 Q C hR hL hS hc hs hF => lv_iload C.1 C.2.1 d (hL.at hl) (kk p e R s m args below meth c H locs cells slots l0 Q C hR hL hS hc hs hF)
theorem q_lload_n {k : Fin 4} {i : Nat} {x : Int64} (d : decode (i_b y) pc = .ok (.lload_n k, 1)) (hi : (k : Nat) = i) (hl : ls[i]? = some (some (.long x))) (kk : QW V y (pc + 1) ls (.long x :: st) h z bc bs Kr Kx) : QW V y pc ls st h z bc bs Kr Kx :=
  fun p e R s m args below meth c H locs cells slots l0 Q C hR hL hS hc hs hF => lv_lload_n C.1 C.2.1 d hi (hL.at hl) (kk p e R s m args below meth c H locs cells slots l0 Q C hR hL hS hc hs hF)
theorem q_lload {i : Nat} {x : Int64} (d : decode (i_b y) pc = .ok (.lload i, 2)) (hl : ls[i]? = some (some (.long x))) (kk : QW V y (pc + 2) ls (.long x :: st) h z bc bs Kr Kx) : QW V y pc ls st h z bc bs Kr Kx :=
  fun p e R s m args below meth c H locs cells slots l0 Q C hR hL hS hc hs hF => lv_lload C.1 C.2.1 d (hL.at hl) (kk p e R s m args below meth c H locs cells slots l0 Q C hR hL hS hc hs hF)
theorem q_dload_n {k : Fin 4} {i : Nat} {x : UInt64} (d : decode (i_b y) pc = .ok (.dload_n k, 1)) (hi : (k : Nat) = i) (hl : ls[i]? = some (some (.double x))) (kk : QW V y (pc + 1) ls (.double x :: st) h z bc bs Kr Kx) : QW V y pc ls st h z bc bs Kr Kx :=
  fun p e R s m args below meth c H locs cells slots l0 Q C hR hL hS hc hs hF => lv_dload_n C.1 C.2.1 d hi (hL.at hl) (kk p e R s m args below meth c H locs cells slots l0 Q C hR hL hS hc hs hF)
theorem q_dload {i : Nat} {x : UInt64} (d : decode (i_b y) pc = .ok (.dload i, 2)) (hl : ls[i]? = some (some (.double x))) (kk : QW V y (pc + 2) ls (.double x :: st) h z bc bs Kr Kx) : QW V y pc ls st h z bc bs Kr Kx :=
  fun p e R s m args below meth c H locs cells slots l0 Q C hR hL hS hc hs hF => lv_dload C.1 C.2.1 d (hL.at hl) (kk p e R s m args below meth c H locs cells slots l0 Q C hR hL hS hc hs hF)
theorem q_aload_n {k : Fin 4} {i : Nat} {x : Nat} (d : decode (i_b y) pc = .ok (.aload_n k, 1)) (hi : (k : Nat) = i) (hl : ls[i]? = some (some (.ref x))) (kk : QW V y (pc + 1) ls (.ref x :: st) h z bc bs Kr Kx) : QW V y pc ls st h z bc bs Kr Kx :=
  fun p e R s m args below meth c H locs cells slots l0 Q C hR hL hS hc hs hF => lv_aload_n C.1 C.2.1 d hi (hL.at hl) (kk p e R s m args below meth c H locs cells slots l0 Q C hR hL hS hc hs hF)
theorem q_aload {i : Nat} {x : Nat} (d : decode (i_b y) pc = .ok (.aload i, 2)) (hl : ls[i]? = some (some (.ref x))) (kk : QW V y (pc + 2) ls (.ref x :: st) h z bc bs Kr Kx) : QW V y pc ls st h z bc bs Kr Kx :=
  fun p e R s m args below meth c H locs cells slots l0 Q C hR hL hS hc hs hF => lv_aload C.1 C.2.1 d (hL.at hl) (kk p e R s m args below meth c H locs cells slots l0 Q C hR hL hS hc hs hF)
theorem q_istore_n {k : Fin 4} {i : Nat} {x : Int32} (d : decode (i_b y) pc = .ok (.istore_n k, 1)) (hi : (k : Nat) = i) (hn : i < i_n y) (hp : q_pv ls i) (kk : QW V y (pc + 1) (ls.set i (some (.int x))) (st) h z bc bs Kr Kx) : QW V y pc ls (.int x :: st) h z bc bs Kr Kx :=
  fun p e R s m args below meth c H locs cells slots l0 Q C hR hL hS hc hs hF => lv_istore_n C.1 C.2.1 d hi hL.1 hn rfl (fun l1 h1 => (kk p e R s m args below meth c H locs cells slots l1 Q C hR (q_L.set1 hL.2 hp h1) hS hc hs hF))
theorem q_istore {i : Nat} {x : Int32} (d : decode (i_b y) pc = .ok (.istore i, 2)) (hn : i < i_n y) (hp : q_pv ls i) (kk : QW V y (pc + 2) (ls.set i (some (.int x))) (st) h z bc bs Kr Kx) : QW V y pc ls (.int x :: st) h z bc bs Kr Kx :=
  fun p e R s m args below meth c H locs cells slots l0 Q C hR hL hS hc hs hF => lv_istore C.1 C.2.1 d hL.1 hn rfl (fun l1 h1 => (kk p e R s m args below meth c H locs cells slots l1 Q C hR (q_L.set1 hL.2 hp h1) hS hc hs hF))
theorem q_lstore_n {k : Fin 4} {i : Nat} {x : Int64} (d : decode (i_b y) pc = .ok (.lstore_n k, 1)) (hi : (k : Nat) = i) (hn : i + 1 < i_n y) (hp : q_pv ls i) (kk : QW V y (pc + 1) ((ls.set i (some (.long x))).set (i + 1) none) (st) h z bc bs Kr Kx) : QW V y pc ls (.long x :: st) h z bc bs Kr Kx :=
  fun p e R s m args below meth c H locs cells slots l0 Q C hR hL hS hc hs hF => lv_lstore_n C.1 C.2.1 d hi hL.1 hn rfl (fun l1 h1 => (kk p e R s m args below meth c H locs cells slots l1 Q C hR (q_L.set2 hL.2 hp h1) hS hc hs hF))
theorem q_lstore {i : Nat} {x : Int64} (d : decode (i_b y) pc = .ok (.lstore i, 2)) (hn : i + 1 < i_n y) (hp : q_pv ls i) (kk : QW V y (pc + 2) ((ls.set i (some (.long x))).set (i + 1) none) (st) h z bc bs Kr Kx) : QW V y pc ls (.long x :: st) h z bc bs Kr Kx :=
  fun p e R s m args below meth c H locs cells slots l0 Q C hR hL hS hc hs hF => lv_lstore C.1 C.2.1 d hL.1 hn rfl (fun l1 h1 => (kk p e R s m args below meth c H locs cells slots l1 Q C hR (q_L.set2 hL.2 hp h1) hS hc hs hF))
theorem q_dstore_n {k : Fin 4} {i : Nat} {x : UInt64} (d : decode (i_b y) pc = .ok (.dstore_n k, 1)) (hi : (k : Nat) = i) (hn : i + 1 < i_n y) (hp : q_pv ls i) (kk : QW V y (pc + 1) ((ls.set i (some (.double x))).set (i + 1) none) (st) h z bc bs Kr Kx) : QW V y pc ls (.double x :: st) h z bc bs Kr Kx :=
  fun p e R s m args below meth c H locs cells slots l0 Q C hR hL hS hc hs hF => lv_dstore_n C.1 C.2.1 d hi hL.1 hn rfl (fun l1 h1 => (kk p e R s m args below meth c H locs cells slots l1 Q C hR (q_L.set2 hL.2 hp h1) hS hc hs hF))
theorem q_dstore {i : Nat} {x : UInt64} (d : decode (i_b y) pc = .ok (.dstore i, 2)) (hn : i + 1 < i_n y) (hp : q_pv ls i) (kk : QW V y (pc + 2) ((ls.set i (some (.double x))).set (i + 1) none) (st) h z bc bs Kr Kx) : QW V y pc ls (.double x :: st) h z bc bs Kr Kx :=
  fun p e R s m args below meth c H locs cells slots l0 Q C hR hL hS hc hs hF => lv_dstore C.1 C.2.1 d hL.1 hn rfl (fun l1 h1 => (kk p e R s m args below meth c H locs cells slots l1 Q C hR (q_L.set2 hL.2 hp h1) hS hc hs hF))
theorem q_astore_n {k : Fin 4} {i : Nat} {x : Nat} (d : decode (i_b y) pc = .ok (.astore_n k, 1)) (hi : (k : Nat) = i) (hn : i < i_n y) (hp : q_pv ls i) (kk : QW V y (pc + 1) (ls.set i (some (.ref x))) (st) h z bc bs Kr Kx) : QW V y pc ls (.ref x :: st) h z bc bs Kr Kx :=
  fun p e R s m args below meth c H locs cells slots l0 Q C hR hL hS hc hs hF => lv_astore_n C.1 C.2.1 d hi hL.1 hn rfl (fun l1 h1 => (kk p e R s m args below meth c H locs cells slots l1 Q C hR (q_L.set1 hL.2 hp h1) hS hc hs hF))
theorem q_astore {i : Nat} {x : Nat} (d : decode (i_b y) pc = .ok (.astore i, 2)) (hn : i < i_n y) (hp : q_pv ls i) (kk : QW V y (pc + 2) (ls.set i (some (.ref x))) (st) h z bc bs Kr Kx) : QW V y pc ls (.ref x :: st) h z bc bs Kr Kx :=
  fun p e R s m args below meth c H locs cells slots l0 Q C hR hL hS hc hs hF => lv_astore C.1 C.2.1 d hL.1 hn rfl (fun l1 h1 => (kk p e R s m args below meth c H locs cells slots l1 Q C hR (q_L.set1 hL.2 hp h1) hS hc hs hF))
theorem q_iinc {i : Nat} {n : Int} {x v : Int32} (d : decode (i_b y) pc = .ok (.iinc i n, 3)) (hl : ls[i]? = some (some (.int x))) (hv : x + Int32.ofInt n = v) (hn : i < i_n y) (hp : q_pv ls i) (kk : QW V y (pc + 3) (ls.set i (some (.int v))) (st) h z bc bs Kr Kx) : QW V y pc ls st h z bc bs Kr Kx := by
  intro p e R s m args below meth c H locs cells slots l0 Q C hR hL hS hc hs hF
  obtain ⟨k, hk⟩ := List.getElem?_of_mem (q_lv_mem.mpr hl)
  exact lv_iinc C.1 C.2.1 d hL.1 hk hv hn rfl (fun l1 h1 => (kk p e R s m args below meth c H locs cells slots l1 Q C hR (q_L.set1 hL.2 hp h1) hS hc hs hF))
theorem q_if_eq {x : Int32} {off : Int} {tgt : Nat} (d : decode (i_b y) pc = .ok (.ifCond .eq off, 3)) (ht : (pc : Int) + off = (tgt : Int)) (kt : x = 0 → QW V y tgt ls st h z bc bs Kr Kx) (kf : ¬ x = 0 → QW V y (pc + 3) ls st h z bc bs Kr Kx) : QW V y pc ls (.int x :: st) h z bc bs Kr Kx :=
  fun p e R s m args below meth c H locs cells slots l0 Q C hR hL hS hc hs hF => lv_if_eq C.1 C.2.1 d ht (fun q => kt q p e R s m args below meth c H locs cells slots l0 Q C hR hL hS hc hs hF) (fun q => kf q p e R s m args below meth c H locs cells slots l0 Q C hR hL hS hc hs hF)
theorem q_icmp_eq {x a : Int32} {off : Int} {tgt : Nat} (d : decode (i_b y) pc = .ok (.if_icmp .eq off, 3)) (ht : (pc : Int) + off = (tgt : Int)) (kt : x = a → QW V y tgt ls st h z bc bs Kr Kx) (kf : ¬ x = a → QW V y (pc + 3) ls st h z bc bs Kr Kx) : QW V y pc ls (.int a :: .int x :: st) h z bc bs Kr Kx :=
  fun p e R s m args below meth c H locs cells slots l0 Q C hR hL hS hc hs hF => lv_icmp_eq C.1 C.2.1 d ht (fun q => kt q p e R s m args below meth c H locs cells slots l0 Q C hR hL hS hc hs hF) (fun q => kf q p e R s m args below meth c H locs cells slots l0 Q C hR hL hS hc hs hF)
theorem q_if_ne {x : Int32} {off : Int} {tgt : Nat} (d : decode (i_b y) pc = .ok (.ifCond .ne off, 3)) (ht : (pc : Int) + off = (tgt : Int)) (kt : ¬ x = 0 → QW V y tgt ls st h z bc bs Kr Kx) (kf : x = 0 → QW V y (pc + 3) ls st h z bc bs Kr Kx) : QW V y pc ls (.int x :: st) h z bc bs Kr Kx :=
  fun p e R s m args below meth c H locs cells slots l0 Q C hR hL hS hc hs hF => lv_if_ne C.1 C.2.1 d ht (fun q => kt q p e R s m args below meth c H locs cells slots l0 Q C hR hL hS hc hs hF) (fun q => kf q p e R s m args below meth c H locs cells slots l0 Q C hR hL hS hc hs hF)
theorem q_icmp_ne {x a : Int32} {off : Int} {tgt : Nat} (d : decode (i_b y) pc = .ok (.if_icmp .ne off, 3)) (ht : (pc : Int) + off = (tgt : Int)) (kt : ¬ x = a → QW V y tgt ls st h z bc bs Kr Kx) (kf : x = a → QW V y (pc + 3) ls st h z bc bs Kr Kx) : QW V y pc ls (.int a :: .int x :: st) h z bc bs Kr Kx :=
  fun p e R s m args below meth c H locs cells slots l0 Q C hR hL hS hc hs hF => lv_icmp_ne C.1 C.2.1 d ht (fun q => kt q p e R s m args below meth c H locs cells slots l0 Q C hR hL hS hc hs hF) (fun q => kf q p e R s m args below meth c H locs cells slots l0 Q C hR hL hS hc hs hF)
theorem q_if_lt {x : Int32} {off : Int} {tgt : Nat} (d : decode (i_b y) pc = .ok (.ifCond .lt off, 3)) (ht : (pc : Int) + off = (tgt : Int)) (kt : x < 0 → QW V y tgt ls st h z bc bs Kr Kx) (kf : ¬ x < 0 → QW V y (pc + 3) ls st h z bc bs Kr Kx) : QW V y pc ls (.int x :: st) h z bc bs Kr Kx :=
  fun p e R s m args below meth c H locs cells slots l0 Q C hR hL hS hc hs hF => lv_if_lt C.1 C.2.1 d ht (fun q => kt q p e R s m args below meth c H locs cells slots l0 Q C hR hL hS hc hs hF) (fun q => kf q p e R s m args below meth c H locs cells slots l0 Q C hR hL hS hc hs hF)
theorem q_icmp_lt {x a : Int32} {off : Int} {tgt : Nat} (d : decode (i_b y) pc = .ok (.if_icmp .lt off, 3)) (ht : (pc : Int) + off = (tgt : Int)) (kt : x < a → QW V y tgt ls st h z bc bs Kr Kx) (kf : ¬ x < a → QW V y (pc + 3) ls st h z bc bs Kr Kx) : QW V y pc ls (.int a :: .int x :: st) h z bc bs Kr Kx :=
  fun p e R s m args below meth c H locs cells slots l0 Q C hR hL hS hc hs hF => lv_icmp_lt C.1 C.2.1 d ht (fun q => kt q p e R s m args below meth c H locs cells slots l0 Q C hR hL hS hc hs hF) (fun q => kf q p e R s m args below meth c H locs cells slots l0 Q C hR hL hS hc hs hF)
theorem q_if_ge {x : Int32} {off : Int} {tgt : Nat} (d : decode (i_b y) pc = .ok (.ifCond .ge off, 3)) (ht : (pc : Int) + off = (tgt : Int)) (kt : 0 ≤ x → QW V y tgt ls st h z bc bs Kr Kx) (kf : ¬ 0 ≤ x → QW V y (pc + 3) ls st h z bc bs Kr Kx) : QW V y pc ls (.int x :: st) h z bc bs Kr Kx :=
  fun p e R s m args below meth c H locs cells slots l0 Q C hR hL hS hc hs hF => lv_if_ge C.1 C.2.1 d ht (fun q => kt q p e R s m args below meth c H locs cells slots l0 Q C hR hL hS hc hs hF) (fun q => kf q p e R s m args below meth c H locs cells slots l0 Q C hR hL hS hc hs hF)
theorem q_icmp_ge {x a : Int32} {off : Int} {tgt : Nat} (d : decode (i_b y) pc = .ok (.if_icmp .ge off, 3)) (ht : (pc : Int) + off = (tgt : Int)) (kt : a ≤ x → QW V y tgt ls st h z bc bs Kr Kx) (kf : ¬ a ≤ x → QW V y (pc + 3) ls st h z bc bs Kr Kx) : QW V y pc ls (.int a :: .int x :: st) h z bc bs Kr Kx :=
  fun p e R s m args below meth c H locs cells slots l0 Q C hR hL hS hc hs hF => lv_icmp_ge C.1 C.2.1 d ht (fun q => kt q p e R s m args below meth c H locs cells slots l0 Q C hR hL hS hc hs hF) (fun q => kf q p e R s m args below meth c H locs cells slots l0 Q C hR hL hS hc hs hF)
theorem q_if_gt {x : Int32} {off : Int} {tgt : Nat} (d : decode (i_b y) pc = .ok (.ifCond .gt off, 3)) (ht : (pc : Int) + off = (tgt : Int)) (kt : 0 < x → QW V y tgt ls st h z bc bs Kr Kx) (kf : ¬ 0 < x → QW V y (pc + 3) ls st h z bc bs Kr Kx) : QW V y pc ls (.int x :: st) h z bc bs Kr Kx :=
  fun p e R s m args below meth c H locs cells slots l0 Q C hR hL hS hc hs hF => lv_if_gt C.1 C.2.1 d ht (fun q => kt q p e R s m args below meth c H locs cells slots l0 Q C hR hL hS hc hs hF) (fun q => kf q p e R s m args below meth c H locs cells slots l0 Q C hR hL hS hc hs hF)
theorem q_icmp_gt {x a : Int32} {off : Int} {tgt : Nat} (d : decode (i_b y) pc = .ok (.if_icmp .gt off, 3)) (ht : (pc : Int) + off = (tgt : Int)) (kt : a < x → QW V y tgt ls st h z bc bs Kr Kx) (kf : ¬ a < x → QW V y (pc + 3) ls st h z bc bs Kr Kx) : QW V y pc ls (.int a :: .int x :: st) h z bc bs Kr Kx :=
  fun p e R s m args below meth c H locs cells slots l0 Q C hR hL hS hc hs hF => lv_icmp_gt C.1 C.2.1 d ht (fun q => kt q p e R s m args below meth c H locs cells slots l0 Q C hR hL hS hc hs hF) (fun q => kf q p e R s m args below meth c H locs cells slots l0 Q C hR hL hS hc hs hF)
theorem q_if_le {x : Int32} {off : Int} {tgt : Nat} (d : decode (i_b y) pc = .ok (.ifCond .le off, 3)) (ht : (pc : Int) + off = (tgt : Int)) (kt : x ≤ 0 → QW V y tgt ls st h z bc bs Kr Kx) (kf : ¬ x ≤ 0 → QW V y (pc + 3) ls st h z bc bs Kr Kx) : QW V y pc ls (.int x :: st) h z bc bs Kr Kx :=
  fun p e R s m args below meth c H locs cells slots l0 Q C hR hL hS hc hs hF => lv_if_le C.1 C.2.1 d ht (fun q => kt q p e R s m args below meth c H locs cells slots l0 Q C hR hL hS hc hs hF) (fun q => kf q p e R s m args below meth c H locs cells slots l0 Q C hR hL hS hc hs hF)
theorem q_icmp_le {x a : Int32} {off : Int} {tgt : Nat} (d : decode (i_b y) pc = .ok (.if_icmp .le off, 3)) (ht : (pc : Int) + off = (tgt : Int)) (kt : x ≤ a → QW V y tgt ls st h z bc bs Kr Kx) (kf : ¬ x ≤ a → QW V y (pc + 3) ls st h z bc bs Kr Kx) : QW V y pc ls (.int a :: .int x :: st) h z bc bs Kr Kx :=
  fun p e R s m args below meth c H locs cells slots l0 Q C hR hL hS hc hs hF => lv_icmp_le C.1 C.2.1 d ht (fun q => kt q p e R s m args below meth c H locs cells slots l0 Q C hR hL hS hc hs hF) (fun q => kf q p e R s m args below meth c H locs cells slots l0 Q C hR hL hS hc hs hF)
theorem q_goto {off : Int} {tgt : Nat} (d : decode (i_b y) pc = .ok (.goto off, 3)) (ht : (pc : Int) + off = (tgt : Int)) (kk : QW V y tgt ls st h z bc bs Kr Kx) : QW V y pc ls st h z bc bs Kr Kx :=
  fun p e R s m args below meth c H locs cells slots l0 Q C hR hL hS hc hs hF => lv_goto C.1 C.2.1 d ht (kk p e R s m args below meth c H locs cells slots l0 Q C hR hL hS hc hs hF)
theorem q_tabIn {dflt lo hi : Int} {offs : Array Int} {len : Nat} {x : Int32} {off : Int} {tgt : Nat} (d : decode (i_b y) pc = .ok (.tableswitch dflt lo hi offs, len)) (h1 : ¬ x.toInt < lo) (h2 : ¬ hi < x.toInt) (ho : offs[(x.toInt - lo).toNat]? = some off) (ht : (pc : Int) + off = (tgt : Int)) (kk : QW V y tgt ls st h z bc bs Kr Kx) : QW V y pc ls (.int x :: st) h z bc bs Kr Kx :=
  fun p e R s m args below meth c H locs cells slots l0 Q C hR hL hS hc hs hF => lv_tableIn C.1 C.2.1 d h1 h2 ho ht (kk p e R s m args below meth c H locs cells slots l0 Q C hR hL hS hc hs hF)
theorem q_tabOut {dflt lo hi : Int} {offs : Array Int} {len : Nat} {x : Int32} {tgt : Nat} (d : decode (i_b y) pc = .ok (.tableswitch dflt lo hi offs, len)) (h1 : x.toInt < lo ∨ hi < x.toInt) (ht : (pc : Int) + dflt = (tgt : Int)) (kk : QW V y tgt ls st h z bc bs Kr Kx) : QW V y pc ls (.int x :: st) h z bc bs Kr Kx :=
  fun p e R s m args below meth c H locs cells slots l0 Q C hR hL hS hc hs hF => lv_tableOut C.1 C.2.1 d h1 ht (kk p e R s m args below meth c H locs cells slots l0 Q C hR hL hS hc hs hF)
theorem q_ldc {index : Nat} {v : Int32} (d : decode (i_b y) pc = .ok (.ldc index, 2)) (hw : Cond.constant (i_o y) index v ∈ q_big) (kk : QW V y (pc + 2) ls (.int v :: st) h z bc bs Kr Kx) : QW V y pc ls st h z bc bs Kr Kx :=
  fun p e R s m args below meth c H locs cells slots l0 Q C hR hL hS hc hs hF => lv_ldc C.1 C.2.1 C.own (C.w _ hw) d (kk p e R s m args below meth c H locs cells slots l0 Q C hR hL hS hc hs hF)
theorem q_ldcw {index : Nat} {v : Int32} (d : decode (i_b y) pc = .ok (.ldc_w index, 3)) (hw : Cond.constant (i_o y) index v ∈ q_big) (kk : QW V y (pc + 3) ls (.int v :: st) h z bc bs Kr Kx) : QW V y pc ls st h z bc bs Kr Kx :=
  fun p e R s m args below meth c H locs cells slots l0 Q C hR hL hS hc hs hF => lv_ldcw C.1 C.2.1 C.own (C.w _ hw) d (kk p e R s m args below meth c H locs cells slots l0 Q C hR hL hS hc hs hF)
theorem q_ldc2 {index : Nat} {v : Int64} (d : decode (i_b y) pc = .ok (.ldc2_w index, 3)) (hw : Cond.constantLong (i_o y) index v ∈ q_big) (kk : QW V y (pc + 3) ls (.long v :: st) h z bc bs Kr Kx) : QW V y pc ls st h z bc bs Kr Kx :=
  fun p e R s m args below meth c H locs cells slots l0 Q C hR hL hS hc hs hF => lv_ldc2 C.1 C.2.1 C.own (C.w _ hw) d (kk p e R s m args below meth c H locs cells slots l0 Q C hR hL hS hc hs hF)
/-- a text -/
theorem q_ldcS {index k : Nat} {tx : String} (d : decode (i_b y) pc = .ok (.ldc index, 2)) (hw : (i_o y, index, tx, k) ∈ q_strs) (kk : QW V y (pc + 2) ls (.ref (e_S V k) :: st) h z bc bs Kr Kx) : QW V y pc ls st h z bc bs Kr Kx :=
  fun p e R s m args below meth c H locs cells slots l0 Q C hR hL hS hc hs hF => va_ldcS C.1 C.2.1 C.own (C.g.2.2.2.2.1 _ hw) d (kk p e R s m args below meth c H locs cells slots l0 Q C hR hL hS hc hs hF)
theorem q_less (ls' : List (Option Value)) (hl : ls'.length = ls.length) (hs2 : ∀ (i : Nat) (v : Value), ls'[i]? = some (some v) → ls[i]? = some (some v)) (kk : QW V y pc ls' st h z bc bs Kr Kx) : QW V y pc ls st h z bc bs Kr Kx :=
  fun p e R s m args below meth c H locs cells slots l0 Q C hR hL hS hc hs hF => (kk p e R s m args below meth c H locs cells slots l0 Q C hR (hL.less hl hs2) hS hc hs hF)
theorem q_Rep.one {H : Heap} (hR : q_Rep V h z H) {a : Nat} {e : q_E} (ha : h a = some e) : va_P (e_D V) vwCl [(a, q_re V e)] H := by
  intro k q hq
  match k, hq with
  | 0, hq => cases hq; exact (hR.1 a e ha).2
  | k + 1, hq => simp at hq
theorem q_Rep.up {H H1 : Heap} (hR : q_Rep V h z H) {a : Nat} {e e1 : q_E} (ha : h a = some e) (h1 : va_at (e_D V) vwCl (a, q_re V e1) H1) (hz : H1.size = H.size) (ho : ∀ q, q ≠ a → H1[q]? = H[q]?) : q_Rep V (q_up h a e1) z H1 := by
  refine ⟨fun b e2 hb => ?_, fun n hn => by rw [hz]; exact hR.2.1 n hn, by rw [hz]; exact hR.2.2⟩
  by_cases n : b = a
  · subst n
    rw [q_up_s] at hb; cases hb
    exact ⟨(hR.1 b e ha).1, h1⟩
  · rw [q_up_n n] at hb
    exact ⟨(hR.1 b e2 hb).1, (hR.1 b e2 hb).2.kept (ho b n)⟩
/-- a new cell -/
theorem q_Rep.new {H H1 : Heap} {n : Nat} (hR : q_Rep V h (some n) H) {e1 : q_E} (h1 : va_at (e_D V) vwCl (n, q_re V e1) H1) (hz : H1.size = n + 1) (ho : ∀ q, q < n → H1[q]? = H[q]?) : q_Rep V (q_up h n e1) (some (n + 1)) H1 := by
  have hn := hR.2.1 n rfl
  refine ⟨fun b e2 hb => ?_, fun k hk => by cases hk; exact hz, by rw [hz]; have := hR.2.2; omega⟩
  by_cases q : b = n
  · subst q
    rw [q_up_s] at hb; cases hb
    exact ⟨by have := hR.2.2; omega, h1⟩
  · rw [q_up_n q] at hb
    have h2 := hR.1 b e2 hb
    exact ⟨h2.1, h2.2.kept (ho b (by have := h2.2.lt; simp only at this; omega))⟩
theorem q_S_new {H0 H H1 : Heap} {locs : List Loc} {n : Nat} {A : Nat → Prop} (hS : va_S A H0 H locs) (hn : H.size = n) (hz : H1.size = n + 1) (ho : ∀ q, q < n → H1[q]? = H[q]?) : va_S A H0 H1 locs :=
  ⟨by have := hS.1; omega, fun q h1 h2 => (ho q (by have := hS.1; omega)).trans (hS.2.1 q h1 h2), hS.2.2⟩
theorem q_getf {ref CC : String} {T : u_T} {N ci index k a : Nat} {fs : List Value} {v : Value} (d : decode (i_b y) pc = .ok (.getfield index, 3)) (hin : ∀ w ∈ u_ws CC T N, w ∈ q_big) (hcl : vwCl[ci]? = some (CC, T, N)) (hk : k < N)
    (hlink : Cond.fieldLink (i_o y) index ref (T k).2.1 (T k).2.2.1 ∈ q_big) (href : ref = (T k).1) (ha : h a = some (.inr (ci, fs))) (hv : fs[k]? = some v) (kk : QW V y (pc + 3) ls (v :: st) h z bc bs Kr Kx) : QW V y pc ls (.ref a :: st) h z bc bs Kr Kx :=
  fun p e R s m args below meth c H locs cells slots l0 Q C hR hL hS hc hs hF => va_get (own := i_o y) C.x C.b C.w (fun w hw => hin w hw) C.own C.K (hR.one ha) 0 rfl hcl k hk (C.w _ hlink) (fun x hx => by rw [href]; exact hx) hv d (kk p e R s m args below meth c H locs cells slots l0 Q C hR hL hS hc hs hF)
theorem q_putf {ref CC : String} {T : u_T} {N ci index k a : Nat} {fs : List Value} {v : Value} (ty0 : Nat → FieldType) (d : decode (i_b y) pc = .ok (.putfield index, 3)) (hin : ∀ w ∈ u_ws CC T N, w ∈ q_big) (hty : ∀ k, k < N → parseFieldDescriptor (T k).2.2.1 = some (ty0 k)) (hnm : ∀ a, a < N → ∀ b, b < N → a ≠ b → (T a).2.1 ≠ (T b).2.1)
    (hcl : vwCl[ci]? = some (CC, T, N)) (hk : k < N) (hlink : Cond.fieldLink (i_o y) index ref (T k).2.1 (T k).2.2.1 ∈ q_big) (href : ref = (T k).1) (hfin : (T k).2.2.2 = false) (hn : narrow (ty0 k) v = v) (hfit : fits (ty0 k) v = true) (hl : k < fs.length) (ha : h a = some (.inr (ci, fs)))
    (kk : QW V y (pc + 3) ls st (q_up h a (.inr (ci, fs.set k v))) z bc bs Kr Kx) : QW V y pc ls (v :: .ref a :: st) h z bc bs Kr Kx := by
  intro p e R s m args below meth c H locs cells slots l0 Q C hR hL hS hc hs hF
  have hK := C.K
  have hap := va_apart (own := i_o y) C.w hin ty0 hty hnm hK hcl
  obtain ⟨hBa, r, h1, cell, q1, q2, q3, q4⟩ := hR.1 a _ ha
  have hr : r = (CC, T, N) := Option.some.inj (h1.symm.trans hcl)
  subst hr
  obtain ⟨hSl, hfc, kC, hkC, hkind⟩ := hK.1 ci _ hcl
  obtain ⟨cf, kf, fi, f, hi, hsl⟩ := hSl k hk
  have hlay := C.w _ (hin _ (u_in_lay hk))
  unfold u_lay at hlay
  rw [if_neg (by rw [hfin]; decide)] at hlay
  have hst := (u_facts hfc hkC (u_lays C.w hin hk) hi).1
  have h6 := u_store hfc hkC hkind hlay hi (hty k hk) hn hfit
  refine W.putK C.x C.b (f := f) ⟨C.own, C.w _ hlink, ⟨_, _, _, (by rw [href]; exact hi)⟩, hst⟩ (by rw [q2]; exact h6) q1 q3 (by rw [hsl]; exact k2_hasslot (q4 k hk)) rfl rfl d fun H' e1 e2 e3 => ?_
  rw [hsl] at e1 ⊢
  exact kk p e R s m args below meth c H' _ cells slots l0 Q C (hR.up ha ⟨_, hcl, t_OB.to (V := updV (vp_V fs) k v) ⟨_, e1, q2, q3, t_set q4 hap hk v⟩ (fun j _ => vp_updV_set hl v j)⟩ e2 e3) hL (hS.put e2 e3 hBa) hc hs hF
/-- a final field, in a constructor -/
theorem q_putF {ref CC : String} {T : u_T} {N ci index k a : Nat} {fs : List Value} {v : Value} (ty0 : Nat → FieldType) (d : decode (i_b y) pc = .ok (.putfield index, 3)) (hin : ∀ w ∈ u_ws CC T N, w ∈ q_big) (hty : ∀ k, k < N → parseFieldDescriptor (T k).2.2.1 = some (ty0 k)) (hnm : ∀ a, a < N → ∀ b, b < N → a ≠ b → (T a).2.1 ≠ (T b).2.1)
    (hcl : vwCl[ci]? = some (CC, T, N)) (hk : k < N) (hlink : Cond.fieldLink (i_o y) index ref (T k).2.1 (T k).2.2.1 ∈ q_big) (href : ref = (T k).1) (hfin : (T k).2.2.2 = true) (hini : (i_y y).name = "<init>") (hdecl : (T k).1 = i_o y) (hn : narrow (ty0 k) v = v) (hfit : fits (ty0 k) v = true) (hl : k < fs.length) (ha : h a = some (.inr (ci, fs)))
    (kk : QW V y (pc + 3) ls st (q_up h a (.inr (ci, fs.set k v))) z bc bs Kr Kx) : QW V y pc ls (v :: .ref a :: st) h z bc bs Kr Kx := by
  intro p e R s m args below meth c H locs cells slots l0 Q C hR hL hS hc hs hF
  have hK := C.K
  have hap := va_apart (own := i_o y) C.w hin ty0 hty hnm hK hcl
  obtain ⟨hBa, r, h1, cell, q1, q2, q3, q4⟩ := hR.1 a _ ha
  have hr : r = (CC, T, N) := Option.some.inj (h1.symm.trans hcl)
  subst hr
  obtain ⟨hSl, hfc, kC, hkC, hkind⟩ := hK.1 ci _ hcl
  obtain ⟨cf, kf, fi, f, hi, hsl⟩ := hSl k hk
  have hlay := C.w _ (hin _ (u_in_lay hk))
  unfold u_lay at hlay
  rw [if_pos hfin] at hlay
  have hst := (u_facts hfc hkC (u_lays C.w hin hk) hi).1
  have hcf : m.cls = cf := by
    obtain ⟨_, _, c', _, _, _, -, -, hf', -, -, -, hown2, -⟩ := Cond.laysFinal_spec hlay
    have e1 : c' = cf := by have := hi.symm.trans hf'; simp at this; exact this.1.symm
    rw [hdecl] at hown2
    rw [← e1]; exact Option.some.inj (C.own.symm.trans hown2)
  have h6 := u_fits hfc hkC hkind (Or.inr hlay) hi (hty k hk) hn hfit
  refine W.putFinK C.x C.b C.own (C.w _ hlink) (by rw [href]; exact hi) hst hcf (C.nm.trans hini) (by rw [q2]; exact h6) q1 q3 (by rw [hsl]; exact k2_hasslot (q4 k hk)) rfl rfl d fun H' e1 e2 e3 => ?_
  rw [hsl] at e1 ⊢
  exact kk p e R s m args below meth c H' _ cells slots l0 Q C (hR.up ha ⟨_, hcl, t_OB.to (V := updV (vp_V fs) k v) ⟨_, e1, q2, q3, t_set q4 hap hk v⟩ (fun j _ => vp_updV_set hl v j)⟩ e2 e3) hL (hS.put e2 e3 hBa) hc hs hF
theorem q_ix {n j : Nat} (hj : j < n) (hn : n < 2147483648) : vp_in (nI j) n ∧ (nI j).toNatClampNeg = j := ⟨vp_in_nI hj (by omega), nI_clamp (by omega)⟩
theorem q_iald {a n j : Nat} {f : Nat → Int32} {i : Int32} (d : decode (i_b y) pc = .ok (.iaload, 1)) (ha : h a = some (.inl (1, n, .inl f))) (hi : i = nI j) (hj : j < n) (hn : n < 2147483648) (kk : QW V y (pc + 1) ls (.int (f j) :: st) h z bc bs Kr Kx) : QW V y pc ls (.int i :: .ref a :: st) h z bc bs Kr Kx := by
  subst hi
  obtain ⟨q1, q2⟩ := q_ix hj hn
  exact fun p e R s m args below meth c H locs cells slots l0 Q C hR hL hS hc hs hF => va_iald C.x C.b C.K (hR.one ha) 0 1 rfl rfl q1 d (by rw [q2]; exact kk p e R s m args below meth c H locs cells slots l0 Q C hR hL hS hc hs hF)
theorem q_bald {a n j : Nat} {f : Nat → Int32} {i : Int32} (d : decode (i_b y) pc = .ok (.baload, 1)) (ha : h a = some (.inl (0, n, .inl f))) (hi : i = nI j) (hj : j < n) (hn : n < 2147483648) (kk : QW V y (pc + 1) ls (.int (f j) :: st) h z bc bs Kr Kx) : QW V y pc ls (.int i :: .ref a :: st) h z bc bs Kr Kx := by
  subst hi
  obtain ⟨q1, q2⟩ := q_ix hj hn
  exact fun p e R s m args below meth c H locs cells slots l0 Q C hR hL hS hc hs hF => va_bald C.x C.b C.K (hR.one ha) 0 0 rfl rfl q1 d (by rw [q2]; exact kk p e R s m args below meth c H locs cells slots l0 Q C hR hL hS hc hs hF)
theorem q_lald {a n j : Nat} {f : Nat → Int64} {i : Int32} (d : decode (i_b y) pc = .ok (.laload, 1)) (ha : h a = some (.inl (2, n, .inr (.inl f)))) (hi : i = nI j) (hj : j < n) (hn : n < 2147483648) (kk : QW V y (pc + 1) ls (.long (f j) :: st) h z bc bs Kr Kx) : QW V y pc ls (.int i :: .ref a :: st) h z bc bs Kr Kx := by
  subst hi
  obtain ⟨q1, q2⟩ := q_ix hj hn
  exact fun p e R s m args below meth c H locs cells slots l0 Q C hR hL hS hc hs hF => va_lald C.x C.b C.K (hR.one ha) 0 2 rfl rfl q1 d (by rw [q2]; exact kk p e R s m args below meth c H locs cells slots l0 Q C hR hL hS hc hs hF)
theorem q_dald {a n j : Nat} {f : Nat → UInt64} {i : Int32} (d : decode (i_b y) pc = .ok (.daload, 1)) (ha : h a = some (.inl (3, n, .inr (.inr (.inr (.inl f)))))) (hi : i = nI j) (hj : j < n) (hn : n < 2147483648) (kk : QW V y (pc + 1) ls (.double (f j) :: st) h z bc bs Kr Kx) : QW V y pc ls (.int i :: .ref a :: st) h z bc bs Kr Kx := by
  subst hi
  obtain ⟨q1, q2⟩ := q_ix hj hn
  exact fun p e R s m args below meth c H locs cells slots l0 Q C hR hL hS hc hs hF => va_dald C.x C.b C.K (hR.one ha) 0 3 rfl rfl q1 d (by rw [q2]; exact kk p e R s m args below meth c H locs cells slots l0 Q C hR hL hS hc hs hF)
theorem q_aald {t a n j b : Nat} {CC : String} {f : Nat → Option Nat} {i : Int32} (d : decode (i_b y) pc = .ok (.aaload, 1)) (ht : (q_tys V)[t]? = some (e_A V t, .object CC)) (ha : h a = some (.inl (t, n, .inr (.inr (.inr (.inr f)))))) (hi : i = nI j) (hj : j < n) (hn : n < 2147483648) (hf : f j = some b) (kk : QW V y (pc + 1) ls (.ref b :: st) h z bc bs Kr Kx) : QW V y pc ls (.int i :: .ref a :: st) h z bc bs Kr Kx := by
  subst hi
  obtain ⟨q1, q2⟩ := q_ix hj hn
  exact fun p e R s m args below meth c H locs cells slots l0 Q C hR hL hS hc hs hF => va_aldq C.x C.b C.K (hR.one ha) 0 t rfl ht q1 d (by rw [q2, hf]; exact kk p e R s m args below meth c H locs cells slots l0 Q C hR hL hS hc hs hF)
/-- the script -/
theorem q_sld {j : Nat} {i : Int32} (d : decode (i_b y) pc = .ok (.iaload, 1)) (hi : i = nI j) (hj : j < e_sL V) (hn : e_sL V < 2147483648) (kk : QW V y (pc + 1) ls (.int (e_xs V j) :: st) h z bc bs Kr Kx) : QW V y pc ls (.int i :: .ref (e_sb V) :: st) h z bc bs Kr Kx := by
  subst hi
  obtain ⟨q1, q2⟩ := q_ix hj hn
  intro p e R s m args below meth c H locs cells slots l0 Q C hR hL hS hc hs hF
  obtain ⟨-, -, -, -, -, g6, g7, -, -, g10, -⟩ := C.g
  exact va_sld C.x C.b g6 (Nat.lt_of_lt_of_le g7 g10) (by unfold e_F; omega) hS q1 d (by rw [q2]; exact kk p e R s m args below meth c H locs cells slots l0 Q C hR hL hS hc hs hF)
theorem q_slen (d : decode (i_b y) pc = .ok (.arraylength, 1)) (kk : QW V y (pc + 1) ls (.int (nI (e_sL V)) :: st) h z bc bs Kr Kx) : QW V y pc ls (.ref (e_sb V) :: st) h z bc bs Kr Kx := by
  intro p e R s m args below meth c H locs cells slots l0 Q C hR hL hS hc hs hF
  obtain ⟨-, -, -, -, -, g6, g7, -, -, g10, -⟩ := C.g
  exact va_slen C.x C.b g6 (Nat.lt_of_lt_of_le g7 g10) (by unfold e_F; omega) hS d (kk p e R s m args below meth c H locs cells slots l0 Q C hR hL hS hc hs hF)
theorem q_alenB {a n : Nat} {f : Nat → Int32} (d : decode (i_b y) pc = .ok (.arraylength, 1)) (ha : h a = some (.inl (0, n, .inl f))) (kk : QW V y (pc + 1) ls (.int (nI n) :: st) h z bc bs Kr Kx) : QW V y pc ls (.ref a :: st) h z bc bs Kr Kx := by
  intro p e R s m args below meth c H locs cells slots l0 Q C hR hL hS hc hs hF
  have hcell : H[a]? = some (vp_cell (e_A V 0) (n, .inl f)) := (hR.1 a _ ha).2
  exact W.alen (n := Int32.ofNat n) C.x C.b hcell ((C.K.2 0 _ rfl).1 n (fun j => .int (f j))) (by rw [vp_cell_i, arrV_size] <;> rfl) rfl rfl d (kk p e R s m args below meth c H locs cells slots l0 Q C hR hL hS hc hs hF)
theorem q_iast {a n j : Nat} {f : Nat → Int32} {i x : Int32} (d : decode (i_b y) pc = .ok (.iastore, 1)) (ha : h a = some (.inl (1, n, .inl f))) (hi : i = nI j) (hj : j < n) (hn : n < 2147483648) (kk : QW V y (pc + 1) ls st (q_up h a (.inl (1, n, .inl (upd f j x)))) z bc bs Kr Kx) : QW V y pc ls (.int x :: .int i :: .ref a :: st) h z bc bs Kr Kx := by
  subst hi
  obtain ⟨q1, q2⟩ := q_ix hj hn
  intro p e R s m args below meth c H locs cells slots l0 Q C hR hL hS hc hs hF
  obtain ⟨hBa, hat⟩ := hR.1 a _ ha
  have hcell : H[a]? = some (vp_cell (e_A V 1) (n, .inl f)) := hat
  refine W.iast C.x C.b hcell ((C.K.2 1 _ rfl).1 n (fun j => .int (f j))) (fun q => by cases q) (by show ¬ (_ < 0 ∨ (arrV _ _ _).slots.size ≤ _); rw [arrV_size]; exact q1) rfl rfl d fun H1 e1 z1 oq => ?_
  refine kk p e R s m args below meth c H1 _ cells slots l0 Q C (hR.up ha ?_ z1 oq) hL (hS.put z1 oq hBa) hc hs hF
  show H1[a]? = some (vp_cell _ _)
  rw [e1, vp_cell_i, vp_cell_i, arrV_store, q2]
  congr 2
  funext q
  by_cases hq : q = j
  · subst hq; simp [updV, upd]
  · simp [updV, upd, hq]
theorem q_bast {a n j : Nat} {f : Nat → Int32} {i x : Int32} (d : decode (i_b y) pc = .ok (.bastore, 1)) (ha : h a = some (.inl (0, n, .inl f))) (hi : i = nI j) (hj : j < n) (hn : n < 2147483648) (kk : QW V y (pc + 1) ls st (q_up h a (.inl (0, n, .inl (upd f j (vp_nar .byte x))))) z bc bs Kr Kx) : QW V y pc ls (.int x :: .int i :: .ref a :: st) h z bc bs Kr Kx := by
  subst hi
  obtain ⟨q1, q2⟩ := q_ix hj hn
  intro p e R s m args below meth c H locs cells slots l0 Q C hR hL hS hc hs hF
  obtain ⟨hBa, hat⟩ := hR.1 a _ ha
  have hcell : H[a]? = some (vp_cell (e_A V 0) (n, .inl f)) := hat
  refine W.bast C.x C.b hcell ((C.K.2 0 _ rfl).1 n (fun j => .int (f j))) (fun q => by cases q) (by show ¬ (_ < 0 ∨ (arrV _ _ _).slots.size ≤ _); rw [arrV_size]; exact q1) rfl rfl d fun H1 e1 z1 oq => ?_
  refine kk p e R s m args below meth c H1 _ cells slots l0 Q C (hR.up ha ?_ z1 oq) hL (hS.put z1 oq hBa) hc hs hF
  show H1[a]? = some (vp_cell _ _)
  rw [e1, vp_cell_i, vp_cell_i, arrV_store, q2]
  congr 2
  funext q
  by_cases hq : q = j
  · subst hq; simp [updV, upd, vp_nar, narrow]
  · simp [updV, upd, hq]
theorem q_last {a n j : Nat} {f : Nat → Int64} {i : Int32} {x : Int64} (d : decode (i_b y) pc = .ok (.lastore, 1)) (ha : h a = some (.inl (2, n, .inr (.inl f)))) (hi : i = nI j) (hj : j < n) (hn : n < 2147483648) (kk : QW V y (pc + 1) ls st (q_up h a (.inl (2, n, .inr (.inl (vp_updL f j x))))) z bc bs Kr Kx) : QW V y pc ls (.long x :: .int i :: .ref a :: st) h z bc bs Kr Kx := by
  subst hi
  obtain ⟨q1, q2⟩ := q_ix hj hn
  intro p e R s m args below meth c H locs cells slots l0 Q C hR hL hS hc hs hF
  obtain ⟨hBa, hat⟩ := hR.1 a _ ha
  have hcell : H[a]? = some (vp_cell (e_A V 2) (n, .inr (.inl f))) := hat
  refine W.last C.x C.b hcell ((C.K.2 2 _ rfl).1 n (fun j => .long (f j))) (fun q => by cases q) (by show ¬ (_ < 0 ∨ (arrV _ _ _).slots.size ≤ _); rw [arrV_size]; exact q1) rfl rfl d fun H1 e1 z1 oq => ?_
  refine kk p e R s m args below meth c H1 _ cells slots l0 Q C (hR.up ha ?_ z1 oq) hL (hS.put z1 oq hBa) hc hs hF
  show H1[a]? = some (vp_cell _ _)
  rw [e1, vp_cell_l, vp_cell_l, arrV_store, q2]
  congr 2
  funext q
  by_cases hq : q = j
  · subst hq; simp [updV, vp_updL]
  · simp [updV, vp_updL, hq]
theorem q_dast {a n j : Nat} {f : Nat → UInt64} {i : Int32} {x : UInt64} (d : decode (i_b y) pc = .ok (.dastore, 1)) (ha : h a = some (.inl (3, n, .inr (.inr (.inr (.inl f)))))) (hi : i = nI j) (hj : j < n) (hn : n < 2147483648) (kk : QW V y (pc + 1) ls st (q_up h a (.inl (3, n, .inr (.inr (.inr (.inl (va_up f j x))))))) z bc bs Kr Kx) : QW V y pc ls (.double x :: .int i :: .ref a :: st) h z bc bs Kr Kx := by
  subst hi
  obtain ⟨q1, q2⟩ := q_ix hj hn
  intro p e R s m args below meth c H locs cells slots l0 Q C hR hL hS hc hs hF
  obtain ⟨hBa, hat⟩ := hR.1 a _ ha
  have hcell : H[a]? = some (vp_cell (e_A V 3) (n, .inr (.inr (.inr (.inl f))))) := hat
  refine W.dast C.x C.b hcell ((C.K.2 3 _ rfl).1 n (fun j => .double (f j))) (fun q => by cases q) (by show ¬ (_ < 0 ∨ (arrV _ _ _).slots.size ≤ _); rw [arrV_size]; exact q1) rfl rfl d fun H1 e1 z1 oq => ?_
  refine kk p e R s m args below meth c H1 _ cells slots l0 Q C (hR.up ha ?_ z1 oq) hL (hS.put z1 oq hBa) hc hs hF
  show H1[a]? = some (vp_cell _ _)
  rw [e1, vp_cell_d, vp_cell_d, arrV_store, q2]
  congr 2
  funext q
  by_cases hq : q = j
  · subst hq; simp [updV, va_up]
  · simp [updV, va_up, hq]
theorem q_aast {t ci a b n j : Nat} {r : vw_C} {fs : List Value} {f : Nat → Option Nat} {i : Int32} (d : decode (i_b y) pc = .ok (.aastore, 1)) (ht : (q_tys V)[t]? = some (e_A V t, .object r.1)) (hcl : vwCl[ci]? = some r) (ha : h a = some (.inl (t, n, .inr (.inr (.inr (.inr f)))))) (hb : h b = some (.inr (ci, fs))) (hi : i = nI j) (hj : j < n) (hn : n < 2147483648)
    (kk : QW V y (pc + 1) ls st (q_up h a (.inl (t, n, .inr (.inr (.inr (.inr (va_up f j (some b)))))))) z bc bs Kr Kx) : QW V y pc ls (.ref b :: .int i :: .ref a :: st) h z bc bs Kr Kx := by
  subst hi
  obtain ⟨q1, q2⟩ := q_ix hj hn
  intro p e R s m args below meth c H locs cells slots l0 Q C hR hL hS hc hs hF
  obtain ⟨hBa, hat⟩ := hR.1 a _ ha
  have hcell : H[a]? = some (vp_cell (e_A V t) (n, .inr (.inr (.inr (.inr f))))) := hat
  obtain ⟨-, r', hr', cellV, g1, g2, g3, -⟩ := hR.1 b _ hb
  have hcls := (C.K.1 ci r hcl).2
  obtain ⟨kA, comp, k1, k2, k3, -⟩ := (C.K.2 t _ ht).2
  have hcomp : comp = (e_D V).1 ci := Option.some.inj (k3.symm.trans hcls.1)
  subst hcomp
  obtain ⟨kC, hkC, -⟩ := hcls.2
  refine W.aast C.x C.b hcell (fun q h => by cases h) (fun h => by cases h) k1 k2 rfl hkC ⟨fun q => q1 (Or.inl q), by show _ < (arrV _ _ _).slots.size; rw [arrV_size, q2]; exact hj⟩ g1 (fun q h => by rw [g3] at h; cases h) (by rw [g2]; exact hkC) (by rw [g2]; exact va_assign hcls) rfl rfl d fun H1 e1 z1 oq => ?_
  refine kk p e R s m args below meth c H1 _ cells slots l0 Q C (hR.up ha ?_ z1 oq) hL (hS.put z1 oq hBa) hc hs hF
  show H1[a]? = some (vp_cell _ _)
  rw [e1, vp_cell_q, vp_cell_q, arrV_store, q2]
  congr 2
  funext q
  by_cases hq : q = j
  · subst hq; simp [updV, va_up, va_rf]
  · simp [updV, va_up, hq]
theorem q_new {CC : String} {T : u_T} {N ci index n : Nat} {fs : List Value} (ty : Nat → FieldType) (d : decode (i_b y) pc = .ok (.new index, 3)) (k1 : Cond.classLink (i_o y) index CC ∈ q_big) (k2 : Cond.instantiable CC N ∈ q_big) (k3 : Cond.initialized CC ∈ q_big) (hin : ∀ w ∈ u_ws CC T N, w ∈ q_big) (hty : ∀ k, k < N → parseFieldDescriptor (T k).2.2.1 = some (ty k)) (hcl : vwCl[ci]? = some (CC, T, N)) (hfs : ∀ j, j < N → defaultValue (ty j) = vp_V fs j)
    (kk : QW V y (pc + 3) ls (.ref n :: st) (q_up h n (.inr (ci, fs))) (some (n + 1)) bc bs Kr Kx) : QW V y pc ls st h (some n) (bc + 1) (bs + N) Kr Kx := by
  intro p e R s m args below meth c H locs cells slots l0 Q C hR hL hS hc hs hF
  have hKn := C.K.1 ci _ hcl
  have hn := hR.2.1 n rfl
  refine W.newcK C.x C.b C.own (C.w _ k1) (C.w _ k2) (C.w _ k3) rfl d (by omega) (by omega) hKn.2.1 hn fun H1 kC hkC e1 z1 o1 => ?_
  exact kk p e R s m args below meth c H1 locs (cells + 1) (slots + N) l0 Q C (hR.new ⟨_, hcl, (u_born ty C.w hin hKn hkC e1 hty).to hfs⟩ z1 o1) hL (q_S_new hS hn z1 o1) (by omega) (by omega) hF
theorem q_newarr {t n N : Nat} {i : Int32} {ty : ArrayType} {a0 : vp_A} (d : decode (i_b y) pc = .ok (.newarray ty, 2)) (k1 : Cond.arrayClass (newarray.typeOf ty) ∈ q_big) (ht : (q_tys V)[t]? = some (e_A V t, newarray.typeOf ty)) (hra : ∀ (U : State) (cA : ClassId), va_RA U cA (newarray.typeOf ty) → U.vm.findClass ("[" ++ (newarray.typeOf ty).toString) = some cA) (hi : i = nI N) (hN : N < 4096) (hcb : componentBytes (newarray.typeOf ty) ≤ 8) (ha : ∀ cA : ClassId, vp_cell cA a0 = arrV cA N (fun _ => defaultValue (newarray.typeOf ty)))
    (kk : QW V y (pc + 2) ls (.ref n :: st) (q_up h n (.inl (t, a0))) (some (n + 1)) bc bs Kr Kx) : QW V y pc ls (.int i :: st) h (some n) (bc + 1) (bs + N) Kr Kx := by
  subst hi
  intro p e R s m args below meth c H locs cells slots l0 Q C hR hL hS hc hs hF
  have hn := hR.2.1 n rfl
  refine va_newaK C.x C.b (C.w _ k1) rfl d rfl (nI_pos (by omega)) (nI_clamp (by omega)) (Nat.le_trans (Nat.mul_le_mul (Nat.le_of_lt hN) hcb) (by decide)) (by omega) (by omega) hn fun H1 cA e1 z1 o1 hAr hNm => ?_
  have hcA : cA = e_A V t := Option.some.inj (hNm.symm.trans (hra s _ (C.K.2 t _ ht).2))
  subst hcA
  refine kk p e R s m args below meth c H1 locs (cells + 1) (slots + N) l0 Q C (hR.new ?_ z1 o1) hL (q_S_new hS hn z1 o1) (by omega) (by omega) hF
  show H1[n]? = some (vp_cell _ _)
  rw [ha]; exact e1
theorem q_anew {t n N index : Nat} {CC : String} {i : Int32} (d : decode (i_b y) pc = .ok (.anewarray index, 3)) (k1 : Cond.classLink (i_o y) index CC ∈ q_big) (k2 : CC ∈ [RX0, RX3, RX6]) (ht : (q_tys V)[t]? = some (e_A V t, .object CC)) (hi : i = nI N) (hN : N < 4096)
    (kk : QW V y (pc + 3) ls (.ref n :: st) (q_up h n (.inl (t, N, .inr (.inr (.inr (.inr fun _ => none)))))) (some (n + 1)) bc bs Kr Kx) : QW V y pc ls (.int i :: st) h (some n) (bc + 1) (bs + N) Kr Kx := by
  subst hi
  intro p e R s m args below meth c H locs cells slots l0 Q C hR hL hS hc hs hF
  have hn := hR.2.1 n rfl
  have hcl : (nI N).toNatClampNeg = N := nI_clamp (by omega)
  refine W.anew C.x C.b C.own (C.w _ k1) (C.g.2.2.2.2.2.2.2.2.2.2.2.2.2.2.1 CC k2).use rfl d rfl (nI_pos (by omega)) (by rw [hcl]; omega) (by omega) (by rw [hcl]; omega) fun cA kA comp h1 h2 h3 h4 => ?_
  obtain ⟨kA', comp', k1', k2', k3', k4'⟩ := (C.K.2 t _ ht).2
  have hcA : cA = e_A V t := Option.some.inj (h1.symm.trans k4')
  subst hcA
  have hsz : (H.push ({ cls := e_A V t, slots := Array.replicate (nI N).toNatClampNeg .null, vm := .none } : Cell)).size = n + 1 := by simp [hn]
  have ho : ∀ q, q < n → (H.push ({ cls := e_A V t, slots := Array.replicate (nI N).toNatClampNeg .null, vm := .none } : Cell))[q]? = H[q]? := fun q hq => by
    rw [Array.getElem?_push, if_neg (by omega)]
  have h5 := kk p e R s m args below meth c _ locs (cells + 1) (slots + (nI N).toNatClampNeg) l0 Q C (hR.new (by
    show _ = some (vp_cell _ _)
    rw [vp_cell_q, Array.getElem?_push, if_pos (by omega), hcl]
    exact congrArg some (arrV_new _ _ _)) hsz ho) hL (q_S_new hS hn hsz ho) (by omega) (by omega) hF
  rw [hn]; exact h5
theorem q_objI {index a : Nat} (d : decode (i_b y) pc = .ok (.invokespecial index, 3)) (k1 : Cond.methodLink (i_o y) index Lib.objectInit ∈ q_big) (k2 : Cond.instanceMethod Lib.objectInit ∈ q_big) (k3 : Cond.code Lib.objectInit ⟨#[0xb1]⟩ 1 none ∈ q_big) (hf : 1 ≤ i_f y) (hl : (st.map fun v => v.category).sum + 12 ≤ i_l y)
    (kk : QW V y (pc + 3) ls st h z bc bs Kr Kx) : QW V y pc ls (.ref a :: st) h z bc bs Kr Kx := by
  intro p e R s m args below meth c H locs cells slots l0 Q C hR hL hS hc hs hF
  exact W.objInit C.x C.b C.own (C.w _ k1) (C.w _ k2) (C.w _ k3) (g := F0 m pc l0 (.ref a :: st)) rfl (hL.1.1.trans C.n.symm) rfl d (Nat.le_trans hf C.f) (by show 2 * 0 + _ + 12 ≤ _; have := C.l; omega) (kk p e R s m args below meth c H locs cells slots l0 Q C hR hL hS hc hs hF)
end QR
