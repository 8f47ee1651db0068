/-! THE JUDGEMENT QW: a method's frame at pc, over a heap h told as a partial map of cells (only those that the law's run itself made, from e_B on). Said of the machine itself (W); its rules are in 05. -/
abbrev q_E : Type := (Nat × vp_A) ⊕ (Nat × List Value)
abbrev q_H : Type := Nat → Option q_E
def q_up (h : q_H) (a : Nat) (e : q_E) : q_H := fun q => if q = a then some e else h q
theorem q_up_s {h : q_H} {a : Nat} {e : q_E} : q_up h a e a = some e := if_pos rfl
theorem q_up_n {h : q_H} {a b : Nat} {e : q_E} (n : b ≠ a) : q_up h a e b = h b := if_neg n
theorem q_up_u {h : q_H} {a : Nat} {e e' : q_E} : q_up (q_up h a e) a e' = q_up h a e' := by
  funext q; unfold q_up; by_cases n : q = a <;> simp [n]
theorem q_up_i {h : q_H} {a : Nat} {e : q_E} (hh : h a = some e) : q_up h a e = h := by
  funext q; unfold q_up; by_cases n : q = a
  · rw [if_pos n, n, hh]
  · rw [if_neg n]
theorem q_up_c {h : q_H} {a b : Nat} {e e' : q_E} (n : a ≠ b) : q_up (q_up h a e) b e' = q_up (q_up h b e') a e := by
  funext q; unfold q_up; by_cases n1 : q = a
  · subst n1; rw [if_neg n, if_pos rfl, if_pos rfl]
  · rw [if_neg n1, if_neg n1]
/-- what a proof is about: launch; first cell of the run's own; classes' numbers and slots; array classes; the texts' cells; the script -/
abbrev q_En : Type := Launch × Nat × va_G × (Nat → ClassId) × (Nat → Nat) × (Nat → Nat) × (Nat → Nat) × Nat × Nat × (Nat → Int32)
def e_l (V : q_En) : Launch := V.1
def e_B (V : q_En) : Nat := V.2.1
def e_D (V : q_En) : va_G := V.2.2.1
def e_A (V : q_En) : Nat → ClassId := V.2.2.2.1
def e_K (V : q_En) : Nat → Nat := V.2.2.2.2.1
def e_U (V : q_En) : Nat → Nat := V.2.2.2.2.2.1
def e_M (V : q_En) : Nat → Nat := V.2.2.2.2.2.2.1
def e_sb (V : q_En) : Nat := V.2.2.2.2.2.2.2.1
def e_sL (V : q_En) : Nat := V.2.2.2.2.2.2.2.2.1
def e_xs (V : q_En) : Nat → Int32 := V.2.2.2.2.2.2.2.2.2
/-- a text's cell: the five words of a league text, then what is thrown -/
def e_S (V : q_En) (k : Nat) : Nat := if k < 5 then e_K V k else e_M V k
def q_strs : List (String × Nat × String × Nat) := [(RX4, 108, "league", 0), (RX4, 122, "bracket", 1), (RX4, 71, "teams", 2), (RX4, 88, "players", 3), (RX4, 135, "contract", 4), (RX9, 130, "league", 0), (RX9, 148, "bracket", 1), (RX9, 166, "teams", 2), (RX9, 168, "players", 3), (RX9, 170, "contract", 4), (RX8, 67, "the text buffer is full", 5), (RX8, 383, "an argument is out of its range", 6), (RX8, 374, "no league was loaded", 7), (RX8, 378, "both teams are the same", 8), (RX8, 381, "a place is negative", 9), (RX8, 251, "there are not so many teams", 10), (RX8, 296, "there are not so many players with a contract", 11), (RX8, 303, "the team has no players", 12)]
def e_F (V : q_En) : Nat → Prop := fun q => e_B V ≤ q
def q_re (V : q_En) : q_E → va_E
  | .inl x => .inl (e_A V x.1, x.2)
  | .inr o => .inr o
abbrev q_tyL : List FieldType := [.byte, .int, .long, .double, .object RX3, .object RX6, .object RX0]
def q_tys (V : q_En) : List (ClassId × FieldType) := [(e_A V 0, .byte), (e_A V 1, .int), (e_A V 2, .long), (e_A V 3, .double), (e_A V 4, .object RX3), (e_A V 5, .object RX6), (e_A V 6, .object RX0)]
def q_Rep (V : q_En) (h : q_H) (z : Option Nat) (H : Heap) : Prop :=
  (∀ (a : Nat) (e : q_E), h a = some e → e_B V ≤ a ∧ va_at (e_D V) vwCl (a, q_re V e) H) ∧ (∀ n, z = some n → H.size = n) ∧ e_B V ≤ H.size
/-- the five words of a league text -/
def q_len : List Nat := [6, 7, 5, 7, 8]
def q_byt : List (List Int32) := [[108, 101, 97, 103, 117, 101], [98, 114, 97, 99, 107, 101, 116], [116, 101, 97, 109, 115], [112, 108, 97, 121, 101, 114, 115], [99, 111, 110, 116, 114, 97, 99, 116]]
abbrev u_N : String := "UNASSIGNED_STACK"
abbrev s_N : String := "SUPPRESSED_SENTINEL"
def q_nest : List (String × Nat × MethodName × String) := [(RX8, 22, yX4_init, RX8), (RX4, 45, yX1_init, RX8), (RX0, 25, yX1_init, RX8), (RX0, 34, yX3_init, RX8), (RX3, 26, yX1_init, RX8), (RX0, 35, yX6_init, RX8), (RX8, 36, yX5_init, RX8), (RX8, 47, yX7_init, RX8)]
/-- words of the tables that hold on, though they aren't good ones -/
def q_decl : List MethodName := [⟨"java/lang/RuntimeException", "<init>", "()V"⟩, ⟨"java/lang/RuntimeException", "<init>", "(Ljava/lang/String;)V"⟩, ⟨"java/lang/Exception", "<init>", "()V"⟩, ⟨"java/lang/Exception", "<init>", "(Ljava/lang/String;)V"⟩, ⟨"java/lang/Throwable", "<init>", "()V"⟩, ⟨"java/lang/Throwable", "<init>", "(Ljava/lang/String;)V"⟩]
def q_cast : List (String × String) := [("java/lang/IllegalStateException", "java/lang/IllegalStateException"), ("java/lang/IllegalArgumentException", "java/lang/IllegalArgumentException"), ("java/util/NoSuchElementException", "java/util/NoSuchElementException"), ("java/lang/ArithmeticException", "java/lang/ArithmeticException")]
def q_ncast : List (String × String) := [("java/lang/IllegalArgumentException", "java/lang/IllegalStateException"), ("java/util/NoSuchElementException", "java/lang/IllegalStateException"), ("java/util/NoSuchElementException", "java/lang/IllegalArgumentException"), ("java/lang/ArithmeticException", "java/lang/IllegalStateException"), ("java/lang/ArithmeticException", "java/lang/IllegalArgumentException")]
def q_G2 (V : q_En) (s : State) : Prop := (∀ q ∈ q_nest, va_Nw (.methodLinkNest q.1 q.2.1 q.2.2.1 q.2.2.2) s) ∧ (∀ q ∈ q_decl, va_Nw (.declares q) s) ∧ (∀ q ∈ q_cast, va_Nw (.castable q.1 q.2) s) ∧ (∀ q ∈ q_ncast, va_Nc q.1 q.2 s) ∧ (∀ C ∈ [RX0, RX3, RX6], va_AO C s) ∧ (e_l V).stackTraces = false
theorem q_G2.next {V : q_En} {s U : State} (g : q_G2 V s) (hW : s.WarmedH U.vm) : q_G2 V U :=
  ⟨fun q hq => (g.1 q hq).warmM hW, fun q hq => (g.2.1 q hq).warmD hW, fun q hq => (g.2.2.1 q hq).warmC hW, fun q hq => (g.2.2.2.1 q hq).moved hW.alike, fun C hC => (g.2.2.2.2.1 C hC).moved hW.alike, g.2.2.2.2.2⟩
def q_G (V : q_En) (s : State) : Prop :=
  va_K (e_D V) vwCl (q_tys V) s ∧ vx_Zq Bundle.tN u_N Bundle.steD (e_F V) s s.heap ∧ vx_Zq Bundle.tN s_N Bundle.listD (e_F V) s s.heap ∧
  vk_S 5 q_len q_byt (e_K V) (e_U V) (e_F V) s s.heap ∧ (∀ q ∈ q_strs, vk_R q.1 q.2.1 q.2.2.1 (e_S V q.2.2.2) s) ∧ va_X (e_sb V) (e_sL V) (e_xs V) s s.heap ∧ e_sb V < e_B V ∧
  va_Z "java/lang/String" "COMPACT_STRINGS" "Z" (.int 1) (e_F V) s s.heap ∧ va_Zq "jdk/internal/util/Preconditions" "SIOOBE_FORMATTER" "Ljava/util/function/BiFunction;" (e_F V) s s.heap ∧ e_B V ≤ s.heap.size ∧ q_G2 V s
theorem q_G.next {V : q_En} {s U : State} (g : q_G V s) (hW : s.WarmedH U.vm) (hz : s.heap.size ≤ U.heap.size) (hk : ∀ q : Nat, q < s.heap.size → ¬ e_F V q → U.heap[q]? = s.heap[q]?) : q_G V U := by
  obtain ⟨g1, g2, g3, g4, g5, g6, g7, g8, g9, g10, g11⟩ := g
  have hA := hW.alike
  refine ⟨g1.moved hA, (g2.kept hk).moved hA, (g3.kept hk).moved hA, (g4.kept hk).moved hA, fun q hq => (g5 q hq).warm hW, ?_, g7, (g8.kept hk).moved hA, (g9.kept hk).moved hA, Nat.le_trans g10 hz, g11.next hW⟩
  obtain ⟨scr, h1, h2, h3⟩ := g6.moved hA
  refine ⟨scr, ?_, h2, h3⟩
  rw [hk _ (Nat.lt_of_lt_of_le g7 g10) (by unfold e_F; omega)]
  exact h1
/-- a method: its name, code, locals, answer, owner's name, table, and its room: frames, locals' words, cells, slots -/
abbrev q_I : Type := MethodName × ByteArray × Nat × Option FieldType × String × List (Nat × Nat × Nat × Nat) × Nat × Nat × Nat × Nat
def i_y (y : q_I) : MethodName := y.1
def i_b (y : q_I) : ByteArray := y.2.1
def i_n (y : q_I) : Nat := y.2.2.1
def i_r (y : q_I) : Option FieldType := y.2.2.2.1
def i_o (y : q_I) : String := y.2.2.2.2.1
def i_h (y : q_I) : List (Nat × Nat × Nat × Nat) := y.2.2.2.2.2.1
def i_f (y : q_I) : Nat := y.2.2.2.2.2.2.1
def i_l (y : q_I) : Nat := y.2.2.2.2.2.2.2.1
def i_c (y : q_I) : Nat := y.2.2.2.2.2.2.2.2.1
def i_s (y : q_I) : Nat := y.2.2.2.2.2.2.2.2.2
def q_head (y : q_I) : Cond := if i_h y = [] then .code (i_y y) (i_b y) (i_n y) (i_r y) else .codeWith (i_y y) (i_b y) (i_n y) (i_r y) (i_h y)
def q_ws (y : q_I) : List Cond := q_head y :: q_big
def q_rm (y : q_I) : Room := { frames := i_f y, cells := i_c y, slots := i_s y, locals := i_l y }
/-- the locals, told as a list: none for a second half, or for what isn't known -/
def q_lv (ls : List (Option Value)) : List (Nat × Value) := (List.range ls.length).filterMap (fun i => match ls[i]? with | some (some v) => some (i, v) | _ => none)
theorem q_lv_mem {ls : List (Option Value)} {i : Nat} {v : Value} : (i, v) ∈ q_lv ls ↔ ls[i]? = some (some v) := by
  unfold q_lv
  rw [List.mem_filterMap]
  constructor
  · rintro ⟨j, hj, e⟩
    split at e
    · rename_i w hw
      cases e
      exact hw
    · cases e
  · intro hv
    refine ⟨i, List.mem_range.mpr (List.getElem?_eq_some_iff.mp hv).1, ?_⟩
    simp [hv]
def q_L (l0 : Array Slot) (n : Nat) (ls : List (Option Value)) : Prop := lv_has l0 n (q_lv ls) ∧ ls.length = n
theorem q_L.at {l0 : Array Slot} {n : Nat} {ls : List (Option Value)} (h : q_L l0 n ls) {i : Nat} {v : Value} (hv : ls[i]? = some (some v)) : l0[i]? = some (.val v) := h.1.2.2 (i, v) (q_lv_mem.mpr hv)
def q_n2 : Option Value → Bool
  | some (.long _) => false
  | some (.double _) => false
  | _ => true
theorem q_n2_cat {o : Option Value} (h : q_n2 o = true) {w : Value} (e : o = some w) : ¬ w.category = 2 := by
  subst e; cases w <;> simp_all [q_n2, Value.category]
/-- the place before i holds no long and no double -/
def q_pv (ls : List (Option Value)) : Nat → Prop
  | 0 => True
  | i + 1 => q_n2 (ls.getD i none) = true
theorem q_pv_cat {ls : List (Option Value)} {i j : Nat} (h : q_pv ls i) (e : j + 1 = i) {w : Value} (hw : ls[j]? = some (some w)) : ¬ w.category = 2 := by
  subst e
  exact q_n2_cat h (by rw [List.getD_eq_getElem?_getD, hw]; rfl)
theorem q_L.set1 {l1 : Array Slot} {n i : Nat} {v : Value} {ls : List (Option Value)} (hn : ls.length = n) (hp : q_pv ls i) (h : lv_has l1 n ((i, v) :: (q_lv ls).filter (fun q => !(q.1 == i) && !(q.1 + 1 == i && q.2.category == 2)))) : q_L l1 n (ls.set i (some v)) := by
  refine ⟨⟨h.1, h.2.1, fun q hq => ?_⟩, by rw [List.length_set, hn]⟩
  obtain ⟨j, w⟩ := q
  have hj := q_lv_mem.mp hq
  by_cases e : j = i
  · subst e
    have hlt : j < ls.length := by
      have := (List.getElem?_eq_some_iff.mp hj).1
      rwa [List.length_set] at this
    rw [List.getElem?_set_self hlt] at hj
    cases hj
    exact h.2.2 _ List.mem_cons_self
  · rw [List.getElem?_set_ne (Ne.symm e)] at hj
    refine h.2.2 _ (List.mem_cons_of_mem _ (List.mem_filter.mpr ⟨q_lv_mem.mpr hj, ?_⟩))
    have h2 : ¬ (j + 1 = i ∧ w.category = 2) := fun z => q_pv_cat hp z.1 hj z.2
    simp only [Bool.and_eq_true, Bool.not_eq_true', beq_eq_false_iff_ne, ne_eq, Bool.and_eq_false_iff]
    refine ⟨e, ?_⟩
    by_cases e2 : j + 1 = i
    · exact Or.inr fun z => h2 ⟨e2, z⟩
    · exact Or.inl e2
theorem q_L.set2 {l1 : Array Slot} {n i : Nat} {v : Value} {ls : List (Option Value)} (hn : ls.length = n) (hp : q_pv ls i) (h : lv_has l1 n ((i, v) :: (q_lv ls).filter (fun q => !(q.1 == i) && (!(q.1 == i + 1) && !(q.1 + 1 == i && q.2.category == 2))))) : q_L l1 n ((ls.set i (some v)).set (i + 1) none) := by
  refine ⟨⟨h.1, h.2.1, fun q hq => ?_⟩, by rw [List.length_set, List.length_set, hn]⟩
  obtain ⟨j, w⟩ := q
  have hj := q_lv_mem.mp hq
  by_cases e1 : j = i + 1
  · subst e1
    rw [List.getElem?_set] at hj
    simp only [if_true] at hj
    split at hj <;> cases hj
  · rw [List.getElem?_set_ne (Ne.symm e1)] at hj
    by_cases e : j = i
    · subst e
      have hlt : j < ls.length := by
        have := (List.getElem?_eq_some_iff.mp hj).1
        rwa [List.length_set] at this
      rw [List.getElem?_set_self hlt] at hj
      cases hj
      exact h.2.2 _ List.mem_cons_self
    · rw [List.getElem?_set_ne (Ne.symm e)] at hj
      refine h.2.2 _ (List.mem_cons_of_mem _ (List.mem_filter.mpr ⟨q_lv_mem.mpr hj, ?_⟩))
      have h2 : ¬ (j + 1 = i ∧ w.category = 2) := fun z => q_pv_cat hp z.1 hj z.2
      simp only [Bool.and_eq_true, Bool.not_eq_true', beq_eq_false_iff_ne, ne_eq, Bool.and_eq_false_iff]
      refine ⟨e, e1, ?_⟩
      by_cases e2 : j + 1 = i
      · exact Or.inr fun z => h2 ⟨e2, z⟩
      · exact Or.inl e2
/-- fewer known -/
theorem q_L.less {l0 : Array Slot} {n : Nat} {ls ls' : List (Option Value)} (h : q_L l0 n ls) (hl : ls'.length = ls.length) (hs : ∀ (i : Nat) (v : Value), ls'[i]? = some (some v) → ls[i]? = some (some v)) : q_L l0 n ls' :=
  ⟨⟨h.1.1, h.1.2.1, fun q hq => h.1.2.2 q (q_lv_mem.mpr (hs q.1 q.2 (q_lv_mem.mp hq)))⟩, hl.trans h.2⟩
/-- how a method answers -/
def q_isRet (y : q_I) (pc : Nat) (v : Option Value) : Prop :=
  (∃ (x : Int32) (ty : FieldType), v = some (.int x) ∧ decode (i_b y) pc = .ok (.ireturn, 1) ∧ i_r y = some ty ∧ narrow ty (.int x) = .int x) ∨
  (∃ x : Int64, v = some (.long x) ∧ decode (i_b y) pc = .ok (.lreturn, 1) ∧ i_r y = some .long) ∨
  (∃ x : UInt64, v = some (.double x) ∧ decode (i_b y) pc = .ok (.dreturn, 1) ∧ i_r y = some .double) ∨
  (v = none ∧ decode (i_b y) pc = .ok (.return_, 1) ∧ i_r y = none)
abbrev q_KR : Type := Option Value → q_H → Option Nat → Prop
abbrev q_KX : Type := String → q_H → Prop
def q_Qc (V : q_En) (Kr : q_KR) : Array Value → State → Outcome → State → Prop := fun _ st o t => ∃ (v : Option Value) (h : q_H) (z : Option Nat), o = .returned v ∧ Kr v h z ∧ q_Rep V h z t.heap ∧ va_F (e_F V) st t
def q_XC (V : q_En) (Kx : q_KX) : String → State → State → Prop := fun E st t => ∃ h : q_H, Kx E h ∧ q_Rep V h none t.heap ∧ va_F (e_F V) st t
def q_Cx (V : q_En) (y : q_I) (p : Program) (R : Room) (s : State) (m : MethodId) (args : Array Value) (meth : Method) (c : Code) : Prop :=
  p.tables.exec = Jvm.exec ∧ c.code = i_b y ∧ c.maxLocals = i_n y ∧ meth.sig.returnType = i_r y ∧ s.vm.findClass (i_o y) = some m.cls ∧ (∀ w ∈ q_big, w.before args s = true) ∧ meth.locks = false ∧
  c.exceptionTable.toList = tableOf (i_h y) ∧ meth.name = (i_y y).name ∧ q_G V s ∧ i_f y ≤ R.frames ∧ i_l y ≤ R.locals
section CX
variable {V : q_En} {y : q_I} {p : Program} {R : Room} {s : State} {m : MethodId} {args : Array Value} {meth : Method} {c : Code}
theorem q_Cx.x (C : q_Cx V y p R s m args meth c) : p.tables.exec = Jvm.exec := C.1
theorem q_Cx.b (C : q_Cx V y p R s m args meth c) : c.code = i_b y := C.2.1
theorem q_Cx.n (C : q_Cx V y p R s m args meth c) : c.maxLocals = i_n y := C.2.2.1
theorem q_Cx.r (C : q_Cx V y p R s m args meth c) : meth.sig.returnType = i_r y := C.2.2.2.1
theorem q_Cx.own (C : q_Cx V y p R s m args meth c) : s.vm.findClass (i_o y) = some m.cls := C.2.2.2.2.1
theorem q_Cx.w (C : q_Cx V y p R s m args meth c) : ∀ w ∈ q_big, w.before args s = true := C.2.2.2.2.2.1
theorem q_Cx.k (C : q_Cx V y p R s m args meth c) : meth.locks = false := C.2.2.2.2.2.2.1
theorem q_Cx.t (C : q_Cx V y p R s m args meth c) : c.exceptionTable.toList = tableOf (i_h y) := C.2.2.2.2.2.2.2.1
theorem q_Cx.nm (C : q_Cx V y p R s m args meth c) : meth.name = (i_y y).name := C.2.2.2.2.2.2.2.2.1
theorem q_Cx.g (C : q_Cx V y p R s m args meth c) : q_G V s := C.2.2.2.2.2.2.2.2.2.1
theorem q_Cx.f (C : q_Cx V y p R s m args meth c) : i_f y ≤ R.frames := C.2.2.2.2.2.2.2.2.2.2.1
theorem q_Cx.l (C : q_Cx V y p R s m args meth c) : i_l y ≤ R.locals := C.2.2.2.2.2.2.2.2.2.2.2
theorem q_Cx.K (C : q_Cx V y p R s m args meth c) : va_K (e_D V) vwCl (q_tys V) s := C.g.1
end CX
def q_Fin (V : q_En) (y : q_I) (Kr : q_KR) (Kx : q_KX) (p : Program) (e : Env) (R : Room) (s : State) (m : MethodId) (args : Array Value) (below : List Frame) (meth : Method) (c : Code) (Q : State → Prop) : Prop :=
  (∀ (v : Option Value) (h' : q_H) (z' : Option Nat) (H' : Heap) (locs' : List Loc) (cells' slots' pc' : Nat) (l' : Array Slot), Kr v h' z' → q_Rep V h' z' H' → va_S (e_F V) s.heap H' locs' → cells' ≤ R.cells → slots' ≤ R.slots → q_isRet y pc' v →
    W p (e_l V) e R s m args below meth c H' locs' cells' slots' Q (F0 m pc' l' v.toList)) ∧
  (∀ (E : String) (h' : q_H), Kx E h' → ∃ (Qc : Array Value → State → Outcome → State → Prop) (XC : String → State → State → Prop), Q = vx_MQ below Qc XC args s R.cells R.slots (e_F V) ∧
    ∀ (E2 : String) (h2 : q_H) (t : State), Kx E2 h2 → q_Rep V h2 none t.heap → va_F (e_F V) s t → XC E2 s t)
/-- from every machine that stands at pc with this picture, the method ends as Kr, Kx say; bc cells and bs slots are still to be had -/
def QW (V : q_En) (y : q_I) (pc : Nat) (ls : List (Option Value)) (st : List Value) (h : q_H) (z : Option Nat) (bc bs : Nat) (Kr : q_KR) (Kx : q_KX) : Prop :=
  ∀ (p : Program) (e : Env) (R : Room) (s : State) (m : MethodId) (args : Array Value) (below : List Frame) (meth : Method) (c : Code) (H : Heap) (locs : List Loc) (cells slots : Nat) (l0 : Array Slot) (Q : State → Prop),
    q_Cx V y p R s m args meth c → q_Rep V h z H → q_L l0 (i_n y) ls → va_S (e_F V) s.heap H locs → cells + bc ≤ R.cells → slots + bs ≤ R.slots → q_Fin V y Kr Kx p e R s m args below meth c Q →
    W p (e_l V) e R s m args below meth c H locs cells slots Q (F0 m pc l0 st)
/-- a call of y on as over h -/
def QM (V : q_En) (y : q_I) (as : List Value) (h : q_H) (z : Option Nat) (Kr : q_KR) (Kx : q_KX) : Prop :=
  vx_Met (e_l V) (i_y y) (q_ws y) (q_rm y) (va_Pc as (fun U => q_Rep V h z U.heap ∧ q_G V U)) (q_Qc V Kr) (q_XC V Kx) (i_c y) (i_s y) (e_F V)
