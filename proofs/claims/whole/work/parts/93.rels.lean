/-! The law's start: what the tables and the start say of the machine -/
section RELS
def n_all : List Cond := flatC (Jvm.Cond.and given_1 narrow_1)
def q_tm (i : Nat) : Term := .string RX4 ([108, 122, 71, 88, 135].getD i 0)
def q_t9 (i : Nat) : Term := .string RX9 ([130, 148, 166, 168, 170].getD i 0)
def q_t8 (i : Nat) : Term := .string RX8 ([67, 383, 374, 378, 381, 251, 296, 303].getD i 0)
theorem n_ex : ∀ i, i < 5 → n_all[[108, 118, 130, 141, 155].getD i 0]? = some (Cond.exactly (q_tm i) "java/lang/String") := by decide +kernel
theorem n_co : ∀ i, i < 5 → n_all[[109, 119, 131, 142, 156].getD i 0]? = some (Cond.eq (.field (q_tm i) "java/lang/String" "coder" "B") (.int 0)) := by decide +kernel
theorem n_ar : ∀ i, i < 5 → n_all[[110, 120, 132, 143, 157].getD i 0]? = some (Cond.arrayOf (.field (q_tm i) "java/lang/String" "value" "[B") .byte) := by decide +kernel
theorem n_le : ∀ i, i < 5 → n_all[[111, 121, 133, 144, 158].getD i 0]? = some (Cond.eq (.length (.field (q_tm i) "java/lang/String" "value" "[B")) (.int (Int32.ofNat (q_len.getD i 0)))) := by decide +kernel
theorem n_el : ∀ i, i < 5 → ∀ j, j < q_len.getD i 0 → n_all[([[112, 113, 114, 115, 116, 117], [122, 123, 124, 125, 126, 127, 128], [134, 135, 136, 137, 138], [145, 146, 147, 148, 149, 150, 151], [159, 160, 161, 162, 163, 164, 165, 166]].getD i []).getD j 0]? = some (Cond.eq (.elem (.field (q_tm i) "java/lang/String" "value" "[B") (.int (Int32.ofNat j))) (.int ((q_byt.getD i []).getD j 0))) := by decide +kernel
theorem n_pr : ∀ i, i < 5 → ∀ j, j < 5 → i < j → n_all[([[0, 129, 139, 152, 167], [0, 0, 140, 153, 168], [0, 0, 0, 154, 169], [0, 0, 0, 0, 170], [0, 0, 0, 0, 0]].getD i []).getD j 0]? = some (Cond.not (Cond.eq (q_tm i) (q_tm j))) := by decide +kernel
theorem n_eq : ∀ i, i < 5 → n_all[[492, 517, 541, 568, 597].getD i 0]? = some (Cond.eq (q_tm i) (q_t9 i)) := by decide +kernel
theorem n_e8 : ∀ i, i < 8 → n_all[[171, 203, 244, 275, 310, 342, 383, 443].getD i 0]? = some (Cond.exactly (q_t8 i) "java/lang/String") := by decide +kernel
theorem va_eR {args : Array Value} {s : State} {t u : Term} {a : Nat} (h : (Cond.eq t u).before args s = true) (ht : t.eval args s none [] s = some (.ref a)) : u.eval args s none [] s = some (.ref a) := by
  cases hv : u.eval args s none [] s with
  | none => simp [Cond.before, Cond.holds, Cond.value, ht, hv] at h
  | some w =>
    simp only [Cond.before, Cond.holds, Cond.value, hv, ht] at h
    cases w <;> simp_all
section
variable {b : Nat} {s : State}
theorem n_k (hg : (Jvm.Cond.and given_1 narrow_1).before #[Value.ref b] s = true) (i : Nat) {w : Cond} (e : n_all[i]? = some w) : w.before #[Value.ref b] s = true := flat_of_before _ hg w (List.mem_of_getElem? e)
theorem hA0 : ∀ a : Nat, a < s.heap.size → ¬ (fun q : Nat => s.heap.size ≤ q) a := fun a h h2 => absurd h (Nat.not_lt.mpr h2)
theorem s_S (hg : (Jvm.Cond.and given_1 narrow_1).before #[Value.ref b] s = true) : ∃ adK adV : Nat → Nat, vk_S 5 q_len q_byt adK adV (fun q : Nat => s.heap.size ≤ q) s s.heap ∧ ∀ i : Nat, i < 5 → (q_tm i).eval #[Value.ref b] s none [] s = some (.ref (adK i)) :=
  vk_Sof (N := 5) (tm := q_tm) (len := q_len) (byt := q_byt) (by decide) (fun i hi => n_k hg _ (n_ex i hi)) (fun i hi => n_k hg _ (n_co i hi)) (fun i hi => n_k hg _ (n_ar i hi)) (fun i hi => n_k hg _ (n_le i hi)) (fun i hi j hj => n_k hg _ (n_el i hi j hj))
    (fun i j hi hj hne => by
      rcases Nat.lt_or_gt_of_ne hne with z | z
      · exact Or.inl (n_k hg _ (n_pr i hi j hj z))
      · exact Or.inr (n_k hg _ (n_pr j hj i hi z))) hA0
theorem s_M (hg : (Jvm.Cond.and given_1 narrow_1).before #[Value.ref b] s = true) : ∃ ad : Nat → Nat, ∀ i : Nat, i < 8 → (q_t8 i).eval #[Value.ref b] s none [] s = some (.ref (ad i)) := by
  have h0 : ∀ i : Nat, ∃ a : Nat, i < 8 → (q_t8 i).eval #[Value.ref b] s none [] s = some (.ref a) := fun i => by
    by_cases hi : i < 8
    · obtain ⟨a, c, cA, kA, q1, -⟩ := Cond.exactly_spec (args := #[Value.ref b]) (first := s) (o := none) (s := s) (idx := []) (t := q_t8 i) (cls := "java/lang/String") (n_k hg _ (n_e8 i hi))
      exact ⟨a, fun _ => q1⟩
    · exact ⟨0, fun h => absurd h hi⟩
  obtain ⟨ad, had⟩ := Classical.axiomOfChoice h0
  exact ⟨ad, fun i hi => had i hi⟩
theorem q_ht (hts : ∀ w ∈ lw_tbl, w.before #[Value.ref b] s = true) : ∀ w ∈ q_big, w.before #[Value.ref b] s = true := fun w hw => hts w (List.mem_filter.mp hw).1
theorem klJ0 : ∀ w ∈ u_ws RJ0 TJ0 2, w ∈ lw_tbl := fun w hw => by
  have e : u_ws RJ0 TJ0 2 = [62, 64].filterMap (fun i => tables_1_5[i]?) := by decide +kernel
  rw [e] at hw
  obtain ⟨i, -, hi⟩ := List.mem_filterMap.mp hw
  exact q_sub5 _ (List.mem_of_getElem? hi)
theorem s_K (hts : ∀ w ∈ lw_tbl, w.before #[Value.ref b] s = true) : ∃ (dC : Nat → ClassId) (dI : Nat → Nat → Nat), ∀ (k : Nat) (q : vw_C), vwCl[k]? = some q → u_Kn s q.1 q.2.1 q.2.2 (dC k) (dI k) := by
  obtain ⟨c0, i0, h0⟩ := u_known (C := RJ0) (T := TJ0) (N := 2) (n := 4) hts klJ0 (hts _ (q_sub5 _ (List.mem_of_getElem? (i := 61) (by decide +kernel))))
  obtain ⟨c1, i1, h1⟩ := u_known (C := RX0) (T := TX0) (N := 4) (n := 4) hts (fun w hw => (List.mem_filter.mp (klX0 w hw)).1) (hts _ (q_sub1 _ (List.mem_of_getElem? (i := 114) (by decide +kernel))))
  obtain ⟨c2, i2, h2⟩ := u_known (C := RX1) (T := TX1) (N := 5) (n := 5) hts (fun w hw => (List.mem_filter.mp (klX1 w hw)).1) (hts _ (q_sub1 _ (List.mem_of_getElem? (i := 40) (by decide +kernel))))
  obtain ⟨c3, i3, h3⟩ := u_known (C := RX2) (T := TX2) (N := 3) (n := 3) hts (fun w hw => (List.mem_filter.mp (klX2 w hw)).1) (hts _ (q_sub1 _ (List.mem_of_getElem? (i := 107) (by decide +kernel))))
  obtain ⟨c4, i4, h4⟩ := u_known (C := RX3) (T := TX3) (N := 5) (n := 5) hts (fun w hw => (List.mem_filter.mp (klX3 w hw)).1) (hts _ (q_sub1 _ (List.mem_of_getElem? (i := 125) (by decide +kernel))))
  obtain ⟨c5, i5, h5⟩ := u_known (C := RX4) (T := TX4) (N := 11) (n := 11) hts (fun w hw => (List.mem_filter.mp (klX4 w hw)).1) (hts _ (q_sub1 _ (List.mem_of_getElem? (i := 34) (by decide +kernel))))
  obtain ⟨c6, i6, h6⟩ := u_known (C := RX5) (T := TX5) (N := 4) (n := 4) hts (fun w hw => (List.mem_filter.mp (klX5 w hw)).1) (hts _ (q_sub1 _ (List.mem_of_getElem? (i := 211) (by decide +kernel))))
  obtain ⟨c7, i7, h7⟩ := u_known (C := RX6) (T := TX6) (N := 4) (n := 4) hts (fun w hw => (List.mem_filter.mp (klX6 w hw)).1) (hts _ (q_sub1 _ (List.mem_of_getElem? (i := 156) (by decide +kernel))))
  obtain ⟨c8, i8, h8⟩ := u_known (C := RX7) (T := TX7) (N := 9) (n := 9) hts (fun w hw => (List.mem_filter.mp (klX7 w hw)).1) (hts _ (q_sub1 _ (List.mem_of_getElem? (i := 230) (by decide +kernel))))
  obtain ⟨c9, i9, h9⟩ := u_known (C := RX8) (T := TX8) (N := 11) (n := 11) hts (fun w hw => (List.mem_filter.mp (klX8 w hw)).1) (hts _ (q_sub1 _ (List.mem_of_getElem? (i := 26) (by decide +kernel))))
  obtain ⟨c10, i10, h10⟩ := u_known (C := RX9) (T := TX9) (N := 35) (n := 35) hts (fun w hw => (List.mem_filter.mp (klX9 w hw)).1) (hts _ (q_sub5 _ (List.mem_of_getElem? (i := 208) (by decide +kernel))))
  refine ⟨fun k => if k = 0 then c0 else if k = 1 then c1 else if k = 2 then c2 else if k = 3 then c3 else if k = 4 then c4 else if k = 5 then c5 else if k = 6 then c6 else if k = 7 then c7 else if k = 8 then c8 else if k = 9 then c9 else c10, fun k => if k = 0 then i0 else if k = 1 then i1 else if k = 2 then i2 else if k = 3 then i3 else if k = 4 then i4 else if k = 5 then i5 else if k = 6 then i6 else if k = 7 then i7 else if k = 8 then i8 else if k = 9 then i9 else i10, fun k q hq => ?_⟩
  match k, hq with
  | 0, hq => cases hq; exact h0
  | 1, hq => cases hq; exact h1
  | 2, hq => cases hq; exact h2
  | 3, hq => cases hq; exact h3
  | 4, hq => cases hq; exact h4
  | 5, hq => cases hq; exact h5
  | 6, hq => cases hq; exact h6
  | 7, hq => cases hq; exact h7
  | 8, hq => cases hq; exact h8
  | 9, hq => cases hq; exact h9
  | 10, hq => cases hq; exact h10
  | k + 11, hq => cases hq
theorem s_A {ty : FieldType} (h : (Cond.arrayClass ty).before #[Value.ref b] s = true) (hra : ∀ cA, s.vm.findClass ("[" ++ ty.toString) = some cA → va_RA s cA ty) : ∃ cA, ArrOfT s cA ty ∧ va_RA s cA ty := by
  obtain ⟨cA, kA, comp, h1, h2, h3⟩ := Cond.arrayClass_spec h
  exact ⟨cA, fun n z => ⟨fun k h => (by cases h), kA, h2, comp, h3⟩, hra cA h1⟩
theorem s_O {C : String} (h : (Cond.arrayOver (.object C)).before #[Value.ref b] s = true) : ∃ cA, ArrOfT s cA (.object C) ∧ va_RA s cA (.object C) := by
  obtain ⟨comp, c, k, h1, h2, h3, h4, h5⟩ := Cond.arrayOver_spec h
  exact ⟨c, fun n z => ⟨fun k h => (by cases h), k, h3, comp, h4⟩, k, comp, h3, h4, h1, h5⟩
theorem s_Ty (hts : ∀ w ∈ lw_tbl, w.before #[Value.ref b] s = true) : ∃ eA : Nat → ClassId, ∀ (k : Nat) (q : ClassId × FieldType), ([(eA 0, .byte), (eA 1, .int), (eA 2, .long), (eA 3, .double), (eA 4, .object RX3), (eA 5, .object RX6), (eA 6, .object RX0)] : List (ClassId × FieldType))[k]? = some q → ArrOfT s q.1 q.2 ∧ va_RA s q.1 q.2 := by
  obtain ⟨a0, h0⟩ := s_A (ty := .byte) (hts _ (q_sub1 _ (List.mem_of_getElem? (i := 68) (by decide +kernel)))) (fun _ h => h)
  obtain ⟨a1, h1⟩ := s_A (ty := .int) (hts _ (q_sub1 _ (List.mem_of_getElem? (i := 178) (by decide +kernel)))) (fun _ h => h)
  obtain ⟨a2, h2⟩ := s_A (ty := .long) (hts _ (q_sub6 _ (List.mem_of_getElem? (i := 79) (by decide +kernel)))) (fun _ h => h)
  obtain ⟨a3, h3⟩ := s_A (ty := .double) (hts _ (q_sub8 _ (List.mem_of_getElem? (i := 60) (by decide +kernel)))) (fun _ h => h)
  obtain ⟨a4, h4⟩ := s_O (C := RX3) (hts _ (q_sub1 _ (List.mem_of_getElem? (i := 120) (by decide +kernel))))
  obtain ⟨a5, h5⟩ := s_O (C := RX6) (hts _ (q_sub1 _ (List.mem_of_getElem? (i := 122) (by decide +kernel))))
  obtain ⟨a6, h6⟩ := s_O (C := RX0) (hts _ (q_sub1 _ (List.mem_of_getElem? (i := 113) (by decide +kernel))))
  refine ⟨fun k => if k = 0 then a0 else if k = 1 then a1 else if k = 2 then a2 else if k = 3 then a3 else if k = 4 then a4 else if k = 5 then a5 else a6, fun k q hq => ?_⟩
  match k, hq with
  | 0, hq => cases hq; exact h0
  | 1, hq => cases hq; exact h1
  | 2, hq => cases hq; exact h2
  | 3, hq => cases hq; exact h3
  | 4, hq => cases hq; exact h4
  | 5, hq => cases hq; exact h5
  | 6, hq => cases hq; exact h6
  | k + 7, hq => cases hq
theorem g_n : ∀ i, i < 8 → tables_1_1[[35, 41, 124, 126, 131, 157, 212, 231].getD i 0]? = (q_nest[i]?).map (fun q => Cond.methodLinkNest q.1 q.2.1 q.2.2.1 q.2.2.2) := by decide +kernel
theorem g_d : ∀ i, i < 6 → tables_1_3[[27, 28, 29, 30, 31, 32].getD i 0]? = (q_decl[i]?).map (fun q => Cond.declares q) := by decide +kernel
theorem g_c : ∀ i, i < 5 → n_all[[21, 22, 35, 23, 36].getD i 0]? = (q_ncast[i]?).map (fun q => Cond.not (Cond.castable q.1 q.2)) := by decide +kernel
theorem l_mem {α β : Type} {l : List α} {f : α → β} {n : Nat} {g : Nat → Option β} {p : β → Prop} (hn : l.length = n) (h : ∀ i, i < n → g i = (l[i]?).map f) (hp : ∀ i w, i < n → g i = some w → p w) : ∀ q ∈ l, p (f q) := fun q hq => by
  obtain ⟨i, hi⟩ := List.getElem?_of_mem hq
  have hl : i < n := by rw [← hn]; exact (List.getElem?_eq_some_iff.mp hi).1
  exact hp i (f q) hl (by rw [h i hl, hi]; rfl)
theorem s_G2 {V : q_En} (hts : ∀ w ∈ lw_tbl, w.before #[Value.ref b] s = true) (hg : (Jvm.Cond.and given_1 narrow_1).before #[Value.ref b] s = true) (hf : (e_l V).stackTraces = false) : q_G2 V s := by
  refine ⟨l_mem (n := 8) (g := fun i => tables_1_1[[35, 41, 124, 126, 131, 157, 212, 231].getD i 0]?) (p := fun w => va_Nw w s) rfl g_n (fun i w hi e => ?_), l_mem (n := 6) (g := fun i => tables_1_3[[27, 28, 29, 30, 31, 32].getD i 0]?) (p := fun w => va_Nw w s) rfl g_d (fun i w hi e => ?_), ?_, ?_, ?_, hf⟩
  · have h1 := hts w (q_sub1 _ (List.mem_of_getElem? e))
    obtain ⟨q, -, rfl⟩ : ∃ q, q_nest[i]? = some q ∧ Cond.methodLinkNest q.1 q.2.1 q.2.2.1 q.2.2.2 = w := Option.map_eq_some_iff.mp ((g_n i hi).symm.trans e)
    exact va_Nw.of rfl h1
  · have h1 := hts w (q_sub3 _ (List.mem_of_getElem? e))
    obtain ⟨q, -, rfl⟩ : ∃ q, q_decl[i]? = some q ∧ Cond.declares q = w := Option.map_eq_some_iff.mp ((g_d i hi).symm.trans e)
    exact va_Nw.of rfl h1
  · refine List.forall_mem_cons.mpr ⟨?_, List.forall_mem_cons.mpr ⟨?_, List.forall_mem_cons.mpr ⟨?_, List.forall_mem_cons.mpr ⟨?_, fun _ h => absurd h List.not_mem_nil⟩⟩⟩⟩
    · exact va_Nw.of rfl (hts _ (q_sub3 _ (List.mem_of_getElem? (i := 26) (by decide +kernel))))
    · exact va_Nw.of rfl (hts _ (q_sub3 _ (List.mem_of_getElem? (i := 109) (by decide +kernel))))
    · exact va_Nw.of rfl (hts _ (q_sub4 _ (List.mem_of_getElem? (i := 226) (by decide +kernel))))
    · exact va_Nw.of rfl (hts _ (q_sub5 _ (List.mem_of_getElem? (i := 59) (by decide +kernel))))
  · have h5 : ∀ q ∈ q_ncast, (Cond.not (Cond.castable q.1 q.2)).before #[Value.ref b] s = true := l_mem (n := 5) (g := fun i => n_all[[21, 22, 35, 23, 36].getD i 0]?) (f := fun q : String × String => Cond.not (Cond.castable q.1 q.2)) (p := fun w => w.before #[Value.ref b] s = true) rfl g_c (fun i w hi e => n_k hg _ e)
    exact fun q hq => va_Nc.of (h5 q hq)
  · refine List.forall_mem_cons.mpr ⟨?_, List.forall_mem_cons.mpr ⟨?_, List.forall_mem_cons.mpr ⟨?_, fun _ h => absurd h List.not_mem_nil⟩⟩⟩
    · exact va_AO.of (hts _ (q_sub1 _ (List.mem_of_getElem? (i := 113) (by decide +kernel))))
    · exact va_AO.of (hts _ (q_sub1 _ (List.mem_of_getElem? (i := 120) (by decide +kernel))))
    · exact va_AO.of (hts _ (q_sub1 _ (List.mem_of_getElem? (i := 122) (by decide +kernel))))
theorem s_R {V : q_En} (hts : ∀ w ∈ lw_tbl, w.before #[Value.ref b] s = true) (hg : (Jvm.Cond.and given_1 narrow_1).before #[Value.ref b] s = true) (hK : ∀ i : Nat, i < 5 → (q_tm i).eval #[Value.ref b] s none [] s = some (.ref (e_K V i))) (hM : ∀ i : Nat, i < 8 → (q_t8 i).eval #[Value.ref b] s none [] s = some (.ref (e_M V (5 + i)))) : ∀ q ∈ q_strs, vk_R q.1 q.2.1 q.2.2.1 (e_S V q.2.2.2) s := by
  refine List.forall_mem_cons.mpr ⟨?_, List.forall_mem_cons.mpr ⟨?_, List.forall_mem_cons.mpr ⟨?_, List.forall_mem_cons.mpr ⟨?_, List.forall_mem_cons.mpr ⟨?_, List.forall_mem_cons.mpr ⟨?_, List.forall_mem_cons.mpr ⟨?_, List.forall_mem_cons.mpr ⟨?_, List.forall_mem_cons.mpr ⟨?_, List.forall_mem_cons.mpr ⟨?_, List.forall_mem_cons.mpr ⟨?_, List.forall_mem_cons.mpr ⟨?_, List.forall_mem_cons.mpr ⟨?_, List.forall_mem_cons.mpr ⟨?_, List.forall_mem_cons.mpr ⟨?_, List.forall_mem_cons.mpr ⟨?_, List.forall_mem_cons.mpr ⟨?_, List.forall_mem_cons.mpr ⟨?_, fun _ h => absurd h List.not_mem_nil⟩⟩⟩⟩⟩⟩⟩⟩⟩⟩⟩⟩⟩⟩⟩⟩⟩⟩
  · exact vk_R.of (hts _ (q_sub2 _ (List.mem_of_getElem? (i := 115) (by decide +kernel)))) (hK 0 (by decide))
  · exact vk_R.of (hts _ (q_sub2 _ (List.mem_of_getElem? (i := 199) (by decide +kernel)))) (hK 1 (by decide))
  · exact vk_R.of (hts _ (q_sub2 _ (List.mem_of_getElem? (i := 204) (by decide +kernel)))) (hK 2 (by decide))
  · exact vk_R.of (hts _ (q_sub2 _ (List.mem_of_getElem? (i := 205) (by decide +kernel)))) (hK 3 (by decide))
  · exact vk_R.of (hts _ (q_sub2 _ (List.mem_of_getElem? (i := 210) (by decide +kernel)))) (hK 4 (by decide))
  · exact vk_R.of (hts _ (q_sub6 _ (List.mem_of_getElem? (i := 131) (by decide +kernel)))) (va_eR (n_k hg _ (n_eq 0 (by decide))) (hK 0 (by decide)))
  · exact vk_R.of (hts _ (q_sub6 _ (List.mem_of_getElem? (i := 160) (by decide +kernel)))) (va_eR (n_k hg _ (n_eq 1 (by decide))) (hK 1 (by decide)))
  · exact vk_R.of (hts _ (q_sub6 _ (List.mem_of_getElem? (i := 161) (by decide +kernel)))) (va_eR (n_k hg _ (n_eq 2 (by decide))) (hK 2 (by decide)))
  · exact vk_R.of (hts _ (q_sub6 _ (List.mem_of_getElem? (i := 162) (by decide +kernel)))) (va_eR (n_k hg _ (n_eq 3 (by decide))) (hK 3 (by decide)))
  · exact vk_R.of (hts _ (q_sub6 _ (List.mem_of_getElem? (i := 163) (by decide +kernel)))) (va_eR (n_k hg _ (n_eq 4 (by decide))) (hK 4 (by decide)))
  · exact vk_R.of (hts _ (q_sub3 _ (List.mem_of_getElem? (i := 66) (by decide +kernel)))) (hM 0 (by decide))
  · exact vk_R.of (hts _ (q_sub3 _ (List.mem_of_getElem? (i := 116) (by decide +kernel)))) (hM 1 (by decide))
  · exact vk_R.of (hts _ (q_sub3 _ (List.mem_of_getElem? (i := 134) (by decide +kernel)))) (hM 2 (by decide))
  · exact vk_R.of (hts _ (q_sub4 _ (List.mem_of_getElem? (i := 38) (by decide +kernel)))) (hM 3 (by decide))
  · exact vk_R.of (hts _ (q_sub4 _ (List.mem_of_getElem? (i := 215) (by decide +kernel)))) (hM 4 (by decide))
  · exact vk_R.of (hts _ (q_sub4 _ (List.mem_of_getElem? (i := 233) (by decide +kernel)))) (hM 5 (by decide))
  · exact vk_R.of (hts _ (q_sub5 _ (List.mem_of_getElem? (i := 43) (by decide +kernel)))) (hM 6 (by decide))
  · exact vk_R.of (hts _ (q_sub5 _ (List.mem_of_getElem? (i := 71) (by decide +kernel)))) (hM 7 (by decide))
theorem s_G (hts : ∀ w ∈ lw_tbl, w.before #[Value.ref b] s = true) (hg : (Jvm.Cond.and given_1 narrow_1).before #[Value.ref b] s = true) {l : Launch} (hf : l.stackTraces = false) {L : Nat} {xs : Nat → Int32} (hX : va_X b L xs s s.heap) (hb : b < s.heap.size) : ∃ V : q_En, e_l V = l ∧ e_B V = s.heap.size ∧ e_sb V = b ∧ e_sL V = L ∧ q_G V s := by
  obtain ⟨dC, dI, hKc⟩ := s_K hts
  obtain ⟨eA, hTy⟩ := s_Ty hts
  obtain ⟨adK, adV, hS, hKv⟩ := s_S hg
  obtain ⟨ad, hM⟩ := s_M hg
  refine ⟨(l, s.heap.size, (dC, dI), eA, adK, adV, fun i => ad (i - 5), b, L, xs), rfl, rfl, rfl, rfl, ⟨hKc, hTy⟩, ?_, ?_, hS, ?_, hX, hb, ?_, ?_, Nat.le_refl _, s_G2 hts hg hf⟩
  · exact vx_Zqof (hts _ (q_sub3 _ (List.mem_of_getElem? (i := 51) (by decide +kernel)))) (hts _ (q_sub1 _ (List.mem_of_getElem? (i := 11) (by decide +kernel)))) (n_k hg 9 (by decide +kernel)) hA0
  · exact vx_Zqof (hts _ (q_sub3 _ (List.mem_of_getElem? (i := 53) (by decide +kernel)))) (hts _ (q_sub1 _ (List.mem_of_getElem? (i := 11) (by decide +kernel)))) (n_k hg 10 (by decide +kernel)) hA0
  · exact s_R hts hg hKv (fun i hi => by rw [show e_M (l, s.heap.size, (dC, dI), eA, adK, adV, fun i => ad (i - 5), b, L, xs) (5 + i) = ad i from congrArg ad (Nat.add_sub_cancel_left 5 i)]; exact hM i hi)
  · exact va_Zof (hts _ (q_sub2 _ (List.mem_of_getElem? (i := 137) (by decide +kernel)))) (hts _ (q_sub1 _ (List.mem_of_getElem? (i := 17) (by decide +kernel)))) (va_eqi (n_k hg 4 (by decide +kernel))) hA0
  · exact va_Zqof (hts _ (q_sub2 _ (List.mem_of_getElem? (i := 153) (by decide +kernel)))) (hts _ (q_sub1 _ (List.mem_of_getElem? (i := 19) (by decide +kernel)))) (n_k hg 5 (by decide +kernel)) hA0
end
end RELS
