/-! Calls, entries, answers, throws of QW. -/
section QC
variable {V : q_En} {y y' : q_I} {pc : Nat} {ls : List (Option Value)} {st : List Value} {h : q_H} {z : Option Nat} {bc bs : Nat} {Kr : q_KR} {Kx : q_KX}
theorem q_good {ws : List Cond} (hm : ∀ w ∈ ws, w ∈ q_big) : GoodIn q_big ws := fun w hw => ⟨hm w hw, good_of_word (List.mem_filter.mp (hm w hw)).2⟩
theorem q_ws_in (k5 : q_head y' ∈ q_big) : ∀ w ∈ q_ws y', w ∈ q_big := fun w hw => by
  rcases List.mem_cons.mp hw with rfl | hw
  · exact k5
  · exact hw
theorem q_ws_code (ht : i_h y' = []) : q_ws y' = Cond.code (i_y y') (i_b y') (i_n y') (i_r y') :: q_big := by unfold q_ws q_head; rw [if_pos ht]
theorem q_ws_with (ht : i_h y' ≠ []) : q_ws y' = Cond.codeWith (i_y y') (i_b y') (i_n y') (i_r y') (i_h y') :: q_big := by unfold q_ws q_head; rw [if_neg ht]
theorem q_blind {as : List Value} {h : q_H} {z : Option Nat} : FrameBlind (va_Pc as (fun U => q_Rep V h z U.heap ∧ q_G V U)) := fun a U g mk q => ⟨q.1, q.2.1, q.2.2.next (State.WarmedH.refl U) (Nat.le_refl _) (fun _ _ _ => rfl)⟩
theorem q_pre {s : State} {H : Heap} {locs : List Loc} {as : List Value} (g : q_G V s) (hR : q_Rep V h z H) (hS : va_S (e_F V) s.heap H locs) : ∀ U : State, U.heap = H → s.WarmedH U.vm → va_Pc as (fun U => q_Rep V h z U.heap ∧ q_G V U) as.toArray U := fun U hU hW =>
  ⟨rfl, by rw [hU]; exact hR, g.next hW (by rw [hU]; exact hS.1) (fun q h1 h2 => by rw [hU]; exact hS.2.1 q h1 h2)⟩
/-- behind a call -/
theorem q_S_call {H0 H : Heap} {locs L : List Loc} {st0 t T' : State} (hS : va_S (e_F V) H0 H locs) (e0 : st0.heap = H) (e1 : T'.heap = t.heap) (hF : va_F (e_F V) st0 t) (hL : ∀ q ∈ L, e_F V q.base) : va_S (e_F V) H0 T'.heap (locs ++ L) := by
  obtain ⟨f1, f2⟩ := hF
  rw [e0] at f1 f2
  refine ⟨Nat.le_trans hS.1 (by rw [e1]; exact f1), fun q h1 h2 => ?_, fun q hq => ?_⟩
  · rw [e1, f2 q (Nat.lt_of_lt_of_le h1 hS.1) h2]; exact hS.2.1 q h1 h2
  · rcases List.mem_append.mp hq with h | h
    · exact hS.2.2 q h
    · exact hL q h
/-- from what a call runs to, on in this frame; a throw leaves this method, which has no table -/
theorem q_after {p : Program} {e : Env} {R : Room} {s : State} {m : MethodId} {args : Array Value} {below : List Frame} {meth : Method} {c : Code} {H : Heap} {locs : List Loc} {cells slots mc ms : Nat} {l0 : Array Slot} {Q : State → Prop} {stk rest : List Value}
    (C : q_Cx V y p R s m args meth c) (hL : q_L l0 (i_n y) ls) (hS : va_S (e_F V) s.heap H locs) (hc : cells + (bc + mc) ≤ R.cells) (hs : slots + (bs + ms) ≤ R.slots) (hF : q_Fin V y Kr Kx p e R s m args below meth c Q) (hty : i_h y = [])
    (hrun : vx_Run p (e_l V) e R s m args below meth c H locs cells slots mc ms (F0 m pc l0 stk) rest (q_Qc V (fun v h' z' => QW V y (pc + 3) ls (v.toList ++ rest) h' z' bc bs Kr Kx) #[]) (q_XC V Kx) (e_F V)) :
    W p (e_l V) e R s m args below meth c H locs cells slots Q (F0 m pc l0 stk) := by
  intro T hT X
  rcases hrun T hT X with ⟨v, st0, t, T', L, e0, X', hLc, e1, e2, ⟨v', h', z', hv, hk, hR', hFr⟩, st⟩ | ⟨q, st0, t, T', L, E, ce, e0, X', hLc, e1, e2, ⟨h', hk, hR', hFr⟩, hce, hcv, hcc, st⟩
  · cases hv
    obtain ⟨t2, a1, b1⟩ := hk p e R s m args below meth c T'.heap (locs ++ L) (cells + mc) (slots + ms) l0 Q C (by rw [e1]; exact hR') hL (q_S_call hS e0 e1 hFr hLc) (by omega) (by omega) hF T' rfl X'
    exact ⟨t2, st t2 a1, b1⟩
  · obtain ⟨Qc, XC, hQ, hX⟩ := hF.2 E h' hk
    subst hQ
    have hS' := q_S_call hS e0 e1 hFr hLc
    have ho : ∀ x ∈ c.exceptionTable.toList, covers x pc = false := by rw [C.t, hty]; exact fun x hx => nomatch hx
    obtain ⟨t2, a1, b1⟩ := vx_out (p := p) (l := e_l V) (e := e) (R := R) (meth := meth) (c := c) (m := m) (below := below) (args := args) (s := s) (Qc := Qc) (XC := XC) (mc := R.cells) (ms := R.slots) (free := e_F V) (ls := l0) (rest := rest) (pc := pc) (q := q) (E := E) (H := T'.heap) (locs := locs ++ L) (cells := cells + mc) (slots := slots + ms) ho C.k (by rw [e1]; exact hce) hcv hcc
      (fun t3 h3 _ => hX E h' t3 hk (by rw [h3, e1]; exact hR') (hS'.F h3)) (fun x hx => hS'.2.2 x hx) (by omega) (by omega) T' rfl X'
    exact ⟨t2, st.trans a1, b1⟩
theorem q_callV {ix n ci a : Nat} {As rest : List Value} {fs : List Value} {T : u_T} {N : Nat} (d : decode (i_b y) pc = .ok (.invokevirtual ix, 3)) (k1 : Cond.methodLink (i_o y) ix (i_y y') ∈ q_big) (k2 : Cond.instanceMethod (i_y y') ∈ q_big) (k3 : Cond.selects (i_y y').cls (i_y y') (i_y y') ∈ q_big) (k4 : Cond.initialized (i_y y').cls ∈ q_big) (k5 : q_head y' ∈ q_big) (ht : i_h y' = [])
    (hd : (i_y y').cls ≠ "java/lang/invoke/MethodHandle" ∧ (i_y y').cls ≠ "java/lang/invoke/VarHandle" ∧ (parseMethodDescriptor (i_y y').desc).map (fun d => d.parameters.length) = some n) (hcl : vwCl[ci]? = some ((i_y y').cls, T, N)) (hn : As.length = n) (hf : i_f y' + 1 ≤ i_f y) (hl : 8 + (i_n y' + 11) + i_l y' ≤ i_l y) (hW : (rest.map fun v => v.category).sum ≤ 8) (hty : i_h y = []) (hb : h a = some (.inr (ci, fs)))
    (hm : QM V y' (.ref a :: As) h z (fun v h' z' => QW V y (pc + 3) ls (v.toList ++ rest) h' z' bc bs Kr Kx) Kx) : QW V y pc ls (As.reverse ++ .ref a :: rest) h z (bc + i_c y') (bs + i_s y') Kr Kx := by
  intro p e R s m args below meth c H locs cells slots l0 Q C hR hL hS hc hs hF
  have hin : ∀ w ∈ wsV (i_o y) ix (i_y y').cls (i_y y') (q_ws y'), w ∈ q_big := fun w hw => by
    rcases List.mem_append.mp hw with hw | hw
    · simp only [List.mem_cons, List.not_mem_nil, or_false] at hw
      rcases hw with rfl | rfl | rfl | rfl <;> assumption
    · exact q_ws_in k5 w hw
  refine q_after (rest := rest) C hL hS hc hs hF hty ?_
  exact vx_runV (As := As) (rest := rest) (g := F0 m pc l0 (As.reverse ++ .ref a :: rest)) ⟨C.x, C.b, C.n, C.own, C.w⟩ hm (cwV n C.w (q_good hin) (q_ws_code ht) rfl rfl ⟨rfl, hd⟩ ⟨Nat.le_trans hf C.f, Nat.le_trans hl C.l⟩)
    ⟨q_blind, va_recv C.K (hR.one hb) (q0 := 0) hcl rfl, q_pre C.g hR hS⟩ rfl hn hL.1.1 rfl (lv_room hW) d ⟨by omega, by omega⟩
theorem q_callS {ix n : Nat} {As rest : List Value} (d : decode (i_b y) pc = .ok (.invokestatic ix, 3)) (k1 : Cond.methodLink (i_o y) ix (i_y y') ∈ q_big) (k2 : Cond.static (i_y y') ∈ q_big) (k4 : Cond.initialized (i_y y').cls ∈ q_big) (k5 : q_head y' ∈ q_big) (ht : i_h y' = [])
    (hd : (i_y y').cls ≠ "java/lang/invoke/MethodHandle" ∧ (i_y y').cls ≠ "java/lang/invoke/VarHandle" ∧ (parseMethodDescriptor (i_y y').desc).map (fun d => d.parameters.length) = some n) (hn : As.length = n) (hf : i_f y' + 1 ≤ i_f y) (hl : 8 + (i_n y' + 11) + i_l y' ≤ i_l y) (hW : (rest.map fun v => v.category).sum ≤ 8) (hty : i_h y = [])
    (hm : QM V y' As h z (fun v h' z' => QW V y (pc + 3) ls (v.toList ++ rest) h' z' bc bs Kr Kx) Kx) : QW V y pc ls (As.reverse ++ rest) h z (bc + i_c y') (bs + i_s y') Kr Kx := by
  intro p e R s m args below meth c H locs cells slots l0 Q C hR hL hS hc hs hF
  refine q_after (rest := rest) C hL hS hc hs hF hty ?_
  exact vx_runS (As := As) (rest := rest) (own := i_o y) (g := F0 m pc l0 (As.reverse ++ rest)) ⟨C.x, C.b, C.n, C.own, C.w⟩ hm ⟨callB_of n C.w (q_good (q_ws_in k5)) (q_ws_code ht) rfl rfl (C.w _ k4) (C.w _ k1) hd ⟨Nat.le_trans hf C.f, Nat.le_trans hl C.l⟩, C.w _ k2⟩
    ⟨q_blind, q_pre C.g hR hS⟩ rfl hn hL.1.1 rfl (lv_room hW) d ⟨by omega, by omega⟩
/-- a static method with a table of its own -/
theorem q_callSX {ix n : Nat} {As rest : List Value} (d : decode (i_b y) pc = .ok (.invokestatic ix, 3)) (k1 : Cond.methodLink (i_o y) ix (i_y y') ∈ q_big) (k2 : Cond.static (i_y y') ∈ q_big) (k4 : Cond.initialized (i_y y').cls ∈ q_big) (k5 : q_head y' ∈ q_big) (ht : i_h y' ≠ [])
    (hd : (i_y y').cls ≠ "java/lang/invoke/MethodHandle" ∧ (i_y y').cls ≠ "java/lang/invoke/VarHandle" ∧ (parseMethodDescriptor (i_y y').desc).map (fun d => d.parameters.length) = some n) (hn : As.length = n) (hf : i_f y' + 1 ≤ i_f y) (hl : 8 + (i_n y' + 11) + i_l y' ≤ i_l y) (hW : (rest.map fun v => v.category).sum ≤ 8) (hty : i_h y = [])
    (hm : QM V y' As h z (fun v h' z' => QW V y (pc + 3) ls (v.toList ++ rest) h' z' bc bs Kr Kx) Kx) : QW V y pc ls (As.reverse ++ rest) h z (bc + i_c y') (bs + i_s y') Kr Kx := by
  intro p e R s m args below meth c H locs cells slots l0 Q C hR hL hS hc hs hF
  refine q_after (rest := rest) C hL hS hc hs hF hty ?_
  refine vx_runSX (bytes := i_b y') (maxL := i_n y') (ret := i_r y') (As := As) (rest := rest) (own := i_o y) (hh := i_h y') (n := n) (g := F0 m pc l0 (As.reverse ++ rest)) ⟨C.x, C.b, C.n, C.own, C.w⟩ hm ?_ ⟨q_blind, q_pre C.g hR hS⟩ rfl hn hL.1.1 rfl (lv_room hW) d ⟨by omega, by omega⟩
  have hc0 : Cond.codeWith (i_y y') (i_b y') (i_n y') (i_r y') (i_h y') ∈ q_ws y' := by rw [q_ws_with ht]; exact List.mem_cons_self
  refine ⟨⟨rfl, rfl, Nat.le_trans hf C.f, Nat.le_trans hl C.l, pay_in C.w (q_good (q_ws_in k5)), hc0⟩, C.w _ (q_ws_in k5 _ hc0), C.w _ k4, ⟨hd.1, hd.2.1⟩, fun sig hsig => ?_, C.w _ k1, C.w _ k2⟩
  have h2 := hd.2.2
  rw [hsig] at h2
  exact (Option.some.inj h2).symm
/-- a method that never throws, as a contract of the kit's -/
theorem q_met {as : List Value} {Kr : q_KR} (hm : QM V y' as h z Kr (fun _ _ => False)) : Met (e_l V) (i_y y') (q_ws y') (q_rm y') (va_Pc as (fun U => q_Rep V h z U.heap ∧ q_G V U)) (q_Qc V Kr) (i_c y') (i_s y') (e_F V) := by
  refine MetFree.mono hm (fun _ _ q => q) (fun _ _ _ _ _ q => q) (fun a s o t _ q => ?_)
  rcases q with q | ⟨q, -, E, ce, L, ⟨h', hk, -⟩, -⟩
  · exact q
  · exact hk.elim
/-- a constructor -/
theorem q_callI {ix n a : Nat} {As rest : List Value} (d : decode (i_b y) pc = .ok (.invokespecial ix, 3)) (hl1 : (Cond.methodLink (i_o y) ix (i_y y') ∈ q_big) ∨ ∃ host, (i_o y, ix, i_y y', host) ∈ q_nest) (k2 : Cond.instanceMethod (i_y y') ∈ q_big) (k4 : Cond.initialized (i_y y').cls ∈ q_big) (k5 : q_head y' ∈ q_big) (ht : i_h y' = []) (hnm : (i_y y').name = "<init>") (hr : i_r y' = none)
    (hd : (i_y y').cls ≠ "java/lang/invoke/MethodHandle" ∧ (i_y y').cls ≠ "java/lang/invoke/VarHandle" ∧ (parseMethodDescriptor (i_y y').desc).map (fun d => d.parameters.length) = some n) (hn : As.length = n) (hf : i_f y' + 1 ≤ i_f y) (hl : 8 + (i_n y' + 11) + i_l y' ≤ i_l y) (hW : (rest.map fun v => v.category).sum ≤ 8)
    (hm : QM V y' (.ref a :: As) h z (fun v h' z' => QW V y (pc + 3) ls (v.toList ++ rest) h' z' bc bs Kr Kx) (fun _ _ => False)) : QW V y pc ls (As.reverse ++ .ref a :: rest) h z (bc + i_c y') (bs + i_s y') Kr Kx := by
  intro p e R s m args below meth c H locs cells slots l0 Q C hR hL hS hc hs hF
  have hw : q_ws y' = Cond.code (i_y y') (i_b y') (i_n y') none :: q_big := by rw [q_ws_code ht, hr]
  have hrun : va_Run p (e_l V) e R s m args below meth c H locs cells slots (i_c y') (i_s y') (F0 m pc l0 (As.reverse ++ .ref a :: rest)) rest (q_Qc V (fun v h' z' => QW V y (pc + 3) ls (v.toList ++ rest) h' z' bc bs Kr Kx) (Value.ref a :: As).toArray) (e_F V) := by
    rcases hl1 with hl1 | ⟨host, hl1⟩
    · exact va_runI (As := As) (rest := rest) (g := F0 m pc l0 (As.reverse ++ .ref a :: rest)) ⟨C.x, C.b, C.n, C.own, C.w⟩ (q_met hm) (cwI n C.w (q_good (q_ws_in k5)) hw rfl rfl (C.w _ k4) (C.w _ hl1) (C.w _ k2) hnm hd ⟨Nat.le_trans hf C.f, Nat.le_trans hl C.l⟩)
        ⟨q_blind, q_pre C.g hR hS⟩ rfl hn hL.1.1 rfl (lv_room hW) d ⟨by omega, by omega⟩
    · exact va_runIN (As := As) (rest := rest) (host := host) (g := F0 m pc l0 (As.reverse ++ .ref a :: rest)) ⟨C.x, C.b, C.n, C.own, C.w⟩ (q_met hm) ⟨va_cnB n C.w (q_good (q_ws_in k5)) hw rfl rfl (C.g.2.2.2.2.2.2.2.2.2.2.1 _ hl1) (C.w _ k4) hd ⟨Nat.le_trans hf C.f, Nat.le_trans hl C.l⟩, hnm, C.w _ k2⟩
        ⟨q_blind, q_pre C.g hR hS⟩ rfl hn hL.1.1 rfl (lv_room hW) d ⟨by omega, by omega⟩
  intro T hT X
  obtain ⟨v, st0, t, T', L, e0, X', hLc, e1, e2, ⟨v', h', z', hv, hk, hR', hFr⟩, st⟩ := hrun T hT X
  cases hv
  obtain ⟨t2, a1, b1⟩ := hk p e R s m args below meth c T'.heap (locs ++ L) (cells + i_c y') (slots + i_s y') l0 Q C (by rw [e1]; exact hR') hL (q_S_call hS e0 e1 hFr hLc) (by omega) (by omega) hF T' rfl X'
  exact ⟨t2, st t2 a1, b1⟩
-- answers
theorem q_iret {x : Int32} {ty : FieldType} (d : decode (i_b y) pc = .ok (.ireturn, 1)) (hr : i_r y = some ty) (hn : narrow ty (.int x) = .int x) (hk : Kr (some (.int x)) h z) : QW V y pc ls [.int x] h z bc bs Kr Kx :=
  fun _ _ _ _ _ _ _ _ _ H locs cells slots l0 _ _ hR _ hS hc hs hF => hF.1 _ h z H locs cells slots pc l0 hk hR hS (by omega) (by omega) (Or.inl ⟨x, ty, rfl, d, hr, hn⟩)
theorem q_lret {x : Int64} (d : decode (i_b y) pc = .ok (.lreturn, 1)) (hr : i_r y = some .long) (hk : Kr (some (.long x)) h z) : QW V y pc ls [.long x] h z bc bs Kr Kx :=
  fun _ _ _ _ _ _ _ _ _ H locs cells slots l0 _ _ hR _ hS hc hs hF => hF.1 _ h z H locs cells slots pc l0 hk hR hS (by omega) (by omega) (Or.inr (Or.inl ⟨x, rfl, d, hr⟩))
theorem q_dret {x : UInt64} (d : decode (i_b y) pc = .ok (.dreturn, 1)) (hr : i_r y = some .double) (hk : Kr (some (.double x)) h z) : QW V y pc ls [.double x] h z bc bs Kr Kx :=
  fun _ _ _ _ _ _ _ _ _ H locs cells slots l0 _ _ hR _ hS hc hs hF => hF.1 _ h z H locs cells slots pc l0 hk hR hS (by omega) (by omega) (Or.inr (Or.inr (Or.inl ⟨x, rfl, d, hr⟩)))
theorem q_vret (d : decode (i_b y) pc = .ok (.return_, 1)) (hr : i_r y = none) (hk : Kr none h z) : QW V y pc ls [] h z bc bs Kr Kx :=
  fun _ _ _ _ _ _ _ _ _ H locs cells slots l0 _ _ hR _ hS hc hs hF => hF.1 none h z H locs cells slots pc l0 hk hR hS (by omega) (by omega) (Or.inr (Or.inr (Or.inr ⟨rfl, d, hr⟩)))
-- entries
def q_ar : List Value → List (Option Value)
  | [] => []
  | v :: vs => if v.category = 2 then some v :: none :: q_ar vs else some v :: q_ar vs
def q_args (vs : List Value) (n : Nat) : List (Option Value) := q_ar vs ++ List.replicate (n - (q_ar vs).length) none
theorem q_ar_len (vs : List Value) : (q_ar vs).length = (lg_sl vs).length := by
  induction vs with
  | nil => rfl
  | cons v vs ih =>
    unfold q_ar lg_sl
    rw [List.flatMap_cons]
    split
    · simp only [List.length_cons, List.length_append, List.length_nil, ih, lg_sl]; omega
    · simp only [List.length_cons, List.length_append, List.length_nil, ih, lg_sl]; omega
theorem q_ar_mem (vs : List Value) : ∀ (k i : Nat) (v : Value), (q_ar vs)[i]? = some (some v) → (k + i, v) ∈ lv_args k vs := by
  induction vs with
  | nil => intro k i v hv; simp [q_ar] at hv
  | cons w vs ih =>
    intro k i v hv
    unfold q_ar at hv
    unfold lv_args
    split at hv
    · rename_i hc
      rw [if_pos hc]
      match i, hv with
      | 0, hv => cases hv; exact List.mem_cons_self
      | 1, hv => cases hv
      | i + 2, hv => exact List.mem_cons_of_mem _ (by have := ih (k + 2) i v (by simpa using hv); rw [show k + (i + 2) = k + 2 + i by omega]; exact this)
    · rename_i hc
      rw [if_neg hc]
      match i, hv with
      | 0, hv => cases hv; exact List.mem_cons_self
      | i + 1, hv => exact List.mem_cons_of_mem _ (by have := ih (k + 1) i v (by simpa using hv); rw [show k + (i + 1) = k + 1 + i by omega]; exact this)
theorem q_L.entry {as : List Value} {n : Nat} (hl : (lg_sl as).length ≤ n) : q_L ((lg_sl as ++ List.replicate (n - (lg_sl as).length) Slot.unset).toArray) n (q_args as n) := by
  have h0 := lv_entry as hl
  refine ⟨⟨h0.1, h0.2.1, fun q hq => ?_⟩, by unfold q_args; rw [List.length_append, List.length_replicate, q_ar_len]; omega⟩
  have h1 := q_lv_mem.mp hq
  refine h0.2.2 q ?_
  have h2 : (q_ar as)[q.1]? = some (some q.2) := by
    unfold q_args at h1
    by_cases hlt : q.1 < (q_ar as).length
    · rw [List.getElem?_append_left hlt] at h1; exact h1
    · rw [List.getElem?_append_right (by omega)] at h1
      have := List.eq_of_mem_replicate (List.mem_of_getElem? h1)
      cases this
  have h3 := q_ar_mem as 0 q.1 q.2 h2
  rwa [Nat.zero_add] at h3
theorem q_fin {p : Program} {e : Env} {s : State} {m : MethodId} {args : Array Value} {below : List Frame} {meth : Method} {c : Code} (C : q_Cx V y p (q_rm y) s m args meth c) : q_Fin V y Kr Kx p e (q_rm y) s m args below meth c (vx_MQ below (q_Qc V Kr) (q_XC V Kx) args s (i_c y) (i_s y) (e_F V)) := by
  refine ⟨fun v h' z' H' locs' cells' slots' pc' l' hk hR' hS' hc' hs' hret => ?_, fun E h' hk => ⟨_, _, rfl, fun E2 h2 t hk2 hR2 hF2 => ⟨h2, hk2, hR2, hF2⟩⟩⟩
  rcases hret with ⟨x, ty, rfl, d, hr, hn⟩ | ⟨x, rfl, d, hr⟩ | ⟨x, rfl, d, hr⟩ | ⟨rfl, d, hr⟩
  · exact W.widen hc' hs' (vx_ret (W.zret C.x C.b (C.r.trans hr) hn (fun t ht _ => ⟨_, h', z', rfl, hk, by rw [ht]; exact hR', hS'.F ht⟩) (fun q hq => hS'.2.2 q hq) d C.k))
  · exact W.widen hc' hs' (vx_ret (W.lret C.x C.b (C.r.trans hr) (fun t ht _ => ⟨_, h', z', rfl, hk, by rw [ht]; exact hR', hS'.F ht⟩) (fun q hq => hS'.2.2 q hq) d C.k))
  · exact W.widen hc' hs' (vx_ret (W.dret C.x C.b (C.r.trans hr) (fun t ht _ => ⟨_, h', z', rfl, hk, by rw [ht]; exact hR', hS'.F ht⟩) (fun q hq => hS'.2.2 q hq) d C.k))
  · exact W.widen hc' hs' (vx_ret (W.vret C.x C.b (C.r.trans hr) (fun t ht _ => ⟨_, h', z', rfl, hk, by rw [ht]; exact hR', hS'.F ht⟩) (fun q hq => hS'.2.2 q hq) d C.k))
theorem q_enter {as : List Value} (ht : i_h y = []) (hp : plainName (i_y y).cls = true) (ho : (i_y y).cls = i_o y) (hl : (lg_sl as).length ≤ i_n y) (kk : QW V y 0 (q_args as (i_n y)) [] h z (i_c y) (i_s y) Kr Kx) : QM V y as h z Kr Kx := by
  refine vx_ofW (cc := i_b y) (maxL := i_n y) (ret := i_r y) (ws' := q_big) hp (q_ws_code ht) ?_
  intro p e s m args below meth c s₁ B hml hno hv
  obtain ⟨rfl, hRep, hG⟩ := hv
  have hts := atoms_spec (ws := q_ws y) B.pre
  have C : q_Cx V y p (q_rm y) s m as.toArray meth c := ⟨B.exec, B.bytes, hml, B.returns, by rw [← ho]; exact findClass_of_methodNamed B.named, fun w hw => hts w (List.mem_cons_of_mem _ hw), B.notSynchronized, by rw [ht]; exact List.eq_nil_iff_forall_not_mem.mpr hno, (name_of_methodNamed B.named B.method).1, hG, Nat.le_refl _, Nat.le_refl _⟩
  rw [lg_entry_eq]
  exact kk p e (q_rm y) s m as.toArray below meth c s.heap [] 0 0 _ _ C hRep (q_L.entry hl) va_S.rf (Nat.le_of_eq (Nat.zero_add _)) (Nat.le_of_eq (Nat.zero_add _)) (q_fin C)
/-- a method with a table -/
theorem q_enterH {as : List Value} (ht : i_h y ≠ []) (hp : plainName (i_y y).cls = true) (ho : (i_y y).cls = i_o y) (hl : (lg_sl as).length ≤ i_n y) (kk : QW V y 0 (q_args as (i_n y)) [] h z (i_c y) (i_s y) Kr Kx) : QM V y as h z Kr Kx := by
  refine vx_ofWH (cc := i_b y) (maxL := i_n y) (ret := i_r y) (hh := i_h y) (ws' := q_big) hp (q_ws_with ht) ?_
  intro p e s m args below meth c s₁ B hml hv
  obtain ⟨rfl, hRep, hG⟩ := hv
  have hts := atoms_spec (ws := q_ws y) B.pre
  have C : q_Cx V y p (q_rm y) s m as.toArray meth c := ⟨B.exec, B.bytes, hml, B.returns, by rw [← ho]; exact findClass_of_methodNamed B.named, fun w hw => hts w (List.mem_cons_of_mem _ hw), B.notSynchronized, vx_table (x := i_y y) B (hts _ (by rw [q_ws_with ht]; exact List.mem_cons_self)), (name_of_methodNamed B.named B.method).1, hG, Nat.le_refl _, Nat.le_refl _⟩
  rw [lg_entry_eq]
  exact kk p e (q_rm y) s m as.toArray below meth c s.heap [] 0 0 _ _ C hRep (q_L.entry hl) va_S.rf (Nat.le_of_eq (Nat.zero_add _)) (Nat.le_of_eq (Nat.zero_add _)) (q_fin C)
/-- a call in a method with a table: what is thrown is caught by the row at place 'length pre' of the table, on the class that it names -/
theorem q_callVX {ix n ci a : Nat} {As rest : List Value} {fs : List Value} {T : u_T} {N : Nat} (d : decode (i_b y) pc = .ok (.invokevirtual ix, 3)) (k1 : Cond.methodLink (i_o y) ix (i_y y') ∈ q_big) (k2 : Cond.instanceMethod (i_y y') ∈ q_big) (k3 : Cond.selects (i_y y').cls (i_y y') (i_y y') ∈ q_big) (k4 : Cond.initialized (i_y y').cls ∈ q_big) (k5 : q_head y' ∈ q_big) (ht : i_h y' = [])
    (hd : (i_y y').cls ≠ "java/lang/invoke/MethodHandle" ∧ (i_y y').cls ≠ "java/lang/invoke/VarHandle" ∧ (parseMethodDescriptor (i_y y').desc).map (fun d => d.parameters.length) = some n) (hcl : vwCl[ci]? = some ((i_y y').cls, T, N)) (hn : As.length = n) (hf : i_f y' + 1 ≤ i_f y) (hl : 8 + (i_n y' + 11) + i_l y' ≤ i_l y) (hW : (rest.map fun v => v.category).sum ≤ 8) (hb : h a = some (.inr (ci, fs)))
    (Kc : String → q_H → Prop) (hcatch : ∀ (E : String) (h' : q_H), Kc E h' → ∃ (pre suf : List (Nat × Nat × Nat × Nat)) (x : Nat × Nat × Nat × Nat), i_h y = pre ++ x :: suf ∧ (∀ q ∈ pre, q.2.2.2 ≠ 0 ∧ ∃ nm, Cond.classLink (i_o y) q.2.2.2 nm ∈ q_big ∧ (E, nm) ∈ q_ncast) ∧ covers ⟨x.1, x.2.1, x.2.2.1, x.2.2.2⟩ pc = true ∧ x.2.2.2 ≠ 0 ∧ Cond.classLink (i_o y) x.2.2.2 E ∈ q_big ∧ (E, E) ∈ q_cast ∧ ∀ q : Nat, QW V y x.2.2.1 ls [.ref q] h' none bc bs Kr Kx)
    (hm : QM V y' (.ref a :: As) h z (fun v h' z' => QW V y (pc + 3) ls (v.toList ++ rest) h' z' bc bs Kr Kx) Kc) : QW V y pc ls (As.reverse ++ .ref a :: rest) h z (bc + i_c y') (bs + i_s y') Kr Kx := by
  intro p e R s m args below meth c H locs cells slots l0 Q C hR hL hS hc hs hF
  have hin : ∀ w ∈ wsV (i_o y) ix (i_y y').cls (i_y y') (q_ws y'), w ∈ q_big := fun w hw => by
    rcases List.mem_append.mp hw with hw | hw
    · simp only [List.mem_cons, List.not_mem_nil, or_false] at hw
      rcases hw with rfl | rfl | rfl | rfl <;> assumption
    · exact q_ws_in k5 w hw
  have hrun := vx_runV (As := As) (rest := rest) (g := F0 m pc l0 (As.reverse ++ .ref a :: rest)) (cells := cells) (slots := slots) (locs := locs) (H := H) (e := e) (below := below) (meth := meth) (R := R) ⟨C.x, C.b, C.n, C.own, C.w⟩ hm (cwV n C.w (q_good hin) (q_ws_code ht) rfl rfl ⟨rfl, hd⟩ ⟨Nat.le_trans hf C.f, Nat.le_trans hl C.l⟩)
    ⟨q_blind, va_recv C.K (hR.one hb) (q0 := 0) hcl rfl, q_pre C.g hR hS⟩ rfl hn hL.1.1 rfl (lv_room hW) d ⟨by omega, by omega⟩
  intro T0 hT X
  rcases hrun T0 hT X with ⟨v, st0, t, T', L, e0, X', hLc, e1, e2, ⟨v', h', z', hv, hk, hR', hFr⟩, st⟩ | ⟨q, st0, t, T', L, E, ce, e0, X', hLc, e1, e2, ⟨h', hk, hR', hFr⟩, hce, hcv, hcc, st⟩
  · cases hv
    obtain ⟨t2, a1, b1⟩ := hk p e R s m args below meth c T'.heap (locs ++ L) (cells + i_c y') (slots + i_s y') l0 Q C (by rw [e1]; exact hR') hL (q_S_call hS e0 e1 hFr hLc) (by omega) (by omega) hF T' rfl X'
    exact ⟨t2, st t2 a1, b1⟩
  · obtain ⟨pre, suf, x, hsp, hpass, hcov, hx0, hlk, hct, hgo⟩ := hcatch E h' hk
    have hS' := q_S_call hS e0 e1 hFr hLc
    have hsplit : c.exceptionTable.toList = tableOf pre ++ (⟨x.1, x.2.1, x.2.2.1, x.2.2.2⟩ : ExceptionTableEntry) :: tableOf suf := by rw [C.t, hsp]; simp [tableOf]
    obtain ⟨t2, a1, b1⟩ := vx_catch (own := i_o y) (name := E) (E := E) (ce := ce) (q := q) (p := p) (l := e_l V) (e := e) (R := R) (s := s) (m := m) (args := args) (below := below) (meth := meth) (c := c) (H := T'.heap) (locs := locs ++ L) (cells := cells + i_c y') (slots := slots + i_s y') (Q := Q) (ls := l0) (rest := rest) (pc := pc) C.own (tableOf pre) _ (tableOf suf) hsplit
      (fun z hz => by
        obtain ⟨q2, hq2, rfl⟩ := List.mem_map.mp hz
        obtain ⟨n0, nm, g1, g2⟩ := hpass q2 hq2
        exact Or.inr ⟨n0, nm, C.w _ g1, C.g.2.2.2.2.2.2.2.2.2.2.2.2.2.1 _ g2⟩) hcov hx0 (C.w _ hlk) (va_Nw.use rfl (C.g.2.2.2.2.2.2.2.2.2.2.2.2.1 _ hct)) (by rw [e1]; exact hce) hcv hcc
      (hgo q p e R s m args below meth c T'.heap (locs ++ L) (cells + i_c y') (slots + i_s y') l0 Q C (by rw [e1]; exact hR') hL hS' (by omega) (by omega) hF) T' rfl X'
    exact ⟨t2, st.trans a1, b1⟩
/-- throw new E("text") -/
theorem q_throwS {E tx : String} {ik is ic k : Nat} (d0 : decode (i_b y) pc = .ok (.new ik, 3)) (d3 : decode (i_b y) (pc + 3) = .ok (.dup, 1)) (d4 : decode (i_b y) (pc + 4) = .ok (.ldc is, 2)) (d6 : decode (i_b y) (pc + 6) = .ok (.invokespecial ic, 3)) (d9 : decode (i_b y) (pc + 9) = .ok (.athrow, 1)) (hty : i_h y = [])
    (k1 : Cond.classLink (i_o y) ik E ∈ q_big) (k2 : Cond.initialized E ∈ q_big) (k3 : (i_o y, is, tx, k) ∈ q_strs) (hE : Bundle.fit E = true) (hat : ∀ w ∈ vx_atS (i_o y) ic E ["java/lang/RuntimeException", "java/lang/Exception"], w ∈ q_big ∨ (∃ q ∈ q_decl, w = .declares q) ∨ ∃ q ∈ q_cast, w = .castable q.1 q.2)
    (hf : 6 ≤ i_f y) (hl : (st.map fun v => v.category).sum + 82 ≤ i_l y) (hk : Kx E h) : QW V y pc ls st h z (bc + 1) (bs + 6) Kr Kx := by
  intro p e R s m args below meth c H locs cells slots l0 Q C hR hL hS hc hs hF
  obtain ⟨Qc, XC, hQ, hX⟩ := hF.2 E h hk
  subst hQ
  have hg : ∀ w ∈ vx_atS (i_o y) ic E ["java/lang/RuntimeException", "java/lang/Exception"], w.before args s = true ∧ vx_ot w = true := fun w hw => by
    rcases hat w hw with q | ⟨q, hq, rfl⟩ | ⟨q, hq, rfl⟩
    · exact ⟨C.w w q, by unfold vx_ot; rw [(List.mem_filter.mp q).2, Bool.or_true]⟩
    · exact ⟨va_Nw.use rfl (C.g.2.2.2.2.2.2.2.2.2.2.2.1 q hq), rfl⟩
    · exact ⟨va_Nw.use rfl (C.g.2.2.2.2.2.2.2.2.2.2.2.2.1 q hq), rfl⟩
  refine vx_throwS (names := ["java/lang/RuntimeException", "java/lang/Exception"]) (A := e_F V) C.x C.b C.g.2.2.2.2.2.2.2.2.2.2.2.2.2.2.2 C.own hE (by decide +kernel) (C.w _ k1) (C.w _ k2) (C.g.2.2.2.2.1 _ k3) (fun w hw => (hg w hw).1) (fun w hw => ?_) C.g.2.1 C.g.2.2.1 hS (hL.1.1.trans C.n.symm) d0 d3 d4 d6 d9
    (by rw [C.t, hty]; exact fun x hx => nomatch hx) (by have := C.f; show 2 + 3 < _; omega) (by have := C.l; show _ + (13 * 3 + 43) ≤ _; omega) (by omega) (by omega) C.k (fun t hal hz hq => ?_) (fun x hx => hS.2.2 x hx) (by omega) (by omega)
  · rcases List.mem_cons.mp hw with rfl | hw
    · rfl
    · rcases List.mem_cons.mp hw with rfl | hw
      · rfl
      · exact (hg w hw).2
  · refine hX E h t hk ⟨fun a e2 he => ?_, fun n hn => (by cases hn), Nat.le_trans hR.2.2 hz⟩ ⟨Nat.le_trans hS.1 hz, fun x h1 h2 => (hq x (Nat.lt_of_lt_of_le h1 hS.1)).trans (hS.2.1 x h1 h2)⟩
    have h3 := hR.1 a e2 he
    exact ⟨h3.1, h3.2.kept (hq a h3.2.lt)⟩
theorem q_throwW {E tx : String} {ik is ic k : Nat} (d0 : decode (i_b y) pc = .ok (.new ik, 3)) (d3 : decode (i_b y) (pc + 3) = .ok (.dup, 1)) (d4 : decode (i_b y) (pc + 4) = .ok (.ldc_w is, 3)) (d7 : decode (i_b y) (pc + 7) = .ok (.invokespecial ic, 3)) (d10 : decode (i_b y) (pc + 10) = .ok (.athrow, 1)) (hty : i_h y = [])
    (k1 : Cond.classLink (i_o y) ik E ∈ q_big) (k2 : Cond.initialized E ∈ q_big) (k3 : (i_o y, is, tx, k) ∈ q_strs) (hE : Bundle.fit E = true) (hat : ∀ w ∈ vx_atS (i_o y) ic E ["java/lang/RuntimeException", "java/lang/Exception"], w ∈ q_big ∨ (∃ q ∈ q_decl, w = .declares q) ∨ ∃ q ∈ q_cast, w = .castable q.1 q.2)
    (hf : 6 ≤ i_f y) (hl : (st.map fun v => v.category).sum + 82 ≤ i_l y) (hk : Kx E h) : QW V y pc ls st h z (bc + 1) (bs + 6) Kr Kx := by
  intro p e R s m args below meth c H locs cells slots l0 Q C hR hL hS hc hs hF
  obtain ⟨Qc, XC, hQ, hX⟩ := hF.2 E h hk
  subst hQ
  have hg : ∀ w ∈ vx_atS (i_o y) ic E ["java/lang/RuntimeException", "java/lang/Exception"], w.before args s = true ∧ vx_ot w = true := fun w hw => by
    rcases hat w hw with q | ⟨q, hq, rfl⟩ | ⟨q, hq, rfl⟩
    · exact ⟨C.w w q, by unfold vx_ot; rw [(List.mem_filter.mp q).2, Bool.or_true]⟩
    · exact ⟨va_Nw.use rfl (C.g.2.2.2.2.2.2.2.2.2.2.2.1 q hq), rfl⟩
    · exact ⟨va_Nw.use rfl (C.g.2.2.2.2.2.2.2.2.2.2.2.2.1 q hq), rfl⟩
  refine vx_throwSW (names := ["java/lang/RuntimeException", "java/lang/Exception"]) (A := e_F V) C.x C.b C.g.2.2.2.2.2.2.2.2.2.2.2.2.2.2.2 C.own hE (by decide +kernel) (C.w _ k1) (C.w _ k2) (C.g.2.2.2.2.1 _ k3) (fun w hw => (hg w hw).1) (fun w hw => ?_) C.g.2.1 C.g.2.2.1 hS (hL.1.1.trans C.n.symm) d0 d3 d4 d7 d10
    (by rw [C.t, hty]; exact fun x hx => nomatch hx) (by have := C.f; show 2 + 3 < _; omega) (by have := C.l; show _ + (13 * 3 + 43) ≤ _; omega) (by omega) (by omega) C.k (fun t hal hz hq => ?_) (fun x hx => hS.2.2 x hx) (by omega) (by omega)
  · rcases List.mem_cons.mp hw with rfl | hw
    · rfl
    · rcases List.mem_cons.mp hw with rfl | hw
      · rfl
      · exact (hg w hw).2
  · refine hX E h t hk ⟨fun a e2 he => ?_, fun n hn => (by cases hn), Nat.le_trans hR.2.2 hz⟩ ⟨Nat.le_trans hS.1 hz, fun x h1 h2 => (hq x (Nat.lt_of_lt_of_le h1 hS.1)).trans (hS.2.1 x h1 h2)⟩
    have h3 := hR.1 a e2 he
    exact ⟨h3.1, h3.2.kept (hq a h3.2.lt)⟩
end QC
