/-! The law as a whole: its loop, its start, its end -/
section RELT
variable {V : q_En} {h : q_H} {z : Option Nat} {Kx : q_KX}
theorem law_more {N c : Nat} (hN : N ≤ 3072) (hc : c ≤ 512) (hh : ¬ nI N - 6 < nI (6 * c)) : 6 * c + 6 ≤ N := by
  have e1 : (nI N).toInt = N := nI_toInt (by omega)
  have e2 : (nI (6 * c)).toInt = ((6 * c : Nat) : Int) := nI_toInt (by omega)
  have e3 : (6 : Int32).toInt = 6 := by decide
  have e4 : (nI N - 6).toInt = (nI N).toInt - (6 : Int32).toInt := q_sub_i (by omega) (by omega)
  rw [Int32.lt_iff_toInt_lt] at hh
  omega
theorem LI.next {L c : Nat} (hI : LI h L c) : LI h L (c + 1) := by
  obtain ⟨S, M, f, g, hL, hM, ho, hd, hR⟩ := hI
  exact ⟨S, M, f, g, hL, hM, ho, hd, hR.cg (fun _ _ => rfl) (fun _ _ => rfl) (fun _ _ => rfl) (Nat.le_succ c)⟩
theorem Rel.start : Rel ls_0 mo_0 0 :=
  ⟨⟨Nat.zero_le _, ⟨0, by decide, by decide⟩, ⟨0, by decide, by decide⟩, ⟨0, by decide, by decide⟩, by decide, by decide⟩, ⟨by decide, fun k hk => absurd hk (Nat.not_lt_zero k)⟩, by decide, by decide, by decide, fun e => absurd e (by decide), fun _ i _ => rfl⟩
theorem q_up_o {a : Nat} {e : q_E} : q_out a 1 h (q_up h a e) := fun q hq => q_up_n (by omega)
/-- the law's loop, before call c of the 512 -/
theorem law_loop {L : Nat} (hn : e_sL V ≤ 3072) : ∀ (n c : Nat) (h : q_H) (z : Option Nat), n + c = 512 → LI h L c → QW V iL_law 28 (lawls V L (nI (6 * c)) none none none) [] h z (6 * n) (36 * n) (q_Ki (fun r _ _ => r = 1)) Kx := by
  intro n
  induction n with
  | zero =>
    intro c h z hc hI
    refine wL_law_28 ?_
    refine wL_law_30 ?_
    refine wL_law_31 ?_
    refine wL_law_32 ?_
    refine wL_law_34 ?_
    refine wL_law_35 (fun _ => ?_) (fun c35 => ?_)
    · refine wL_law_2757 ?_
      exact wL_law_2758 rfl
    · exfalso
      have := law_more hn (by omega) c35
      omega
  | succ n ih =>
    intro c h z hc hI
    have hk : ∀ h2 z2, LI h2 L (c + 1) → QW V iL_law 2751 (lawls V L (nI (6 * c)) none none none) [] h2 z2 (6 * n) (36 * n) (q_Ki (fun r _ _ => r = 1)) Kx := fun h2 z2 hI2 => by
      have e6 : nI (6 * c) + 6 = nI (6 * (c + 1)) := (nI_add (6 * c) 6).trans (congrArg nI (by omega))
      refine wL_law_2751 ?_
      rw [e6]
      refine wL_law_2754 ?_
      exact ih (c + 1) h2 z2 (by omega) hI2
    refine q_budle (bc' := 6 * n + 6) (bs' := 36 * n + 36) (by omega) (by omega) ?_
    refine wL_law_28 ?_
    refine wL_law_30 ?_
    refine wL_law_31 ?_
    refine wL_law_32 ?_
    refine wL_law_34 ?_
    refine wL_law_35 (fun _ => ?_) (fun c35 => ?_)
    · refine wL_law_2757 ?_
      exact wL_law_2758 rfl
    · have hj : 6 * c + 6 ≤ e_sL V := law_more hn (by omega) c35
      have hc2 : c < 512 := by omega
      refine wL_law_38 ?_
      refine wL_law_39 ?_
      refine wL_law_41 (j := 6 * c) rfl (by omega) (by omega) ?_
      refine wL_law_42 ?_
      refine wL_law_44 ?_
      exact wL_law_45 (fun _ => law_append hI hc2 hj hn hk) (fun _ => law_truncate hI hc2 hj hn hk) (fun _ => law_load hI hc2 hj hn hk) (fun _ => law_errorPosition hI hc2 hj hn hk) (fun _ => law_makeOffer hI hc2 hj hn hk) (fun _ => law_sign hI hc2 hj hn hk) (fun _ => law_release hI hc2 hj hn hk) (fun _ => law_trade hI hc2 hj hn hk) (fun _ => law_nextYear hI hc2 hj hn hk) (fun _ => law_year hI hc2 hj hn hk) (fun _ => law_cap hI hc2 hj hn hk) (fun _ => law_taxLine hI hc2 hj hn hk) (fun _ => law_offer hI hc2 hj hn hk) (fun _ => law_charge hI hc2 hj hn hk) (fun _ => law_deadMoney hI hc2 hj hn hk) (fun _ => law_room hI hc2 hj hn hk) (fun _ => law_tax hI hc2 hj hn hk) (fun _ => law_paid hI hc2 hj hn hk) (fun _ => law_taxedYears hI hc2 hj hn hk) (fun _ => law_midLevel hI hc2 hj hn hk) (fun _ => law_roster hI hc2 hj hn hk) (fun _ => law_teamRank hI hc2 hj hn hk) (fun _ => law_playerValue hI hc2 hj hn hk) (fun _ => law_salary hI hc2 hj hn hk) (fun _ => law_share hI hc2 hj hn hk) (fun _ => law_playerRank hI hc2 hj hn hk) (fun _ => law_meanSalary hI hc2 hj hn hk) (fun _ => law_signCode hI hc2 hj hn hk) (fun _ => law_bestRule hI hc2 hj hn hk) (fun _ => law_greatestBase hI hc2 hj hn hk) (fun _ => law_releaseCost hI hc2 hj hn hk) (fun _ => law_releaseGain hI hc2 hj hn hk) (fun _ => law_fewestReleases hI hc2 hj hn hk) (fun _ => law_releaseSet hI hc2 hj hn hk) (fun _ => law_tradeCode hI hc2 hj hn hk) (fun _ => law_swapCount hI hc2 hj hn hk) (fun _ => law_bestSwap hI hc2 hj hn hk) (fun _ => law_taxAhead hI hc2 hj hn hk) (fun _ => law_undo hI hc2 hj hn hk) (fun _ => q_budle (bc' := 6 * n) (bs' := 36 * n) (by omega) (by omega) (hk _ _ hI.next))
theorem law_start {L : Nat} (hn : e_sL V ≤ 3072) : QW V iL_law 0 [some (.ref (e_sb V)), none, none, none, none, none, none, none, none] [] h (some L) 3828 30234 (q_Ki (fun r _ _ => r = 1)) Kx := by
  refine q_budle (bc' := 6 * 512 + 1 + 1 + 12 + 1 + 740 + 1) (bs' := 36 * 512 + 1 + 1 + 5831 + 35 + 5923 + 11) (by omega) (by omega) ?_
  refine wL_law_0 ?_
  refine wL_law_3 ?_
  refine wL_law_4 (mX8_init q_up_s (fun h2 hL hq => ?_))
  refine wL_law_7 ?_
  refine wL_law_8 ?_
  refine wL_law_11 ?_
  refine wL_law_12 (mX9_init q_up_s (fun h3 hM hq3 => ?_))
  refine wL_law_15 ?_
  refine wL_law_16 ?_
  refine wL_law_17 (N := 1) rfl (by decide) ?_
  refine wL_law_19 ?_
  refine wL_law_20 ?_
  refine wL_law_21 (N := 1) rfl (by decide) ?_
  refine wL_law_23 ?_
  refine wL_law_25 ?_
  refine wL_law_26 ?_
  refine law_loop hn 512 0 _ _ rfl ⟨ls_0, mo_0, _, _, ?_, ?_, (q_up_n (by omega)).trans q_up_s, q_up_s, Rel.start⟩
  · exact (((hL.o q_up_o (Or.inl (Nat.le_refl _))).o hq3 (Or.inl (Nat.le_refl _))).o q_up_o (Or.inl (by omega))).o q_up_o (Or.inl (by omega))
  · exact hM.oo (fun q a1 a2 => (q_up_n (by omega)).trans (q_up_n (by omega)))
end RELT
def R_law : String := "SalaryCapLedgerLaw"
def lw_P (b : Addr) (xs : List Int32) (args : Array Value) (s : State) : Prop := args = #[.ref b] ∧ s.IntsAt b xs ∧ xs.length ≤ 3072 ∧ (Jvm.Cond.and given_1 narrow_1).before args s = true
theorem lw_closed {s t : State} {o : Outcome} {d0 : Drawn} {L : List Loc} {k n : Nat} (hd0 : s.drawn.sameBut d0 lw_cs) (hv : ∃ v, o = .returned v) (hW : (s.setDrawn d0).WarmedH t.vm) (hs : (s.setDrawn d0).sameButNew ({ t with vm := s.vm } : State) L k n) : State.butDraws s t lw_cs (fun t1 => Framed s o t1 L k n) := by
  have h2 : t.drawn = d0 := congrArg State.drawn hs.1
  refine ⟨⟨hv, hW, State.sameButNew.setDrawn hs s.drawn⟩, ?_, by decide⟩
  rw [h2]
  exact hd0
def lw_Q (_ : Array Value) (s : State) (o : Outcome) (t : State) : Prop := o = .returned (some (.int 1)) ∧ State.butDraws s t lw_cs (fun t1 => Framed s o t1 [] 603072 7092330)
def lw_Z (below : List Frame) (a : Array Value) (s : State) : State → Prop := fun t => ∃ o, t.status = .running ∧ Ended t below o ∧ lw_Q a s o t
theorem lw_ret {p : Program} {l : Launch} {e : Env} {s : State} {m : MethodId} {below : List Frame} {meth : Method} {c : Code} {b : Nat} {d0 : Drawn} (hd0 : s.drawn.sameBut d0 lw_cs) (hx : p.tables.exec = Jvm.exec) (hb : c.code = code) (hr : meth.sig.returnType = ret) (hlocks : meth.locks = false) {pc : Nat} {H : Heap} {ls : Array Slot} (hdg : decode code pc = .ok (.ireturn, 1)) : W p l e room_1 (s.setDrawn d0) m #[Value.ref b] below meth c H [] 603072 7092330 (lw_Z below #[Value.ref b] s) (F0 m pc ls [.int 1]) := by
  intro T hT X
  obtain ⟨fs, hret, hrun, hended, hW, hframe⟩ := X.leave (v := some (.int 1)) (hlocks := hlocks) (fun h => by rw [hr] at h; cases h)
  have hmeth' : T.vm.method? m = some meth := X.method'
  refine ⟨T.setFrames fs, ?_, .returned (some (.int 1)), hrun, hended, rfl, lw_closed hd0 ⟨_, rfl⟩ hW hframe⟩
  jvm_step X.here [X.here.top, hx, hb, hdg, hmeth', hr, ret, narrow_b1]
  (try refine ⟨rfl, ?_⟩); (try refine ⟨rfl, ?_⟩)
  first | (intro acts; rw [hret _ acts rfl rfl rfl]) | rw [hret _ _ rfl rfl rfl]
  exact Steps.refl _
def lw_At (p : Program) (s : State) (m : MethodId) (meth : Method) (c : Code) (b L : Nat) (xs : Nat → Int32) : Prop :=
  p.tables.exec = Jvm.exec ∧ c.code = code ∧ meth.sig.returnType = ret ∧ c.maxLocals = 9 ∧ s.vm.findClass R_law = some m.cls ∧ (∀ w ∈ lw_tbl, w.before #[Value.ref b] s = true) ∧ va_X b L xs s s.heap ∧ b < s.heap.size ∧ meth.locks = false ∧ (Jvm.Cond.and given_1 narrow_1).before #[Value.ref b] s = true ∧ c.exceptionTable.toList = [] ∧ meth.name = (i_y iL_law).name
theorem whole_start {p : Program} {e : Env} {s : State} {m : MethodId} {below : List Frame} {meth : Method} {c : Code} (l : Launch) (hflags : l.flags = flags0) {b L : Nat} {xs : Nat → Int32} (hL : L ≤ 3072) (C0 : lw_At p s m meth c b L xs) : W p l e room_1 s m #[Value.ref b] below meth c s.heap [] 0 0 (lw_Z below #[Value.ref b] s) (entryFrame m ([Value.ref b] : List Value).toArray 9) := by
  obtain ⟨hx, hbc, hr, hml, hown, hts, hX, hbl, hk, hgv, htab, hnm⟩ := C0
  have hf : l.stackTraces = false := by
    unfold Launch.stackTraces
    rw [hflags]
    decide +kernel
  obtain ⟨V, rfl, eB, rfl, rfl, hG⟩ := s_G hts hgv hf hX hbl
  rw [lg_entry_eq]
  refine law_start (V := V) (L := e_B V) (h := fun _ => none) (Kx := fun _ _ => False) hL p e room_1 s m #[Value.ref (e_sb V)] below meth c s.heap [] 0 0 _ _ ⟨hx, hbc, hml, hr, hown, q_ht hts, hk, htab, hnm, hG, Nat.le_of_ble_eq_true rfl, Nat.le_of_ble_eq_true rfl⟩ ⟨fun a e he => ?_, fun n hn => ?_, Nat.le_of_eq eB⟩ (q_L.entry (as := [.ref (e_sb V)]) (n := 9) (Nat.le_of_ble_eq_true rfl)) va_S.rf (Nat.le_of_ble_eq_true rfl) (Nat.le_of_ble_eq_true rfl) ⟨fun v h' z' H' locs' cells' slots' pc' l' hv hR' hS' hc' hs' hret => ?_, fun E h' hk' => hk'.elim⟩
  · have he2 : (none : Option q_E) = some e := he
    cases he2
  · cases hn; exact eB.symm
  · obtain ⟨r, rfl, rfl⟩ := hv
    have hd : decode code pc' = .ok (.ireturn, 1) := by
      rcases hret with ⟨x1, ty, q1, d, q2⟩ | ⟨x1, q1, q2⟩ | ⟨x1, q1, q2⟩ | ⟨q1, q2⟩
      · exact d
      · cases q1
      · cases q1
      · cases q1
    refine va_forget (fun q hq => ?_) ?_
    · have h1 : e_B V ≤ q.base := hS'.2.2 q hq
      omega
    · refine W.widen (k := 603072) (n := 7092330) hc' hs' ?_
      refine W.base ?_
      exact lw_ret (Drawn.sameBut.refl s.drawn lw_cs) hx hbc hr hk hd
set_option maxHeartbeats 4000000 in
theorem lw_walk (l : Launch) (hflags : l.flags = flags0) (b : Addr) (xs : List Int32) : MetFree l x (headSpec (Jvm.Cond.code x code maxLocals ret :: tables_1) room_1) (lw_P b xs) (fun _ _ _ _ _ => True) lw_Q := by
  refine MetFree.of_bodyS (code := code) (maxLocals := maxLocals) (ret := ret) (by decide) ?_ ?_
  · intro args s m h hn
    obtain ⟨meth, c, h1, h2, h3, h4, h5, h6, -, -⟩ := Cond.code_spec hn (atoms_spec (ws := Jvm.Cond.code x code maxLocals ret :: tables_1) h _ List.mem_cons_self)
    exact ⟨meth, c, h1, h2, h3, h4, h5, h6⟩
  · intro p e s m args below meth c s₁ B hml0 hP _
    obtain ⟨rfl, hx, hbd, hgv⟩ := hP
    obtain ⟨scr, harrAt, hlist, hof, hsmall⟩ := hx
    obtain ⟨hcb, hkn, -, -⟩ := State.arrayAt?_spec harrAt
    have hown : s.vm.findClass R_law = some m.cls := findClass_of_methodNamed B.named
    have hts0 : ∀ c ∈ (Jvm.Cond.code x code maxLocals ret :: tables_1), c.before #[Value.ref b] s = true := atoms_spec (ws := Jvm.Cond.code x code maxLocals ret :: tables_1) B.pre
    have hts : ∀ w ∈ lw_tbl, w.before #[Value.ref b] s = true := k2_hts_sels lw_privs (fun w hw => hts0 w (List.mem_cons_of_mem _ hw)) lw_privs_ok
    have hml : c.maxLocals = 9 := B.maxLocals_eq (hts0 _ List.mem_cons_self)
    have X₀ : Stand p l e room_1 s m #[Value.ref b] below meth c s₁ [] 0 0 := Stand.of_body B
    have hh0 : s₁.heap = s.heap := by rw [B.state]; rfl
    have hsz : scr.slots.size = xs.length := by rw [← Array.length_toList, hlist, List.length_map]
    have hval : ∀ j : Nat, j < xs.length → scr.slots[j]? = some (.int (xs.getD j 0)) := fun j hj => by
      rw [← Array.getElem?_toList, hlist]
      simp [hj]
    have hbl : b < s.heap.size := (Array.getElem?_eq_some_iff.mp hcb).1
    have hX : va_X b xs.length (fun j => xs.getD j 0) s s.heap := ⟨scr, hcb, hof, hkn, hsz, hval⟩
    have he0 : c.exceptionTable.isEmpty = true := B.noHandlers (hts0 _ List.mem_cons_self)
    have htab : c.exceptionTable.toList = [] := by
      have h0 : c.exceptionTable.size = 0 := by simpa [Array.isEmpty] using he0
      exact List.eq_nil_of_length_eq_zero (by simpa using h0)
    have K : W p l e room_1 s m #[Value.ref b] below meth c s₁.heap [] 0 0 (lw_Z below #[Value.ref b] s) (entryFrame m ([Value.ref b] : List Value).toArray 9) := by
      rw [hh0]
      exact whole_start l hflags hbd ⟨B.exec, B.bytes, B.returns, hml, hown, hts, hX, hbl, B.notSynchronized, hgv, htab, (name_of_methodNamed B.named B.method).1⟩
    obtain ⟨t, a1, o, b1, b2, b3⟩ := K s₁ rfl X₀
    exact ⟨t, o, a1, b1, b2, b3⟩
theorem lw_pre_spec {args : Array Value} {s : State} (h : (Jvm.Cond.and given_1 narrow_1).before args s = true) (hr : rest_1_c.before args s = true) : ∃ (b : Addr) (xs : List Int32), lw_P b xs args s := by
  have hs := flat_of_before _ h
  have hq := flat_of_before _ hr
  have hc : (Cond.count 1).before args s = true := hs _ (by decide +kernel)
  have harr : (Cond.arrayOf (.arg 0) .int).before args s = true := hs _ (by decide +kernel)
  have hle : (Cond.le (.length (.arg 0)) (.int 3072)).before args s = true := hs _ (by decide +kernel)
  have hlen : (Cond.isInt (.length (.arg 0))).before args s = true := hq _ (by decide +kernel)
  have hall : (Cond.all (.arg 0) (.isInt (.elem (.arg 0) (.index 0)))).before args s = true := hq _ (by decide +kernel)
  obtain ⟨b, xs, hb, hx⟩ := State.ints_of_pre rfl harr hlen hall
  have hsm : xs.length < 2 ^ 31 := hx.choose_spec.2.2.2
  have hev : (Term.length (.arg 0)).eval args s none [] s = some (.int xs.length.toInt32) := hx.length_eval hb
  have hv := Cond.le_ints hev (show (Term.int 3072).eval args s none [] s = some (.int 3072) from rfl)
  have hd : xs.length.toInt32 ≤ 3072 := by
    simpa [Cond.before, Cond.holds, hv] using hle
  have hN : xs.length ≤ 3072 := (Int32.ofNat_le_ofNat hsm (by decide)).mp (show Int32.ofNat xs.length ≤ Int32.ofNat 3072 from hd)
  exact ⟨b, xs, Cond.one_arg hc (show args[0]? = some (.ref b) from hb), hx, hN, h⟩
theorem lw_comes (l : Launch) (hflags : l.flags = flags0) : Comes l x (Jvm.Cond.code x code maxLocals ret :: tables_1) room_1 (fun tb e args s => Calls_1 tb e args s ∧ rest_1 tb e args s ∧ Pre_1 tb e args s)
    (fun _ _ args s o t => lw_Q args s o t) := by
  intro p e ha hc hk s m args below hf hfit hheap happ hpre
  obtain ⟨b, xs, hP⟩ := lw_pre_spec hpre.2.2 hpre.2.1
  obtain ⟨k, o, h1, h2, h3, hQ⟩ := lw_walk l hflags b xs p e ha hc hk s m args below hf ((Spec.applies_iff_loose hf).mp happ).1 hP trivial
  exact ⟨k, o, h1, h2, h3, hQ⟩
theorem lw_frame {s t : State} {o : Outcome} {args : Array Value} (h : State.butDraws s t lw_cs (fun t1 => Framed s o t1 [] 603072 7092330)) :
    State.butDraws s t [Jvm.Choice.named "NaN.bits"] (fun t1 => Framed s o t1 (fieldLocs frame_1_writes args s ++ arrayLocs frame_1_arrays args s ++ staticLocs frame_1_statics s) 603072 7092330) := h
theorem lw_limb (L : Cond) (hL : ∀ (args : Array Value) (s t : State), L.after args s (.returned (some (.int 1))) t = true) :
    ArmFor flags0 classFile x code maxLocals ret World_1 tables_1 room_1 Calls_1 rest_1 Pre_1
      (fun tb e a s o t => postC L tb e a s o t ∧ State.butDraws s t [Jvm.Choice.named "NaN.bits"] (fun t1 => Framed s o t1 (fieldLocs frame_1_writes a s ++ arrayLocs frame_1_arrays a s ++ staticLocs frame_1_statics s) 603072 7092330)) := by
  intro l hflags _ _ p e ha hc hk s m args below hf hfit hheap happ hpre
  obtain ⟨k, o, h1, h2, h3, rfl, hF⟩ := lw_comes l hflags p e ha hc hk s m args below hf hfit hheap happ hpre
  exact ⟨k, _, h1, h2, h3, hL args s _, lw_frame hF⟩
theorem i_vc : Claimed_1_1 ∧ Claimed_1_2 := ⟨lw_limb limb_1_1 (fun args s t => by simp [limb_1_1, Cond.after, Cond.holds, Cond.value]), lw_limb limb_1_2 (fun args s t => Cond.after_iff.mpr (by
  first | (rw [show limb_1_2 = Cond.eq .result (.int 1) from rfl, Cond.eq_ints (x := 1) (y := 1) rfl rfl]; simp; done) | (simp [limb_1_2, Cond.value, Term.eval]; done)))⟩
