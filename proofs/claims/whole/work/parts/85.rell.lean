/-! The text on both sides: append, truncate, load -/
section RELL
theorem l_bt_e (w s : Int32) : l_bt w s = (q_us w s).toInt8.toInt32 := by
  show ((q_us w s).toInt8.toInt32).toInt8.toInt32 = _
  rw [Int8.toInt8_toInt32]
theorem l_bt_bt (w s : Int32) : bt (l_bt w s) := by
  rw [l_bt_e]
  have h1 := (q_us w s).toInt8.toInt_lt
  have h2 := (q_us w s).toInt8.le_toInt
  refine ⟨Int32.le_iff_toInt_le.mpr ?_, Int32.le_iff_toInt_le.mpr ?_⟩
  · rw [Int8.toInt_toInt32, show (-128 : Int32).toInt = -128 from by decide]; omega
  · rw [Int8.toInt_toInt32, show (127 : Int32).toInt = 127 from by decide]; omega
theorem l_bt_255 {w : Int32} {k : Nat} (hk : k ≤ 24) : (w >>> (nI k &&& 31)) &&& 255 = l_bt w (nI k) &&& 255 := by
  rw [l_bt_e]
  have e : (nI k &&& 31).toBitVec.smod 32 = BitVec.ofNat 32 k := (by decide : ∀ k, k < 32 → (nI k &&& 31).toBitVec.smod 32 = BitVec.ofNat 32 k) k (by omega)
  have e2 : ((nI k).toUInt32 &&& Int32.toUInt32 31).toNat = k := (by decide : ∀ k, k < 32 → ((nI k).toUInt32 &&& Int32.toUInt32 31).toNat = k) k (by omega)
  refine Int32.toBitVec_inj.mp (BitVec.eq_of_getLsbD_eq (fun i hi => ?_))
  have hb : (Int32.toBitVec 255).getLsbD i = decide (i < 8) := (by decide : ∀ i, i < 32 → (Int32.toBitVec 255).getLsbD i = decide (i < 8)) i hi
  rw [Int32.toBitVec_and, Int32.toBitVec_and, BitVec.getLsbD_and, BitVec.getLsbD_and, hb]
  by_cases h8 : i < 8
  · have a1 : (w >>> (nI k &&& 31)).toBitVec.getLsbD i = w.toBitVec.getLsbD (k + i) := by
      rw [Int32.toBitVec_shiftRight, e, BitVec.sshiftRight', BitVec.getLsbD_sshiftRight, BitVec.toNat_ofNat, Nat.mod_eq_of_lt (by omega), decide_eq_false (show ¬ 32 ≤ i by omega), if_pos (show k + i < 32 by omega)]; rfl
    have a2 : (q_us w (nI k)).toInt8.toInt32.toBitVec.getLsbD i = (q_us w (nI k)).toBitVec.getLsbD i := by
      rw [Int8.toBitVec_toInt32, Int32.toBitVec_toInt8, BitVec.getLsbD_signExtend, decide_eq_true hi, if_pos h8, BitVec.getLsbD_signExtend, decide_eq_true h8, if_pos hi]; rfl
    have a3 : (q_us w (nI k)).toBitVec.getLsbD i = (q_T (q_us w (nI k))).testBit i := rfl
    rw [a1, a2, a3, q_T_us e2 (by omega), Nat.testBit_div_two_pow, Nat.add_comm i k]; rfl
  · rw [decide_eq_false h8, Bool.and_false, Bool.and_false]
/-- the text on both sides -/
def TX (S : q_Ls) (M : q_Mo) : Prop := M.1 16 = nI (ls_n S) ∧ ∀ k, k < ls_n S → bt (ls_f S k) ∧ M.2.2 5 k = ls_f S k &&& 255
theorem TX.w {S : q_Ls} {M : q_Mo} (h : TX S M) (w : Int32) : TX (ls_w S w) (mb_w M (ls_n S) w) := by
  obtain ⟨h1, h2⟩ := h
  have b0 := l_bt_255 (w := w) (k := 24) (by decide)
  have b1 := l_bt_255 (w := w) (k := 16) (by decide)
  have b2 := l_bt_255 (w := w) (k := 8) (by decide)
  have b3 := l_bt_255 (w := w) (k := 0) (by decide)
  refine ⟨rfl, fun k hk => ?_⟩
  have hk : k < ls_n S + 1 + 1 + 1 + 1 := hk
  show bt (upd (upd (upd (upd (ls_f S) (ls_n S) (l_bt w 24)) (ls_n S + 1) (l_bt w 16)) (ls_n S + 1 + 1) (l_bt w 8)) (ls_n S + 1 + 1 + 1) (l_bt w 0) k) ∧ upd (upd (upd (upd (M.2.2 5) (ls_n S) ((w >>> (24 &&& 31)) &&& 255)) (ls_n S + 1) ((w >>> (16 &&& 31)) &&& 255)) (ls_n S + 2) ((w >>> (8 &&& 31)) &&& 255)) (ls_n S + 3) ((w >>> (0 &&& 31)) &&& 255) k = upd (upd (upd (upd (ls_f S) (ls_n S) (l_bt w 24)) (ls_n S + 1) (l_bt w 16)) (ls_n S + 1 + 1) (l_bt w 8)) (ls_n S + 1 + 1 + 1) (l_bt w 0) k &&& 255
  simp only [upd_at]
  by_cases e3 : k = ls_n S + 3
  · subst e3
    rw [if_pos rfl, if_pos rfl]; exact ⟨l_bt_bt w 0, b3⟩
  rw [if_neg (show ¬ k = ls_n S + 1 + 1 + 1 from e3), if_neg e3]
  by_cases e2 : k = ls_n S + 2
  · subst e2
    rw [if_pos rfl, if_pos rfl]; exact ⟨l_bt_bt w 8, b2⟩
  rw [if_neg (show ¬ k = ls_n S + 1 + 1 from e2), if_neg e2]
  by_cases e1 : k = ls_n S + 1
  · subst e1
    rw [if_pos rfl, if_pos rfl]; exact ⟨l_bt_bt w 16, b1⟩
  rw [if_neg e1, if_neg e1]
  by_cases e0 : k = ls_n S
  · subst e0
    rw [if_pos rfl, if_pos rfl]; exact ⟨l_bt_bt w 24, b0⟩
  rw [if_neg e0, if_neg e0]
  exact h2 k (by omega)
theorem TX.a {S : q_Ls} {M : q_Mo} (h : TX S M) (a b c d e : Int32) : TX (ls_w (ls_w (ls_w (ls_w (ls_w S a) b) c) d) e) (mb_a M (ls_n S) a b c d e) :=
  ((((h.w a).w b).w c).w d).w e
/-- what a call on the text changes -/
theorem Rel.txt {S S' : q_Ls} {M M' : q_Mo} {c c' : Nat} (h : Rel S M c) (eS : S'.2.2.2 = S.2.2.2) (hn : ls_n S' ≤ 900) (ht : TX S' M') (he : M'.1 23 = ls_e S') (e1 : ∀ k, (k = 2 ∨ k = 3 ∨ (5 ≤ k ∧ k ≤ 12)) → M'.1 k = M.1 k) (e2 : M'.2.1 = M.2.1) (e3 : ∀ k, (k = 3 ∨ k = 4) → M'.2.2 k = M.2.2 k) (hc : c ≤ c') : Rel S' M' c' := by
  obtain ⟨n, f, e, R⟩ := S
  obtain ⟨n', f', e', R'⟩ := S'
  have eS : R' = R := eS
  subst eS
  obtain ⟨⟨o1, o2⟩, -, -, h5, h6, h7, h8⟩ := h
  refine ⟨⟨hn, o2⟩, ht, he, (e1 3 (by omega)).trans h5, (e1 2 (by omega)).trans h6, fun l => ?_, h8⟩
  obtain ⟨nt, np, nb, w, hE, hB, hH⟩ := h7 l
  refine ⟨nt, np, nb, w, RE.cg hE (fun k k1 k2 => e1 k (by omega)) (e3 3 (by omega)) (e3 4 (by omega)), ?_, ?_⟩
  · rw [show m_r M' = m_r M from congrFun e2 1]; exact RY.cgr hB (fun _ _ => rfl) hc
  · rw [congrFun e2 2]
    intro i hi
    obtain ⟨w', hw'⟩ := hH i hi
    exact ⟨w', hw'.cgr (fun _ _ => rfl) hc⟩
theorem mb_w_1 {M : q_Mo} {n k : Nat} {x : Int32} (hk : ¬ k = 16) : (mb_w M n x).1 k = M.1 k := if_neg hk
theorem mb_w_5 {M : q_Mo} {n k : Nat} {x : Int32} (hk : ¬ k = 5) : (mb_w M n x).2.2 k = M.2.2 k := if_neg hk
theorem ls_w_r {S : q_Ls} {w : Int32} : (ls_w S w).2.2 = S.2.2 := rfl
theorem ls_w_n {S : q_Ls} {w : Int32} : ls_n (ls_w S w) = ls_n S + 4 := rfl
theorem ls_w5 {S : q_Ls} {a b d e g : Int32} : (ls_w (ls_w (ls_w (ls_w (ls_w S a) b) d) e) g).2.2 = S.2.2 := by rw [ls_w_r, ls_w_r, ls_w_r, ls_w_r, ls_w_r]
theorem ls_w5n {S : q_Ls} {a b d e g : Int32} : ls_n (ls_w (ls_w (ls_w (ls_w (ls_w S a) b) d) e) g) = ls_n S + 20 := by rw [ls_w_n, ls_w_n, ls_w_n, ls_w_n, ls_w_n]
theorem mb_w_2 {M : q_Mo} {n : Nat} {x : Int32} : (mb_w M n x).2.1 = M.2.1 := rfl
theorem Rel.app {S : q_Ls} {M : q_Mo} {c : Nat} (h : Rel S M c) (hn : ls_n S + 20 ≤ 900) (a b d e g : Int32) : Rel (ls_w (ls_w (ls_w (ls_w (ls_w S a) b) d) e) g) (mb_a (mS M 4 0) (ls_n S) a b d e g) (c + 1) := by
  have n1 : ∀ k, ¬ k = 16 → ¬ k = 4 → (mb_a (mS M 4 0) (ls_n S) a b d e g).1 k = M.1 k := fun k h1 h2 => by
    unfold mb_a
    rw [mb_w_1 h1, mb_w_1 h1, mb_w_1 h1, mb_w_1 h1, mb_w_1 h1]; exact if_neg h2
  have n2 : ∀ k, ¬ k = 5 → (mb_a (mS M 4 0) (ls_n S) a b d e g).2.2 k = M.2.2 k := fun k h1 => by
    unfold mb_a
    rw [mb_w_5 h1, mb_w_5 h1, mb_w_5 h1, mb_w_5 h1, mb_w_5 h1]
  have n3 : (mb_a (mS M 4 0) (ls_n S) a b d e g).2.1 = M.2.1 := by
    unfold mb_a
    rw [mb_w_2, mb_w_2, mb_w_2, mb_w_2, mb_w_2]
  have hT : TX (ls_w (ls_w (ls_w (ls_w (ls_w S a) b) d) e) g) (mb_a (mS M 4 0) (ls_n S) a b d e g) := TX.a (M := mS M 4 0) ⟨h.2.1.1, h.2.1.2⟩ a b d e g
  have e1 := ls_w5 (S := S) (a := a) (b := b) (d := d) (e := e) (g := g)
  have e2 := ls_w5n (S := S) (a := a) (b := b) (d := d) (e := e) (g := g)
  generalize ls_w (ls_w (ls_w (ls_w (ls_w S a) b) d) e) g = S' at hT e1 e2 ⊢
  generalize mb_a (mS M 4 0) (ls_n S) a b d e g = M' at hT n1 n2 n3 ⊢
  have e3 : ls_e S' = ls_e S := congrArg Prod.fst e1
  exact Rel.txt h (congrArg Prod.snd e1) (by omega) hT ((n1 23 (by decide) (by decide)).trans (h.2.2.1.trans e3.symm)) (fun k hk => n1 k (by omega) (by omega)) n3 (fun k hk => n2 k (by omega)) (Nat.le_succ c)
theorem Rel.tru {S : q_Ls} {M : q_Mo} {c n : Nat} (h : Rel S M c) (hn : n ≤ ls_n S) : Rel (ls_sN S n) (mS (mS M 4 0) 16 (nI n)) (c + 1) := by
  have n1 : ∀ k, ¬ k = 16 → ¬ k = 4 → (mS (mS M 4 0) 16 (nI n)).1 k = M.1 k := fun k h1 h2 => (if_neg h1).trans (if_neg h2)
  exact Rel.txt h rfl (Nat.le_trans hn h.1.1) ⟨rfl, fun k hk => h.2.1.2 k (Nat.lt_of_lt_of_le hk hn)⟩ ((n1 23 (by decide) (by decide)).trans h.2.2.1) (fun k hk => n1 k (by omega) (by omega)) rfl (fun _ _ => rfl) (Nat.le_succ c)
theorem Rel.lf {S : q_Ls} {M M2 : q_Mo} {c : Nat} {ea : Int32} (h : Rel S M c) (hf : q_lf M M2) (h16 : M2.1 16 = 0) (h23 : M2.1 23 = ea) : Rel (0, ls_f S, ea, ls_l S, ls_T S, ls_B S, ls_H S) M2 (c + 1) :=
  Rel.txt h rfl (Nat.zero_le _) ⟨h16, fun k hk => absurd hk (Nat.not_lt_zero k)⟩ h23 (fun k hk => hf.2.2 k (by omega) (by omega)) hf.1 (fun k hk => hf.2.1 k (by omega)) (Nat.le_succ c)
theorem rd_bl_keepY {f : Nat → Int32} {n k : Nat} {r : q_Rd} {T : q_Te} {Y : q_Rd × q_Te} (hy : rd_bl f n k r T = Y) : te_c Y.2 = te_c T ∧ te_l Y.2 = te_l T ∧ te_m Y.2 = te_m T ∧ te_u Y.2 = te_u T := by
  subst hy
  obtain ⟨h1, h2, h3⟩ := rd_bl_keep (f := f) n k r T
  exact ⟨h1, h2, congrArg Prod.fst h3, congrArg (fun x => x.2.1) h3⟩
theorem te_lT {T : q_Te} {a b c d e : Int32} : te_c (te_sN (te_sU (te_sM (te_gl T a b c) d) e) 0) = (fun k => (te_g a c k).toInt32) ∧ te_l (te_sN (te_sU (te_sM (te_gl T a b c) d) e) 0) = (fun k => (te_g b c k).toInt32) ∧ te_m (te_sN (te_sU (te_sM (te_gl T a b c) d) e) 0) = d ∧ te_u (te_sN (te_sU (te_sM (te_gl T a b c) d) e) 0) = e := ⟨rfl, rfl, rfl, rfl⟩
theorem rd_tT_k {f : Nat → Int32} {L : Nat} {r : q_Rd} {T : q_Te} {a b c d e : Int32} (ha : (rd_l1 f (rd_t0 f L r)).1 = a) (hb : (rd_l2 f (rd_t0 f L r)).1 = b) (hc : (rd_l3 f (rd_t0 f L r)).1 = c) (hd : (rd_l4 f (rd_t0 f L r)).1 = d) (he : (rd_l5 f (rd_t0 f L r)).1 = e) :
    te_c (rd_tT f L r T) = (fun k => (te_g a c k).toInt32) ∧ te_l (rd_tT f L r T) = (fun k => (te_g b c k).toInt32) ∧ te_m (rd_tT f L r T) = d ∧ te_u (rd_tT f L r T) = e := by
  obtain ⟨q1, q2, q3, q4, q5, q6, q7, q8, q9⟩ := rd_tT_p (f := f) (L := L) (r := r) (T := T)
  have hT1 : rd_T1 f L r T = te_sU (te_sM (te_gl T (rd_l1 f (rd_t0 f L r)).1 (rd_l2 f (rd_t0 f L r)).1 (rd_l3 f (rd_t0 f L r)).1) (rd_l4 f (rd_t0 f L r)).1) (rd_l5 f (rd_t0 f L r)).1 := rfl
  obtain ⟨b1, b2, b3, b4⟩ := rd_bl_keepY (f := f) (n := 4) (k := 0) (r := rd_t1 f L r) (T := te_sN (rd_T1 f L r T) 0) (Y := rd_t2 f L r T) rfl
  rw [hT1, ha, hb, hc, hd, he] at b1 b2 b3 b4
  obtain ⟨z1, z2, z3, z4⟩ := te_lT (T := T) (a := a) (b := b) (c := c) (d := d) (e := e)
  exact ⟨q6.trans (b1.trans z1), q7.trans (b2.trans z2), q8.trans (b3.trans z3), q9.trans (b4.trans z4)⟩
theorem lk_B {M2 : q_Mo} {c : Nat} {B : q_Bk} {r9 : Nat → Int64} {nt np : Nat} {m : Int32} (k1 : 1 ≤ nt ∧ nt ≤ 4) (k2 : 1 ≤ np ∧ np ≤ 24) (em : M2.2.2 6 3 = m) (i4 : 0 ≤ m ∧ m ≤ 99999) (cp : cpB M2 B nt np) (h9 : ∀ i, i < 386 → r9 i = tk_at (M2.2.2 8) (M2.2.2 6 3) i) : RB (b_ref B m) r9 0 nt np c := by
  obtain ⟨p1, p2, p3⟩ := cp
  rw [em] at h9
  have bt0 : ∀ t, b_t B t = (fun _ => 0, 0, 0, 0) := fun t => by show B.2.1 t = _; rw [p3]
  have ro9 : ∀ u, u < 5 → r_oo r9 u = if u = 0 ∨ u = 2 then 1 else 0 := fun u hu => by
    unfold r_oo
    rw [h9 _ (by omega)]
    unfold tk_at
    rw [if_pos (by omega)]
    by_cases e : u = 0 ∨ u = 2
    · rw [if_pos (by omega), if_pos e]; rfl
    · rw [if_neg (by omega), if_neg e]; rfl
  have rp9 : ∀ i, i < 24 → ∀ u, u < 10 → r_op r9 i u = (if u = 0 ∨ u = 1 then M2.2.2 8 (9 * i) else if 3 ≤ u ∧ u < 8 then M2.2.2 8 (9 * i + (u - 2)) else if u = 9 then 1 else 0) := fun i hi u hu => by
    unfold r_op
    rw [h9 _ (by omega), tk_pl hi hu]
    split
    · exact Int32.toInt32_toInt64 _
    · split
      · exact Int32.toInt32_toInt64 _
      · split <;> rfl
  have rt9 : ∀ t, t < 4 → ∀ u, u < 35 → r_ot r9 t u = if u = 0 then (m).toInt64 else 0 := fun t ht u hu => by
    unfold r_ot
    rw [h9 _ (by omega), tk_tm hu]
  have plf : ∀ k, k < 24 → ∀ j, b_plf B k (nI j) = true → j < 4 → j < nt := fun k hk j e hj => by
    have e := of_decide_eq_true e
    have hh : pl_has (b_p B k) = true := decide_eq_true (by rw [e]; exact nI_neg1 (by omega))
    obtain ⟨-, -, -, hz⟩ := p1 k hk
    obtain ⟨j2, hj2, ej2⟩ := (hz hh).2.1
    have := nI_inj (by omega) (by omega) (e.symm.trans ej2)
    omega
  have ebp : ∀ i, b_p (b_ref B m) i = b_p B i := fun _ => rfl
  refine ⟨⟨Nat.zero_le _, ?_, ?_, k1.2, k2.2⟩, fun i hi => ?_, fun t ht => ?_, ?_, ?_, fun j hj => ?_⟩
  · unfold r_nw; rw [h9 0 (by omega)]; rfl
  · show B.2.2.2 = 0
    rw [p3]
  · rw [ebp]
    obtain ⟨z1, z2, z3, z4⟩ := p1 i hi
    refine ⟨?_, ?_, ?_, fun hh => ?_⟩
    · rw [rp9 i hi 0 (by omega), if_pos (Or.inl rfl)]; exact z1
    · rw [rp9 i hi 1 (by omega), if_pos (Or.inr rfl), z2]; exact z1
    · rw [rp9 i hi 2 (by omega), if_neg (by decide), if_neg (by decide), if_neg (by decide), z3]
    · obtain ⟨y1, y2, y3, ⟨x1, x2, x3, x4, x5⟩, y5⟩ := z4 hh
      obtain ⟨l, g, el, hl1, hl5, -, -⟩ := okD_n y5
      refine ⟨y1, y2, ⟨?_, ?_, ?_, ?_, ?_⟩, Or.inl ⟨?_, ?_⟩, y5, 0, l, y3, el, Nat.le_refl _, by omega, hl5⟩
      · rw [rp9 i hi 3 (by omega), if_neg (by decide), if_pos (by decide)]; exact x1
      · rw [rp9 i hi 4 (by omega), if_neg (by decide), if_pos (by decide)]; exact x2
      · rw [rp9 i hi 5 (by omega), if_neg (by decide), if_pos (by decide)]; exact x3
      · rw [rp9 i hi 7 (by omega), if_neg (by decide), if_pos (by decide)]; exact x5
      · rw [rp9 i hi 8 (by omega), if_neg (by decide), if_neg (by decide), if_neg (by decide), y3]
      · rw [rp9 i hi 9 (by omega), if_neg (by decide), if_neg (by decide), if_pos rfl]
      · rw [rp9 i hi 6 (by omega), if_neg (by decide), if_pos (by decide)]; exact x4
  · show RTm (t_mid (b_t B t) m) r9 t 0 c
    rw [bt0 t]
    refine ⟨fun y hy => ?_, ?_, i4, ?_, ?_, ?_⟩
    · rw [rt9 t ht _ (by omega), if_neg (by omega)]
      exact ⟨rfl, show 0 ≤ (0 : Int32).toInt from by decide, by show (0 : Int32).toInt ≤ _; rw [show (0 : Int32).toInt = 0 from by decide]; omega⟩
    · rw [rt9 t ht 0 (by omega), if_pos rfl]; rfl
    · rw [rt9 t ht 1 (by omega), if_neg (by decide)]; rfl
    · show q_T 0 < 2 ^ 0; decide
    · rw [rt9 t ht 2 (by omega), if_neg (by decide)]; rfl
  · show r_oo r9 0 = d_b B.2.2.1 ∧ r_oo r9 1 = d_r B.2.2.1 ∧ r_oo r9 2 = d_n B.2.2.1 ∧ r_oo r9 3 = d_s B.2.2.1 ∧ r_oo r9 4 = d_g B.2.2.1
    rw [p3, ro9 0 (by decide), ro9 1 (by decide), ro9 2 (by decide), ro9 3 (by decide), ro9 4 (by decide)]
    exact ⟨rfl, rfl, rfl, rfl, rfl⟩
  · show okD B.2.2.1
    rw [p3]
    exact ⟨⟨show (1 : Int32) ≤ 1 from by decide, show (1 : Int32) ≤ 99999 from by decide⟩, ⟨show (0 : Int32) ≤ 0 from by decide, show (0 : Int32) ≤ 20 from by decide⟩, ⟨show (1 : Int32) ≤ 1 from by decide, show (1 : Int32) ≤ 5 from by decide⟩, ⟨show (0 : Int32) ≤ 0 from by decide, show (0 : Int32) ≤ 99999 from by decide⟩, ⟨show (0 : Int32) ≤ 0 from by decide, show (0 : Int32) ≤ 1 from by decide⟩⟩
  · have eset : q_cn (b_set (b_ref B m) (nI j) 24) 24 = q_cn (b_set B (nI j) 24) 24 := by
      have := q_cn_4 (a := b_set (b_ref B m) (nI j) 24) (b := 0) (x := b_set B (nI j) 24) (y := 0) 24 (fun k hk => by rw [b_set_bit hk, b_set_bit hk]; rfl)
      omega
    by_cases q : j < nt
    · obtain ⟨n, hn, en⟩ := p2 j q
      rw [r_dr_B ⟨p1, p2, p3⟩, q_bc_ty b_set_24, r_ty_cn 24 (by omega)] at en
      have := nI_inj (by have := q_cn_le (s := b_set B (nI j) 24) 24; omega) (by omega) en
      exact ⟨n, hn, by rw [q_bc_ty b_set_24, r_ty_cn 24 (by omega), eset, this]⟩
    · have := q_cn_2 (a := b_set B (nI j) 24) (b := 0) 24 (fun k hk hb => by
        rw [b_set_bit hk] at hb
        exact absurd (plf k hk j hb hj) q)
      rw [show q_cn 0 24 = 0 from by decide] at this
      exact ⟨0, by omega, by rw [q_bc_ty b_set_24, r_ty_cn 24 (by omega), eset, show q_cn (b_set B (nI j) 24) 24 = 0 from by omega]⟩
theorem lk_E {M2 : q_Mo} {f3 f4 : Nat → Int32} {r9 : Nat → Int64} {nt np nb : Nat} {T : q_Te} (k1 : 1 ≤ nt ∧ nt ≤ 4) (k2 : 1 ≤ np ∧ np ≤ 24) (k3 : 1 ≤ nb ∧ nb ≤ 4) (kt : te_t T = nI nt) (kp : te_p T = nI np) (kn : te_n T = nI nb) (d5 : M2.2.2 6 5 = nI nt) (d6 : M2.2.2 6 6 = nI np) (d26 : M2.1 26 = nI nb) (kb : cpb M2 T nb)
    (b1 : te_c T = fun k => (te_g (M2.2.2 6 0) (M2.2.2 6 2) k).toInt32) (b2 : te_l T = fun k => (te_g (M2.2.2 6 1) (M2.2.2 6 2) k).toInt32) (em : te_m T = M2.2.2 6 3) (eu : te_u T = M2.2.2 6 4)
    (i1 : 1 ≤ M2.2.2 6 0 ∧ M2.2.2 6 0 ≤ 999999) (i2 : 1 ≤ M2.2.2 6 1 ∧ M2.2.2 6 1 ≤ 999999) (i3 : 0 ≤ M2.2.2 6 2 ∧ M2.2.2 6 2 ≤ 200) (i4 : 0 ≤ M2.2.2 6 3 ∧ M2.2.2 6 3 ≤ 99999) (i5 : 1 ≤ M2.2.2 6 4 ∧ M2.2.2 6 4 ≤ 99999)
    (h34 : ∀ c, c < nb → f3 c = M2.2.2 7 (2 * c) ∧ f4 c = M2.2.2 7 (2 * c + 1)) : RE T (mLr (m34 (tk_S M2) f3 f4) 1 r9) nt np nb := by
  refine ⟨k1, k2, k3, ⟨kt, d5, kp, d6, kn, d26⟩, fun k hk => ⟨congrFun b1 k, congrFun b2 k⟩, em, eu, fun b hb => ?_, i1, i2, i3, by rw [em]; exact i4, by rw [eu]; exact i5⟩
  obtain ⟨z1, z2, z3, z4⟩ := kb b hb
  obtain ⟨y1, y2⟩ := h34 b hb
  exact ⟨z1.symm.trans y1.symm, z2.symm.trans y2.symm, z3.1, z4.1, z4.2⟩
theorem lk_R {S : q_Ls} {M2 : q_Mo} {c : Nat} {T : q_Te} {B : q_Bk} {ea : Int32} {f3 f4 : Nat → Int32} {r9 : Nat → Int64} {nt np nb : Nat} (hE : RE T (mLr (m34 (tk_S M2) f3 f4) 1 r9) nt np nb) (hB : RB (b_ref B (te_m T)) r9 0 nt np c) (h16 : M2.1 16 = 0) (h23 : M2.1 23 = ea) : Rel (0, ls_f S, ea, true, T, b_ref B (te_m T), hs_for (ls_H S)) (mLr (m34 (tk_S M2) f3 f4) 1 r9) c := by
  obtain ⟨k1, k2, k3, ⟨kt, -, kp, -, kn, -⟩, -⟩ := id hE
  refine ⟨⟨Nat.zero_le _, ⟨nb, k3.2, kn⟩, ⟨nt, k1.2, kt⟩, ⟨np, k2.2, kp⟩, Nat.zero_lt_succ _, Nat.zero_le _⟩, ⟨?_, fun k hk => absurd hk (Nat.not_lt_zero k)⟩, ?_, rfl, rfl, fun _ => ⟨nt, np, nb, 0, hE, ⟨hB, fun t _ _ => rfl⟩, fun i hi => absurd hi (Nat.not_lt_zero i)⟩, fun e => absurd (show true = false from e) (by decide)⟩
  · exact (tk_S_o (M := M2) (k := 16) (by decide)).trans h16
  · exact (tk_S_o (M := M2) (k := 23) (by decide)).trans h23
theorem Rel.lk {S : q_Ls} {M M2 : q_Mo} {c : Nat} {f : Nat → Int32} {L : Nat} {r : q_Rd} {T : q_Te} {B : q_Bk} {ea : Int32} {f3 f4 : Nat → Int32} {r9 : Nat → Int64} {nt np nb : Nat} (ok : ld_ok M M2 f L r T nt np nb) (cp : cpB M2 B nt np) (h16 : M2.1 16 = 0) (h23 : M2.1 23 = ea)
    (h34 : ∀ c, c < nb → f3 c = M2.2.2 7 (2 * c) ∧ f4 c = M2.2.2 7 (2 * c + 1)) (h9 : ∀ i, i < 386 → r9 i = tk_at (M2.2.2 8) (M2.2.2 6 3) i) :
    Rel (0, ls_f S, ea, true, rd_tT f L r T, b_ref B (te_m (rd_tT f L r T)), hs_for (ls_H S)) (mLr (m34 (tk_S M2) f3 f4) 1 r9) c := by
  obtain ⟨k1, k2, k3, kt, kp, kn, ⟨d0, d1, d2, d3, d4⟩, d5, d6, d26, kb⟩ := ok
  obtain ⟨b1, b2, em, eu⟩ := rd_tT_k (f := f) (L := L) (r := r) (T := T) d0.symm d1.symm d2.symm d3.symm d4.symm
  have i1 := rd_nb_inY (f := f) (r := rd_word f (rd_t0 f L r) 0) (lo := 1) (hi := 999999) (Y := rd_l1 f (rd_t0 f L r)) rfl (by decide)
  have i2 := rd_nb_inY (f := f) (r := (rd_l1 f (rd_t0 f L r)).2) (lo := 1) (hi := 999999) (Y := rd_l2 f (rd_t0 f L r)) rfl (by decide)
  have i3 := rd_nb_inY (f := f) (r := (rd_l2 f (rd_t0 f L r)).2) (lo := 0) (hi := 200) (Y := rd_l3 f (rd_t0 f L r)) rfl (by decide)
  have i4 := rd_nb_inY (f := f) (r := (rd_l3 f (rd_t0 f L r)).2) (lo := 0) (hi := 99999) (Y := rd_l4 f (rd_t0 f L r)) rfl (by decide)
  have i5 := rd_nb_inY (f := f) (r := (rd_l4 f (rd_t0 f L r)).2) (lo := 1) (hi := 99999) (Y := rd_l5 f (rd_t0 f L r)) rfl (by decide)
  rw [← d0] at i1
  rw [← d1] at i2
  rw [← d2] at i3
  rw [← d3] at i4
  rw [← d4] at i5
  generalize rd_tT f L r T = T' at kt kp kn kb b1 b2 em eu ⊢
  have hE := lk_E (f3 := f3) (f4 := f4) (r9 := r9) k1 k2 k3 kt kp kn d5 d6 d26 kb b1 b2 em eu i1 i2 i3 i4 i5 h34
  exact lk_R hE (lk_B (c := c) k1 k2 em.symm (by rw [em]; exact i4) cp h9) h16 h23
end RELL
