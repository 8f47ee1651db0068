/-! SalaryCapLedgerModel: tokens, beside the reader of the class -/
section CX9h
variable {V : q_En} {h : q_H} {z : Option Nat} {Kx : q_KX}
/-- a byte, signed -/
def bt (x : Int32) : Prop := -128 ≤ x ∧ x ≤ 127
theorem bt_all {p : Int32 → Prop} (h : ∀ n : Nat, n < 256 → p (Int32.ofInt ((n : Int) - 128))) {x : Int32} (hx : bt x) : p x := by
  have h1 := Int32.le_iff_toInt_le.mp hx.1
  have h2 := Int32.le_iff_toInt_le.mp hx.2
  have e1 : (-128 : Int32).toInt = -128 := by decide
  have e2 : (127 : Int32).toInt = 127 := by decide
  rw [e1] at h1; rw [e2] at h2
  have := h (x.toInt + 128).toNat (by omega)
  rw [show ((((x.toInt + 128).toNat : Nat) : Int) - 128) = x.toInt by omega, Int32.ofInt_toInt] at this
  exact this
theorem bt_ch {x : Int32} (hx : bt x) : (x &&& 255 = 32 ↔ x = 32) ∧ (x &&& 255 = 10 ↔ x = 10) ∧ (x &&& 255 = 59 ↔ x = 59) ∧ rgL (x &&& 255).toInt64 97 122 = ch_let x ∧ rgL (x &&& 255).toInt64 48 57 = ch_dig x ∧ (ch_dig x = true → x &&& 255 = x) ∧ ¬ (x &&& 255 = -1) :=
  bt_all (p := fun x => (x &&& 255 = 32 ↔ x = 32) ∧ (x &&& 255 = 10 ↔ x = 10) ∧ (x &&& 255 = 59 ↔ x = 59) ∧ rgL (x &&& 255).toInt64 97 122 = ch_let x ∧ rgL (x &&& 255).toInt64 48 57 = ch_dig x ∧ (ch_dig x = true → x &&& 255 = x) ∧ ¬ (x &&& 255 = -1)) (by decide +kernel) hx
theorem bt_sc {x : Int32} (hx : bt x) : ∀ i, i < 5 → ∀ k, k < q_sn i → (x &&& 255 = q_sc i k ↔ x = q_sc i k) :=
  bt_all (p := fun x => ∀ i, i < 5 → ∀ k, k < q_sn i → (x &&& 255 = q_sc i k ↔ x = q_sc i k)) (by decide +kernel) hx
def tkm (k : Int32) : Int32 := if k = 0 then 0 else if k = 1 then 2 else if k = 2 then 3 else if k = 3 then 4 else 1
/-- the text and the reader's place, as both know them; behind an error its code and place alone -/
def cpl (M : q_Mo) (f : Nat → Int32) (r : q_Rd) : Prop :=
  r.ln ≤ 900 ∧ (∀ k, k < r.ln → bt (f k) ∧ M.2.2 5 k = f k &&& 255) ∧ M.1 17 = nI r.ln ∧ M.1 22 = r.ec ∧ M.1 23 = r.ea ∧ rd_ok r ∧ (0 ≤ r.kd ∧ r.kd ≤ 4) ∧ (r.ec = 0 → M.1 18 = nI r.en ∧ M.1 19 = nI r.st ∧ M.1 20 = tkm r.kd ∧ (r.kd = 2 → M.1 21 = r.vl))
/-- before the first token: the place alone -/
def cpl0 (M : q_Mo) (f : Nat → Int32) (r : q_Rd) : Prop :=
  r.ln ≤ 900 ∧ (∀ k, k < r.ln → bt (f k) ∧ M.2.2 5 k = f k &&& 255) ∧ M.1 17 = nI r.ln ∧ M.1 22 = r.ec ∧ M.1 23 = r.ea ∧ r.en ≤ r.ln ∧ (r.ec = 0 → M.1 18 = nI r.en)
theorem cpl.w {M : q_Mo} {f : Nat → Int32} {r : q_Rd} (hc : cpl M f r) : cpl0 M f r :=
  ⟨hc.1, hc.2.1, hc.2.2.1, hc.2.2.2.1, hc.2.2.2.2.1, hc.2.2.2.2.2.1.2, fun e => (hc.2.2.2.2.2.2.2 e).1⟩
/-- all but the reading's own scalars is the same -/
def q_tx (M M' : q_Mo) : Prop := M'.2 = M.2 ∧ ∀ k, ¬ (18 ≤ k ∧ k ≤ 23) → M'.1 k = M.1 k
theorem q_tx.r {M : q_Mo} : q_tx M M := ⟨rfl, fun _ _ => rfl⟩
theorem q_tx.t {M M1 M2 : q_Mo} (h1 : q_tx M M1) (h2 : q_tx M1 M2) : q_tx M M2 := ⟨h2.1.trans h1.1, fun k hk => (h2.2 k hk).trans (h1.2 k hk)⟩
theorem q_tx.s {M M1 : q_Mo} {k : Nat} {v : Int32} (h1 : q_tx M M1) (hk : 18 ≤ k ∧ k ≤ 23) : q_tx M (mS M1 k v) := ⟨h1.1, fun q hq => by
  show upd M1.1 k v q = _
  unfold upd; rw [if_neg (by omega)]; exact h1.2 q hq⟩
def mbt (M : q_Mo) (n k : Nat) : Int32 := if k < n then M.2.2 5 k else -1
theorem mbt_at {M : q_Mo} {f : Nat → Int32} {n k : Nat} (hb : ∀ k, k < n → bt (f k) ∧ M.2.2 5 k = f k &&& 255) (hk : k < n) : mbt M n k = f k &&& 255 := by rw [mbt, if_pos hk]; exact (hb k hk).2
theorem mbt_no {M : q_Mo} {n k : Nat} (hk : ¬ k < n) : mbt M n k = -1 := if_neg hk
theorem mX9_byteAt {a : Nat} {M : q_Mo} {n k : Nat} {P : Int32 → q_H → Option Nat → Prop} (hM : isM h a M) (hn : M.1 17 = nI n) (h9 : n ≤ 900) (hk9 : k < 2147483648) (hk : P (mbt M n k) h z) : QMi V iX9_byteAt [.ref a, .int (nI k)] h z P Kx := by
  refine eX9_byteAt ?_
  refine wX9_byteAt_0 ?_
  refine wX9_byteAt_1 ?_
  refine wX9_byteAt_2 hM.c ?_
  rw [hn]
  refine wX9_byteAt_5 (fun c5 => ?_) (fun c5 => ?_)
  · refine wX9_byteAt_17 ?_
    refine wX9_byteAt_18  ?_
    first
      | (have q9 : nI n ≤ nI k := c5; exact q_cv (by rw [mbt, if_neg (fun z => nI_ge z (by omega) q9)]) hk)
      | (have q9 : ¬ nI n ≤ nI k := c5; exact q_cv (by rw [mbt, if_pos (nI_lto (by omega) (Int32.not_le.mp q9))]) hk)
  · refine wX9_byteAt_8 ?_
    refine wX9_byteAt_9 hM.c ?_
    refine wX9_byteAt_12 ?_
    refine wX9_byteAt_13 hM.a5 rfl (show k < 900 by have := nI_lto (by omega) (Int32.not_le.mp c5); omega) (by decide) ?_
    refine wX9_byteAt_14 ?_
    refine wX9_byteAt_18  ?_
    first
      | (have q9 : nI n ≤ nI k := c5; exact q_cv (by rw [mbt, if_neg (fun z => nI_ge z (by omega) q9)]) hk)
      | (have q9 : ¬ nI n ≤ nI k := c5; exact q_cv (by rw [mbt, if_pos (nI_lto (by omega) (Int32.not_le.mp q9))]) hk)
theorem mX9_isLetterAt {a : Nat} {M : q_Mo} {n k : Nat} {P : Int32 → q_H → Option Nat → Prop} (hM : isM h a M) (hn : M.1 17 = nI n) (h9 : n ≤ 900) (hk9 : k < 2147483648) (hk : P (q_b (rgL (mbt M n k).toInt64 97 122)) h z) : QMi V iX9_isLetterAt [.ref a, .int (nI k)] h z P Kx := by
  refine eX9_isLetterAt ?_
  refine wX9_isLetterAt_0 ?_
  refine wX9_isLetterAt_1 ?_
  refine wX9_isLetterAt_2 hM.c (mX9_byteAt hM hn h9 hk9 ?_)
  refine wX9_isLetterAt_5 ?_
  refine wX9_isLetterAt_6 ?_
  refine wX9_isLetterAt_9 ?_
  refine wX9_isLetterAt_12 (mX9_isIn ?_)
  refine wX9_isLetterAt_15  ?_
  exact hk
theorem mX9_isDigitAt {a : Nat} {M : q_Mo} {n k : Nat} {P : Int32 → q_H → Option Nat → Prop} (hM : isM h a M) (hn : M.1 17 = nI n) (h9 : n ≤ 900) (hk9 : k < 2147483648) (hk : P (q_b (rgL (mbt M n k).toInt64 48 57)) h z) : QMi V iX9_isDigitAt [.ref a, .int (nI k)] h z P Kx := by
  refine eX9_isDigitAt ?_
  refine wX9_isDigitAt_0 ?_
  refine wX9_isDigitAt_1 ?_
  refine wX9_isDigitAt_2 hM.c (mX9_byteAt hM hn h9 hk9 ?_)
  refine wX9_isDigitAt_5 ?_
  refine wX9_isDigitAt_6 ?_
  refine wX9_isDigitAt_9 ?_
  refine wX9_isDigitAt_12 (mX9_isIn ?_)
  refine wX9_isDigitAt_15  ?_
  exact hk
theorem upd_s {f : Nat → Int32} {k : Nat} {x : Int32} : upd f k x k = x := if_pos rfl
theorem upd_n {f : Nat → Int32} {k q : Nat} {x : Int32} (n : ¬ q = k) : upd f k x q = f q := if_neg n
theorem rd_fail_ec {r : q_Rd} {c p : Int32} (hc : ¬ c = 0) (e : (rd_fail r c p).ec = 0) : False := by
  unfold rd_fail at e
  split at e
  · rename_i q; exact absurd e (of_decide_eq_true q)
  · exact hc e
theorem rd_bad_ne {r : q_Rd} (e : ¬ r.ec = 0) : rd_bad r = true := decide_eq_true e
theorem rd_bad_e {r : q_Rd} (e : r.ec = 0) : rd_bad r = false := decide_eq_false (fun q => q e)
theorem rd_fail_f {r : q_Rd} {c p : Int32} (e : rd_bad r = false) : rd_fail r c p = (c, p, r.ct, r.ln, r.en, r.kd, r.st, r.vl, r.na) := by unfold rd_fail; rw [if_neg (by rw [e]; decide)]
theorem rd_fail_b {r : q_Rd} {c p : Int32} (e : rd_bad r = true) : rd_fail r c p = r := by unfold rd_fail; rw [if_pos e]
theorem mX9_fail {a : Nat} {M : q_Mo} {f : Nat → Int32} {r : q_Rd} {x : Int32} {P : q_H → Option Nat → Prop} (hM : isM h a M) (hc : cpl M f r) (hcx : ¬ x = 0) (hk : ∀ h2 M2, isM h2 a M2 → q_tx M M2 → cpl M2 f (rd_fail r x (nI r.st)) → q_out a 13 h h2 → P h2 z) : QMv V iX9_fail [.ref a, .int x] h z P Kx := by
  have ho : q_out a 13 h h := q_out.refl
  have hcp := hc
  obtain ⟨c1, c2, c3, c4, c5, c6, c7, c8⟩ := hc
  refine eX9_fail ?_
  refine wX9_fail_0 ?_
  refine wX9_fail_1 hM.c (mX9_isFine hM ?_)
  refine wX9_fail_4 (fun c4x => ?_) (fun c4x => ?_)
  · refine wX9_fail_20  ?_
    first
      | (have q9 := q_b1 c4x; have e0 : r.ec = 0 := c4.symm.trans (of_decide_eq_true q9)
         refine hk _ _ hM ((q_tx.r.s (by decide)).s (by decide)) ?_ ho
         rw [rd_fail_f (rd_bad_e e0)]
         exact ⟨c1, c2, c3, rfl, (c8 e0).2.1, c6, c7, fun z => absurd z hcx⟩)
      | (have q9 := q_b0 c4x; have e0 : ¬ r.ec = 0 := fun z => (of_decide_eq_false q9) (c4.trans z)
         refine hk _ _ hM q_tx.r ?_ ho
         rw [rd_fail_b (rd_bad_ne e0)]
         exact hcp)
  · refine wX9_fail_7 ?_
    refine wX9_fail_8 ?_
    refine wX9_fail_9 hM.c ?_
    refine q_sx (k := 22) hM ho (fun h2 hM ho => ?_)
    refine wX9_fail_12 ?_
    refine wX9_fail_13 ?_
    refine wX9_fail_14 hM.c ?_
    refine wX9_fail_17 hM.c ?_
    refine q_sx (k := 23) hM ho (fun h2 hM ho => ?_)
    refine wX9_fail_20  ?_
    first
      | (have q9 := q_b1 c4x; have e0 : r.ec = 0 := c4.symm.trans (of_decide_eq_true q9)
         refine hk _ _ hM ((q_tx.r.s (by decide)).s (by decide)) ?_ ho
         rw [rd_fail_f (rd_bad_e e0)]
         exact ⟨c1, c2, c3, rfl, (c8 e0).2.1, c6, c7, fun z => absurd z hcx⟩)
      | (have q9 := q_b0 c4x; have e0 : ¬ r.ec = 0 := fun z => (of_decide_eq_false q9) (c4.trans z)
         refine hk _ _ hM q_tx.r ?_ ho
         rw [rd_fail_b (rd_bad_ne e0)]
         exact hcp)
theorem rd_tok_ec {f : Nat → Int32} {r : q_Rd} : (rd_tok f r).ec = r.ec ∧ (rd_tok f r).ea = r.ea ∧ (rd_tok f r).ct = r.ct ∧ (rd_tok f r).ln = r.ln ∧ (rd_tok f r).na = r.na := by
  unfold rd_tok
  split
  · exact ⟨rfl, rfl, rfl, rfl, rfl⟩
  · split
    · exact ⟨rfl, rfl, rfl, rfl, rfl⟩
    · split <;> exact ⟨rfl, rfl, rfl, rfl, rfl⟩
theorem rd_tok_kd {f : Nat → Int32} {r : q_Rd} : 0 ≤ (rd_tok f r).kd ∧ (rd_tok f r).kd ≤ 4 := by
  unfold rd_tok
  split
  · exact ⟨show (0 : Int32) ≤ 0 by decide, show (0 : Int32) ≤ 4 by decide⟩
  · split
    · exact ⟨show (0 : Int32) ≤ 1 by decide, show (1 : Int32) ≤ 4 by decide⟩
    · split
      · unfold rd_num
        show 0 ≤ (if _ then (2 : Int32) else 4) ∧ (if _ then (2 : Int32) else 4) ≤ 4
        split <;> exact ⟨by decide, by decide⟩
      · show 0 ≤ (if _ then (3 : Int32) else 4) ∧ (if _ then (3 : Int32) else 4) ≤ 4
        split <;> exact ⟨by decide, by decide⟩
/-- behind an error the class's places do not matter -/
theorem cpl_bad {M : q_Mo} {f : Nat → Int32} {r r' : q_Rd} (hc : cpl M f r) (e : ¬ r.ec = 0) (e1 : r'.ec = r.ec) (e2 : r'.ea = r.ea) (e3 : r'.ln = r.ln) (e4 : rd_ok r') (e5 : 0 ≤ r'.kd ∧ r'.kd ≤ 4) : cpl M f r' := by
  obtain ⟨c1, c2, c3, c4, c5, c6, c7, c8⟩ := hc
  exact ⟨by rw [e3]; exact c1, by rw [e3]; exact c2, by rw [e3]; exact c3, by rw [e1]; exact c4, by rw [e2]; exact c5, e4, e5, fun z => absurd (e1.symm.trans z) e⟩
theorem rd_nv_n {f : Nat → Int32} {s : Nat} (n e : Nat) (v v' : Int32) : (rd_nv f s n e v).1 = (rd_nv f s n e v').1 := by
  induction n generalizing e v v' with
  | zero => rfl
  | succ n ih => rw [rd_nv, rd_nv]; split
                 · exact ih _ _ _
                 · rfl
theorem mX9_next0 {a : Nat} {M : q_Mo} {f : Nat → Int32} {r : q_Rd} {P : q_H → Option Nat → Prop} (hM : isM h a M) (hc : cpl0 M f r) (hk : ∀ h2 M2, isM h2 a M2 → q_tx M M2 → cpl M2 f (rd_tok f r) → q_out a 13 h h2 → P h2 z) : QMv V iX9_next [.ref a] h z P Kx := by
  have ho : q_out a 13 h h := q_out.refl
  have hcp := hc
  obtain ⟨c1, c2, c3, c4, c5, c6, c8⟩ := hc
  by_cases e0 : r.ec = 0
  · have g1 := c8 e0
    have hs := rd_s_b (f := f) c6
    obtain ⟨t1, t2, t3, t4, t5⟩ := rd_tok_ec (f := f) (r := r)
    have tk := rd_tok_kd (f := f) (r := r)
    have tok := (rd_tok_ok (f := f) c6).1
    obtain ⟨s, es⟩ : ∃ s, s = rd_s f r := ⟨_, rfl⟩
    rw [← es] at hs
    have hfin : ∀ hh M1, isM hh a M1 → q_tx M M1 → M1.1 22 = 0 → M1.1 23 = r.ea → q_out a 13 h hh → M1.1 18 = nI (rd_tok f r).en → M1.1 19 = nI (rd_tok f r).st → M1.1 20 = tkm (rd_tok f r).kd → ((rd_tok f r).kd = 2 → M1.1 21 = (rd_tok f r).vl) → P hh z := by
      intro hh M1 hM T m22 m23 ho k1 k2 k3 k4
      exact hk _ _ hM T ⟨by rw [t4]; exact c1, by rw [t4]; intro k hk; rw [T.1]; exact c2 k hk, by rw [t4, T.2 17 (by decide)]; exact c3, by rw [t1, e0]; exact m22, by rw [t2]; exact m23, tok, tk, fun _ => ⟨k1, k2, k3, k4⟩⟩ ho
    have hlet : ¬ r.ln ≤ s → ch_let (f s) = true → ∀ m e hh M1, e + m = r.ln → rd_run (fun k => ch_let (f k)) m e = rd_run (fun k => ch_let (f k)) (r.ln - s) s → isM hh a M1 → q_tx M M1 → M1.1 22 = 0 → M1.1 23 = r.ea → q_out a 13 h hh → M1.1 18 = nI e → M1.1 19 = nI s → QW V iX9_next 85 [some (.ref a)] [] hh z 0 0 (q_Kv P) Kx := by
      intro hsl hlt m
      have hT : rd_tok f r = (r.ec, r.ea, r.ct, r.ln, rd_run (fun k => ch_let (f k)) (r.ln - s) s, 1, s, r.vl, r.na) := by
        unfold rd_tok; rw [← es, if_neg hsl, if_pos hlt]
      induction m with
      | zero =>
        intro e hh M1 hem hrun hM T m22 m23 ho m18 m19
        refine wX9_next_85 ?_
        refine wX9_next_86 ?_
        refine wX9_next_87 hM.c ?_
        rw [m18]
        refine wX9_next_90 hM.c (mX9_isLetterAt hM ((T.2 17 (by decide)).trans c3) c1 (by omega) ?_)
        refine wX9_next_93 (fun c93 => ?_) (fun c93 => absurd (by rw [mbt_no (by omega)]; decide) c93)
        refine wX9_next_109 ?_
        refine wX9_next_110 ?_
        refine wX9_next_111 hM.c ?_
        refine q_sx (k := 20) hM ho (fun h2 hM ho => ?_)
        refine wX9_next_114 ?_
        refine wX9_next_252  ?_
        refine hfin _ _ hM (T.s (by decide)) m22 m23 ho (show M1.1 18 = _ from ?_) (show M1.1 19 = _ from ?_) (show (2 : Int32) = _ from ?_) (fun z => ?_)
        · rw [hT, m18, ← hrun]; rfl
        · rw [hT, m19]
        · rw [hT]; try rfl
        · rw [hT] at z; exact absurd (show (1 : Int32) = 2 from z) (by decide)
      | succ m ih =>
        intro e hh M1 hem hrun hM T m22 m23 ho m18 m19
        have hbe : ∀ k, k < r.ln → bt (f k) ∧ M1.2.2 5 k = f k &&& 255 := (fun k hk => by rw [T.1]; exact c2 k hk)
        have he : e < r.ln := by omega
        have hme := mbt_at hbe he
        have hch := (bt_ch (c2 e he).1).2.2.2.1
        refine wX9_next_85 ?_
        refine wX9_next_86 ?_
        refine wX9_next_87 hM.c ?_
        rw [m18]
        refine wX9_next_90 hM.c (mX9_isLetterAt hM ((T.2 17 (by decide)).trans c3) c1 (by omega) ?_)
        rw [hme, hch]
        refine wX9_next_93 (fun c93 => ?_) (fun c93 => ?_)
        · refine wX9_next_109 ?_
          refine wX9_next_110 ?_
          refine wX9_next_111 hM.c ?_
          refine q_sx (k := 20) hM ho (fun h2 hM ho => ?_)
          refine wX9_next_114 ?_
          refine wX9_next_252  ?_
          have q9 := q_b0 c93
          refine hfin _ _ hM (T.s (by decide)) m22 m23 ho (show M1.1 18 = _ from ?_) (show M1.1 19 = _ from ?_) (show (2 : Int32) = _ from ?_) (fun z => ?_)
          · rw [hT, m18, ← hrun]; rw [rd_run, if_neg (by rw [q9]; decide)]
          · rw [hT, m19]
          · rw [hT]; try rfl
          · rw [hT] at z; exact absurd (show (1 : Int32) = 2 from z) (by decide)
        · refine wX9_next_96 ?_
          refine wX9_next_97 ?_
          refine wX9_next_98 hM.c ?_
          refine wX9_next_101 ?_
          refine wX9_next_102 ?_
          refine wX9_next_103 hM.c ?_
          refine q_sx (k := 18) hM ho (fun h2 hM ho => ?_)
          refine wX9_next_106 ?_
          have q9 := q_b1 c93
          refine ih (e + 1) _ _ (by omega) ?_ hM (T.s (by decide)) m22 m23 ho (show M1.1 18 + 1 = _ by rw [m18, nI_1]) m19
          rw [← hrun, rd_run, if_pos q9]
    have hdig : ¬ r.ln ≤ s → ¬ ch_let (f s) = true → ch_dig (f s) = true → ∀ m e v hh M1, s ≤ e → e + m = r.ln → rd_nv f s m e v = rd_nv f s (r.ln - s) s 0 → isM hh a M1 → q_tx M M1 → M1.1 22 = 0 → M1.1 23 = r.ea → q_out a 13 h hh → M1.1 18 = nI e → M1.1 19 = nI s → (e - s ≤ 6 → M1.1 21 = v) → QW V iX9_next 133 [some (.ref a)] [] hh z 0 0 (q_Kv P) Kx := by
      intro hsl hlt hdg m
      have hT : rd_tok f r = (r.ec, r.ea, r.ct, r.ln, (rd_nv f s (r.ln - s) s 0).1, if (rd_nv f s (r.ln - s) s 0).1 - s ≤ 6 then 2 else 4, s, (rd_nv f s (r.ln - s) s 0).2, r.na) := by
        unfold rd_tok; rw [← es, if_neg hsl, if_neg hlt, if_pos hdg]; try rfl
      induction m with
      | zero =>
        intro e v hh M1 hse hem hrun hM T m22 m23 ho m18 m19 m21
        refine wX9_next_133 ?_
        refine wX9_next_134 ?_
        refine wX9_next_135 hM.c ?_
        rw [m18]
        refine wX9_next_138 hM.c (mX9_isDigitAt hM ((T.2 17 (by decide)).trans c3) c1 (by omega) ?_)
        refine wX9_next_141 (fun c141 => ?_) (fun c141 => absurd (by rw [mbt_no (by omega)]; decide) c141)
        refine wX9_next_194 ?_
        refine wX9_next_195 ?_
        refine wX9_next_196 hM.c ?_
        refine wX9_next_199 ?_
        refine wX9_next_200 hM.c ?_
        refine wX9_next_203 ?_
        refine wX9_next_204 ?_
        refine wX9_next_206 (fun c206 => ?_) (fun c206 => ?_)
        · refine wX9_next_213 ?_
          refine wX9_next_214 hM.c ?_
          refine q_sx (k := 20) hM ho (fun h2 hM ho => ?_)
          refine wX9_next_217 ?_
          refine wX9_next_252  ?_
          have hend : rd_nv f s (r.ln - s) s 0 = (e, v) := by rw [← hrun]; rfl
          have h6 : (M1.1 18 - M1.1 19 : Int32) = nI (e - s) := by rw [m18, m19, nI_sb hse]
          first
            | (have q9 : M1.1 18 - M1.1 19 ≤ 6 := c206
               rw [h6] at q9
               have q8 : e - s ≤ 6 := nI_le6 (by omega) (Int32.not_lt.mpr q9)
               refine hfin _ _ hM (T.s (by decide)) m22 m23 ho (show M1.1 18 = _ from ?_) (show M1.1 19 = _ from ?_) (show (3 : Int32) = _ from ?_) (fun z => (show M1.1 21 = _ from ?_))
               · rw [hT, hend, m18]
               · rw [hT, m19]
               · rw [hT, hend]; show 3 = tkm (if e - s ≤ 6 then 2 else 4); rw [if_pos q8]; try rfl
               · rw [hT, hend]; exact m21 q8)
            | (have q9 : ¬ M1.1 18 - M1.1 19 ≤ 6 := c206
               rw [h6] at q9
               have q8 : ¬ e - s ≤ 6 := fun z => q9 (nI_le (b := 6) z (by decide))
               refine hfin _ _ hM (T.s (by decide)) m22 m23 ho (show M1.1 18 = _ from ?_) (show M1.1 19 = _ from ?_) (show (1 : Int32) = _ from ?_) (fun z => ?_)
               · rw [hT, hend, m18]
               · rw [hT, m19]
               · rw [hT, hend]; show 1 = tkm (if e - s ≤ 6 then 2 else 4); rw [if_neg q8]; try rfl
               · rw [hT, hend] at z; have z2 : (if e - s ≤ 6 then (2 : Int32) else 4) = 2 := z; rw [if_neg q8] at z2; exact absurd z2 (by decide))
        · refine wX9_next_209 ?_
          refine wX9_next_210 ?_
          refine wX9_next_214 hM.c ?_
          refine q_sx (k := 20) hM ho (fun h2 hM ho => ?_)
          refine wX9_next_217 ?_
          refine wX9_next_252  ?_
          have hend : rd_nv f s (r.ln - s) s 0 = (e, v) := by rw [← hrun]; rfl
          have h6 : (M1.1 18 - M1.1 19 : Int32) = nI (e - s) := by rw [m18, m19, nI_sb hse]
          first
            | (have q9 : M1.1 18 - M1.1 19 ≤ 6 := c206
               rw [h6] at q9
               have q8 : e - s ≤ 6 := nI_le6 (by omega) (Int32.not_lt.mpr q9)
               refine hfin _ _ hM (T.s (by decide)) m22 m23 ho (show M1.1 18 = _ from ?_) (show M1.1 19 = _ from ?_) (show (3 : Int32) = _ from ?_) (fun z => (show M1.1 21 = _ from ?_))
               · rw [hT, hend, m18]
               · rw [hT, m19]
               · rw [hT, hend]; show 3 = tkm (if e - s ≤ 6 then 2 else 4); rw [if_pos q8]; try rfl
               · rw [hT, hend]; exact m21 q8)
            | (have q9 : ¬ M1.1 18 - M1.1 19 ≤ 6 := c206
               rw [h6] at q9
               have q8 : ¬ e - s ≤ 6 := fun z => q9 (nI_le (b := 6) z (by decide))
               refine hfin _ _ hM (T.s (by decide)) m22 m23 ho (show M1.1 18 = _ from ?_) (show M1.1 19 = _ from ?_) (show (1 : Int32) = _ from ?_) (fun z => ?_)
               · rw [hT, hend, m18]
               · rw [hT, m19]
               · rw [hT, hend]; show 1 = tkm (if e - s ≤ 6 then 2 else 4); rw [if_neg q8]; try rfl
               · rw [hT, hend] at z; have z2 : (if e - s ≤ 6 then (2 : Int32) else 4) = 2 := z; rw [if_neg q8] at z2; exact absurd z2 (by decide))
      | succ m ih =>
        intro e v hh M1 hse hem hrun hM T m22 m23 ho m18 m19 m21
        have hbe : ∀ k, k < r.ln → bt (f k) ∧ M1.2.2 5 k = f k &&& 255 := (fun k hk => by rw [T.1]; exact c2 k hk)
        have he : e < r.ln := by omega
        have hme := mbt_at hbe he
        have hch := (bt_ch (c2 e he).1).2.2.2.2.1
        have hid := (bt_ch (c2 e he).1).2.2.2.2.2.1
        refine wX9_next_133 ?_
        refine wX9_next_134 ?_
        refine wX9_next_135 hM.c ?_
        rw [m18]
        refine wX9_next_138 hM.c (mX9_isDigitAt hM ((T.2 17 (by decide)).trans c3) c1 (by omega) ?_)
        rw [hme, hch]
        refine wX9_next_141 (fun c141 => ?_) (fun c141 => ?_)
        · refine wX9_next_194 ?_
          refine wX9_next_195 ?_
          refine wX9_next_196 hM.c ?_
          refine wX9_next_199 ?_
          refine wX9_next_200 hM.c ?_
          refine wX9_next_203 ?_
          refine wX9_next_204 ?_
          refine wX9_next_206 (fun c206 => ?_) (fun c206 => ?_)
          · refine wX9_next_213 ?_
            refine wX9_next_214 hM.c ?_
            refine q_sx (k := 20) hM ho (fun h2 hM ho => ?_)
            refine wX9_next_217 ?_
            refine wX9_next_252  ?_
            have q7 := q_b0 c141
            have hend : rd_nv f s (r.ln - s) s 0 = (e, v) := by rw [← hrun]; rw [rd_nv, if_neg (by rw [q7]; decide)]
            have h6 : (M1.1 18 - M1.1 19 : Int32) = nI (e - s) := by rw [m18, m19, nI_sb hse]
            first
              | (have q9 : M1.1 18 - M1.1 19 ≤ 6 := c206
                 rw [h6] at q9
                 have q8 : e - s ≤ 6 := nI_le6 (by omega) (Int32.not_lt.mpr q9)
                 refine hfin _ _ hM (T.s (by decide)) m22 m23 ho (show M1.1 18 = _ from ?_) (show M1.1 19 = _ from ?_) (show (3 : Int32) = _ from ?_) (fun z => (show M1.1 21 = _ from ?_))
                 · rw [hT, hend, m18]
                 · rw [hT, m19]
                 · rw [hT, hend]; show 3 = tkm (if e - s ≤ 6 then 2 else 4); rw [if_pos q8]; try rfl
                 · rw [hT, hend]; exact m21 q8)
              | (have q9 : ¬ M1.1 18 - M1.1 19 ≤ 6 := c206
                 rw [h6] at q9
                 have q8 : ¬ e - s ≤ 6 := fun z => q9 (nI_le (b := 6) z (by decide))
                 refine hfin _ _ hM (T.s (by decide)) m22 m23 ho (show M1.1 18 = _ from ?_) (show M1.1 19 = _ from ?_) (show (1 : Int32) = _ from ?_) (fun z => ?_)
                 · rw [hT, hend, m18]
                 · rw [hT, m19]
                 · rw [hT, hend]; show 1 = tkm (if e - s ≤ 6 then 2 else 4); rw [if_neg q8]; try rfl
                 · rw [hT, hend] at z; have z2 : (if e - s ≤ 6 then (2 : Int32) else 4) = 2 := z; rw [if_neg q8] at z2; exact absurd z2 (by decide))
          · refine wX9_next_209 ?_
            refine wX9_next_210 ?_
            refine wX9_next_214 hM.c ?_
            refine q_sx (k := 20) hM ho (fun h2 hM ho => ?_)
            refine wX9_next_217 ?_
            refine wX9_next_252  ?_
            have q7 := q_b0 c141
            have hend : rd_nv f s (r.ln - s) s 0 = (e, v) := by rw [← hrun]; rw [rd_nv, if_neg (by rw [q7]; decide)]
            have h6 : (M1.1 18 - M1.1 19 : Int32) = nI (e - s) := by rw [m18, m19, nI_sb hse]
            first
              | (have q9 : M1.1 18 - M1.1 19 ≤ 6 := c206
                 rw [h6] at q9
                 have q8 : e - s ≤ 6 := nI_le6 (by omega) (Int32.not_lt.mpr q9)
                 refine hfin _ _ hM (T.s (by decide)) m22 m23 ho (show M1.1 18 = _ from ?_) (show M1.1 19 = _ from ?_) (show (3 : Int32) = _ from ?_) (fun z => (show M1.1 21 = _ from ?_))
                 · rw [hT, hend, m18]
                 · rw [hT, m19]
                 · rw [hT, hend]; show 3 = tkm (if e - s ≤ 6 then 2 else 4); rw [if_pos q8]; try rfl
                 · rw [hT, hend]; exact m21 q8)
              | (have q9 : ¬ M1.1 18 - M1.1 19 ≤ 6 := c206
                 rw [h6] at q9
                 have q8 : ¬ e - s ≤ 6 := fun z => q9 (nI_le (b := 6) z (by decide))
                 refine hfin _ _ hM (T.s (by decide)) m22 m23 ho (show M1.1 18 = _ from ?_) (show M1.1 19 = _ from ?_) (show (1 : Int32) = _ from ?_) (fun z => ?_)
                 · rw [hT, hend, m18]
                 · rw [hT, m19]
                 · rw [hT, hend]; show 1 = tkm (if e - s ≤ 6 then 2 else 4); rw [if_neg q8]; try rfl
                 · rw [hT, hend] at z; have z2 : (if e - s ≤ 6 then (2 : Int32) else 4) = 2 := z; rw [if_neg q8] at z2; exact absurd z2 (by decide))
        · refine wX9_next_144 ?_
          refine wX9_next_145 hM.c ?_
          refine wX9_next_148 ?_
          refine wX9_next_149 hM.c ?_
          refine wX9_next_152 ?_
          refine wX9_next_153 ?_
          refine wX9_next_155 (fun c155 => ?_) (fun c155 => ?_)
          · refine wX9_next_181 ?_
            refine wX9_next_182 ?_
            refine wX9_next_183 hM.c ?_
            refine wX9_next_186 ?_
            refine wX9_next_187 ?_
            refine wX9_next_188 hM.c ?_
            refine q_sx (k := 18) hM ho (fun h2 hM ho => ?_)
            refine wX9_next_191 ?_
            have q7 := q_b1 c141
            have h6 : (M1.1 18 - M1.1 19 : Int32) = nI (e - s) := by rw [m18, m19, nI_sb hse]
            first
              | (have q9 : ¬ (6 : Int32) ≤ M1.1 18 - M1.1 19 := c155
                 rw [h6] at q9
                 have q8 : e - s < 6 := nI_lt6 (by omega) q9
                 refine ih (e + 1) (v * 10 + (f e - 48)) _ _ (by omega) (by omega) ?_ hM ((T.s (by decide)).s (by decide)) m22 m23 ho (show M1.1 18 + 1 = _ by rw [m18, nI_1]) m19 (fun _ => (show 10 * M1.1 21 + f e - 48 = _ from ?_))
                 · rw [← hrun, rd_nv, if_pos q7, if_pos q8]
                 · rw [m21 (by omega), Int32.mul_comm, Int32.sub_eq_add_neg, Int32.sub_eq_add_neg, Int32.add_assoc])
              | (have q9 : (6 : Int32) ≤ M1.1 18 - M1.1 19 := c155
                 rw [h6] at q9
                 have q8 : ¬ e - s < 6 := fun z => nI_ge (b := 6) z (by decide) q9
                 refine ih (e + 1) 0 _ _ (by omega) (by omega) ?_ hM (T.s (by decide)) m22 m23 ho (show M1.1 18 + 1 = _ by rw [m18, nI_1]) m19 (fun z => absurd z (by omega))
                 · rw [← hrun, rd_nv, if_pos q7, if_neg q8])
          · refine wX9_next_158 ?_
            refine wX9_next_159 ?_
            refine wX9_next_161 ?_
            refine wX9_next_162 hM.c ?_
            refine wX9_next_165 ?_
            refine wX9_next_166 ?_
            refine wX9_next_167 ?_
            refine wX9_next_168 hM.c ?_
            rw [m18]
            refine wX9_next_171 hM.c (mX9_byteAt hM ((T.2 17 (by decide)).trans c3) c1 (by omega) ?_)
            rw [hme, hid (q_b1 c141)]
            refine wX9_next_174 ?_
            refine wX9_next_175 ?_
            refine wX9_next_177 ?_
            refine wX9_next_178 hM.c ?_
            refine q_sx (k := 21) hM ho (fun h2 hM ho => ?_)
            refine wX9_next_181 ?_
            refine wX9_next_182 ?_
            refine wX9_next_183 hM.c ?_
            refine wX9_next_186 ?_
            refine wX9_next_187 ?_
            refine wX9_next_188 hM.c ?_
            refine q_sx (k := 18) hM ho (fun h2 hM ho => ?_)
            refine wX9_next_191 ?_
            have q7 := q_b1 c141
            have h6 : (M1.1 18 - M1.1 19 : Int32) = nI (e - s) := by rw [m18, m19, nI_sb hse]
            first
              | (have q9 : ¬ (6 : Int32) ≤ M1.1 18 - M1.1 19 := c155
                 rw [h6] at q9
                 have q8 : e - s < 6 := nI_lt6 (by omega) q9
                 refine ih (e + 1) (v * 10 + (f e - 48)) _ _ (by omega) (by omega) ?_ hM ((T.s (by decide)).s (by decide)) m22 m23 ho (show M1.1 18 + 1 = _ by rw [m18, nI_1]) m19 (fun _ => (show 10 * M1.1 21 + f e - 48 = _ from ?_))
                 · rw [← hrun, rd_nv, if_pos q7, if_pos q8]
                 · rw [m21 (by omega), Int32.mul_comm, Int32.sub_eq_add_neg, Int32.sub_eq_add_neg, Int32.add_assoc])
              | (have q9 : (6 : Int32) ≤ M1.1 18 - M1.1 19 := c155
                 rw [h6] at q9
                 have q8 : ¬ e - s < 6 := fun z => nI_ge (b := 6) z (by decide) q9
                 refine ih (e + 1) 0 _ _ (by omega) (by omega) ?_ hM (T.s (by decide)) m22 m23 ho (show M1.1 18 + 1 = _ by rw [m18, nI_1]) m19 (fun z => absurd z (by omega))
                 · rw [← hrun, rd_nv, if_pos q7, if_neg q8])
    have h47 : ∀ hh M1, isM hh a M1 → q_tx M M1 → M1.1 22 = 0 → M1.1 23 = r.ea → q_out a 13 h hh → M1.1 18 = nI s → QW V iX9_next 47 [some (.ref a)] [] hh z 0 0 (q_Kv P) Kx := by
      intro hh M1 hM T m22 m23 ho m18
      refine wX9_next_47 ?_
      refine wX9_next_48 ?_
      refine wX9_next_49 hM.c ?_
      refine wX9_next_52 hM.c ?_
      refine q_sx (k := 19) hM ho (fun h2 hM ho => ?_)
      refine wX9_next_55 ?_
      refine wX9_next_56 hM.c ?_
      refine wX9_next_59 ?_
      refine wX9_next_60 hM.c ?_
      refine wX9_next_63 (fun c63 => ?_) (fun c63 => ?_)
      · have hsl : ¬ r.ln ≤ s := fun z => c63 (by
          show M1.1 18 = M1.1 17
          rw [m18, T.2 17 (by decide), c3, show s = r.ln by omega])
        have hbe : ∀ k, k < r.ln → bt (f k) ∧ M1.2.2 5 k = f k &&& 255 := (fun k hk => by rw [T.1]; exact c2 k hk)
        have hme := mbt_at hbe (show s < r.ln by omega)
        have hch := bt_ch (c2 s (by omega)).1
        have hT2 : q_tx M (mS M1 19 (M1.1 18)) := T.s (by decide)
        refine wX9_next_74 ?_
        refine wX9_next_75 ?_
        refine wX9_next_76 hM.c ?_
        rw [show (mS M1 19 (M1.1 18)).1 18 = nI s from m18]
        refine wX9_next_79 hM.c (mX9_isLetterAt hM ((hT2.2 17 (by decide)).trans c3) c1 (by omega) ?_)
        rw [show mbt (mS M1 19 (M1.1 18)) r.ln s = f s &&& 255 from hme, hch.2.2.2.1]
        refine wX9_next_82 (fun c82 => ?_) (fun c82 => ?_)
        · refine wX9_next_117 ?_
          refine wX9_next_118 ?_
          refine wX9_next_119 hM.c ?_
          rw [show (mS M1 19 (M1.1 18)).1 18 = nI s from m18]
          refine wX9_next_122 hM.c (mX9_isDigitAt hM ((hT2.2 17 (by decide)).trans c3) c1 (by omega) ?_)
          rw [show mbt (mS M1 19 (M1.1 18)) r.ln s = f s &&& 255 from hme, hch.2.2.2.2.1]
          refine wX9_next_125 (fun c125 => ?_) (fun c125 => ?_)
          · refine wX9_next_220 ?_
            refine wX9_next_221 ?_
            refine wX9_next_222 ?_
            refine wX9_next_223 hM.c ?_
            rw [show (mS M1 19 (M1.1 18)).1 18 = nI s from m18]
            refine wX9_next_226 hM.c (mX9_byteAt hM ((hT2.2 17 (by decide)).trans c3) c1 (by omega) ?_)
            rw [show mbt (mS M1 19 (M1.1 18)) r.ln s = f s &&& 255 from hme]
            refine wX9_next_229 ?_
            refine wX9_next_231 (fun c231 => ?_) (fun c231 => ?_)
            · refine wX9_next_238 ?_
              refine wX9_next_239 hM.c ?_
              refine q_sx (k := 20) hM ho (fun h2 hM ho => ?_)
              refine wX9_next_242 ?_
              refine wX9_next_243 ?_
              refine wX9_next_244 hM.c ?_
              refine wX9_next_247 ?_
              refine wX9_next_248 ?_
              refine wX9_next_249 hM.c ?_
              refine q_sx (k := 18) hM ho (fun h2 hM ho => ?_)
              refine wX9_next_252  ?_
              have q1 : ¬ ch_let (f s) = true := by rw [q_b0 c82]; decide
              have q2 : ¬ ch_dig (f s) = true := by rw [q_b0 c125]; decide
              have hT : rd_tok f r = (r.ec, r.ea, r.ct, r.ln, s + 1, if f s = 59 then 3 else 4, s, r.vl, r.na) := by unfold rd_tok; rw [← es, if_neg hsl, if_neg q1, if_neg q2]
              first
                | (have q9 : f s &&& 255 = 59 := c231
                   refine hfin _ _ hM (((T.s (by decide)).s (by decide)).s (by decide)) m22 m23 ho (show M1.1 18 + 1 = _ from ?_) (show M1.1 18 = _ from ?_) (show (4 : Int32) = _ from ?_) (fun z => ?_)
                   · rw [hT, m18, nI_1]
                   · rw [hT, m18]
                   · rw [hT]; show 4 = tkm (if f s = 59 then 3 else 4); rw [if_pos (hch.2.2.1.mp q9)]; try rfl
                   · rw [hT] at z; have z2 : (if f s = 59 then (3 : Int32) else 4) = 2 := z; split at z2 <;> exact absurd z2 (by decide))
                | (have q9 : ¬ f s &&& 255 = 59 := c231
                   refine hfin _ _ hM (((T.s (by decide)).s (by decide)).s (by decide)) m22 m23 ho (show M1.1 18 + 1 = _ from ?_) (show M1.1 18 = _ from ?_) (show (1 : Int32) = _ from ?_) (fun z => ?_)
                   · rw [hT, m18, nI_1]
                   · rw [hT, m18]
                   · rw [hT]; show 1 = tkm (if f s = 59 then 3 else 4); rw [if_neg (fun z => q9 (hch.2.2.1.mpr z))]; try rfl
                   · rw [hT] at z; have z2 : (if f s = 59 then (3 : Int32) else 4) = 2 := z; split at z2 <;> exact absurd z2 (by decide))
            · refine wX9_next_234 ?_
              refine wX9_next_235 ?_
              refine wX9_next_239 hM.c ?_
              refine q_sx (k := 20) hM ho (fun h2 hM ho => ?_)
              refine wX9_next_242 ?_
              refine wX9_next_243 ?_
              refine wX9_next_244 hM.c ?_
              refine wX9_next_247 ?_
              refine wX9_next_248 ?_
              refine wX9_next_249 hM.c ?_
              refine q_sx (k := 18) hM ho (fun h2 hM ho => ?_)
              refine wX9_next_252  ?_
              have q1 : ¬ ch_let (f s) = true := by rw [q_b0 c82]; decide
              have q2 : ¬ ch_dig (f s) = true := by rw [q_b0 c125]; decide
              have hT : rd_tok f r = (r.ec, r.ea, r.ct, r.ln, s + 1, if f s = 59 then 3 else 4, s, r.vl, r.na) := by unfold rd_tok; rw [← es, if_neg hsl, if_neg q1, if_neg q2]
              first
                | (have q9 : f s &&& 255 = 59 := c231
                   refine hfin _ _ hM (((T.s (by decide)).s (by decide)).s (by decide)) m22 m23 ho (show M1.1 18 + 1 = _ from ?_) (show M1.1 18 = _ from ?_) (show (4 : Int32) = _ from ?_) (fun z => ?_)
                   · rw [hT, m18, nI_1]
                   · rw [hT, m18]
                   · rw [hT]; show 4 = tkm (if f s = 59 then 3 else 4); rw [if_pos (hch.2.2.1.mp q9)]; try rfl
                   · rw [hT] at z; have z2 : (if f s = 59 then (3 : Int32) else 4) = 2 := z; split at z2 <;> exact absurd z2 (by decide))
                | (have q9 : ¬ f s &&& 255 = 59 := c231
                   refine hfin _ _ hM (((T.s (by decide)).s (by decide)).s (by decide)) m22 m23 ho (show M1.1 18 + 1 = _ from ?_) (show M1.1 18 = _ from ?_) (show (1 : Int32) = _ from ?_) (fun z => ?_)
                   · rw [hT, m18, nI_1]
                   · rw [hT, m18]
                   · rw [hT]; show 1 = tkm (if f s = 59 then 3 else 4); rw [if_neg (fun z => q9 (hch.2.2.1.mpr z))]; try rfl
                   · rw [hT] at z; have z2 : (if f s = 59 then (3 : Int32) else 4) = 2 := z; split at z2 <;> exact absurd z2 (by decide))
          · refine wX9_next_128 ?_
            refine wX9_next_129 ?_
            refine wX9_next_130 hM.c ?_
            refine q_sx (k := 21) hM ho (fun h2 hM ho => ?_)
            exact hdig hsl (by rw [q_b0 c82]; decide) (q_b1 c125) (r.ln - s) s 0 _ _ (Nat.le_refl _) (by omega) rfl hM (hT2.s (by decide)) m22 m23 ho m18 m18 (fun _ => rfl)
        · exact hlet hsl (q_b1 c82) (r.ln - s) s _ _ (by omega) rfl hM hT2 m22 m23 ho m18 m18
      · refine wX9_next_66 ?_
        refine wX9_next_67 ?_
        refine wX9_next_68 hM.c ?_
        refine q_sx (k := 20) hM ho (fun h2 hM ho => ?_)
        refine wX9_next_71 ?_
        refine wX9_next_252  ?_
        have q9 : nI s = nI r.ln := by
          have q : M1.1 18 = M1.1 17 := c63
          rw [m18, T.2 17 (by decide), c3] at q
          exact q
        have q8 : r.ln ≤ s := Nat.le_of_eq (nI_inj (by omega) (by omega) q9).symm
        have hT : rd_tok f r = (r.ec, r.ea, r.ct, r.ln, s, 0, s, r.vl, r.na) := by unfold rd_tok; rw [← es, if_pos q8]
        refine hfin _ _ hM ((T.s (by decide)).s (by decide)) m22 m23 ho (show M1.1 18 = _ from ?_) (show M1.1 18 = _ from ?_) (show (0 : Int32) = _ from ?_) (fun z => ?_)
        · rw [hT, m18]
        · rw [hT, m18]
        · rw [hT]; rfl
        · rw [hT] at z; exact absurd (show (0 : Int32) = 2 from z) (by decide)
    have h8 : ∀ m e hh M1, e + m = r.ln → rd_run (fun k => ch_sp (f k)) m e = s → isM hh a M1 → q_tx M M1 → M1.1 22 = 0 → M1.1 23 = r.ea → q_out a 13 h hh → M1.1 18 = nI e → QW V iX9_next 8 [some (.ref a)] [] hh z 0 0 (q_Kv P) Kx := by
      intro m
      induction m with
      | zero =>
        intro e hh M1 hem hrun hM T m22 m23 ho m18
        refine wX9_next_8 ?_
        refine wX9_next_9 ?_
        refine wX9_next_10 hM.c ?_
        rw [m18]
        refine wX9_next_13 hM.c (mX9_byteAt hM ((T.2 17 (by decide)).trans c3) c1 (by omega) ?_)
        refine wX9_next_16 ?_
        refine wX9_next_18 (fun c18 => absurd c18 (by rw [mbt_no (by omega)]; decide)) (fun c18 => ?_)
        refine wX9_next_21 ?_
        refine wX9_next_22 ?_
        refine wX9_next_23 hM.c ?_
        rw [m18]
        refine wX9_next_26 hM.c (mX9_byteAt hM ((T.2 17 (by decide)).trans c3) c1 (by omega) ?_)
        refine wX9_next_29 ?_
        refine wX9_next_31 (fun c31 => ?_) (fun c31 => absurd c31 (by rw [mbt_no (by omega)]; decide))
        exact h47 _ _ hM T m22 m23 ho (by rw [m18, ← hrun]; try rfl)
      | succ m ih =>
        intro e hh M1 hem hrun hM T m22 m23 ho m18
        have hbe : ∀ k, k < r.ln → bt (f k) ∧ M1.2.2 5 k = f k &&& 255 := (fun k hk => by rw [T.1]; exact c2 k hk)
        have he : e < r.ln := by omega
        have hme := mbt_at hbe he
        have hch := bt_ch (c2 e he).1
        have hgo : ch_sp (f e) = true → ∀ hh M1, isM hh a M1 → q_tx M M1 → M1.1 22 = 0 → M1.1 23 = r.ea → q_out a 13 h hh → M1.1 18 = nI e → QW V iX9_next 34 [some (.ref a)] [] hh z 0 0 (q_Kv P) Kx := by
          intro q9 hh M1 hM T m22 m23 ho m18
          refine wX9_next_34 ?_
          refine wX9_next_35 ?_
          refine wX9_next_36 hM.c ?_
          refine wX9_next_39 ?_
          refine wX9_next_40 ?_
          refine wX9_next_41 hM.c ?_
          refine q_sx (k := 18) hM ho (fun h2 hM ho => ?_)
          refine wX9_next_44 ?_
          refine ih (e + 1) _ _ (by omega) ?_ hM (T.s (by decide)) m22 m23 ho (show M1.1 18 + 1 = _ by rw [m18, nI_1])
          rw [← hrun, rd_run, if_pos q9]
        refine wX9_next_8 ?_
        refine wX9_next_9 ?_
        refine wX9_next_10 hM.c ?_
        rw [m18]
        refine wX9_next_13 hM.c (mX9_byteAt hM ((T.2 17 (by decide)).trans c3) c1 (by omega) ?_)
        rw [hme]
        refine wX9_next_16 ?_
        refine wX9_next_18 (fun c18 => ?_) (fun c18 => ?_)
        · first
            | (have q9 : f e &&& 255 = 10 := c31; exact hgo (decide_eq_true (Or.inr (hch.2.1.mp q9))) _ _ hM T m22 m23 ho m18)
            | (have q9 : f e &&& 255 = 32 := c18; exact hgo (decide_eq_true (Or.inl (hch.1.mp q9))) _ _ hM T m22 m23 ho m18)
        · refine wX9_next_21 ?_
          refine wX9_next_22 ?_
          refine wX9_next_23 hM.c ?_
          rw [m18]
          refine wX9_next_26 hM.c (mX9_byteAt hM ((T.2 17 (by decide)).trans c3) c1 (by omega) ?_)
          rw [hme]
          refine wX9_next_29 ?_
          refine wX9_next_31 (fun c31 => ?_) (fun c31 => ?_)
          · have q9 : ¬ ch_sp (f e) = true := fun z => (of_decide_eq_true z).elim (fun z => c18 (hch.1.mpr z)) (fun z => c31 (hch.2.1.mpr z))
            exact h47 _ _ hM T m22 m23 ho (by rw [m18, ← hrun, rd_run, if_neg q9])
          · first
              | (have q9 : f e &&& 255 = 10 := c31; exact hgo (decide_eq_true (Or.inr (hch.2.1.mp q9))) _ _ hM T m22 m23 ho m18)
              | (have q9 : f e &&& 255 = 32 := c18; exact hgo (decide_eq_true (Or.inl (hch.1.mp q9))) _ _ hM T m22 m23 ho m18)
    refine eX9_next ?_
    refine wX9_next_0 ?_
    refine wX9_next_1 hM.c (mX9_isFine hM ?_)
    refine wX9_next_4 (fun c4b => ?_) (fun c4b => absurd c4b (by rw [show M.1 22 = 0 from c4.trans e0]; decide))
    exact h8 (r.ln - r.en) r.en _ _ (by have := c6; omega) es.symm hM q_tx.r (c4.trans e0) c5 ho g1
  · refine eX9_next ?_
    refine wX9_next_0 ?_
    refine wX9_next_1 hM.c (mX9_isFine hM ?_)
    refine wX9_next_4 (fun c4b => absurd c4b (by rw [c4, decide_eq_false e0]; decide)) (fun c4b => ?_)
    refine wX9_next_7  ?_
    obtain ⟨t1, t2, t3, t4, t5⟩ := rd_tok_ec (f := f) (r := r)
    exact hk _ _ hM q_tx.r ⟨by rw [t4]; exact c1, by rw [t4]; exact c2, by rw [t4]; exact c3, by rw [t1]; exact c4, by rw [t2]; exact c5, (rd_tok_ok c6).1, rd_tok_kd, fun z => absurd (t1.symm.trans z) e0⟩ ho
theorem mX9_next {a : Nat} {M : q_Mo} {f : Nat → Int32} {r : q_Rd} {P : q_H → Option Nat → Prop} (hM : isM h a M) (hc : cpl M f r) (hk : ∀ h2 M2, isM h2 a M2 → q_tx M M2 → cpl M2 f (rd_tok f r) → q_out a 13 h h2 → P h2 z) : QMv V iX9_next [.ref a] h z P Kx := mX9_next0 hM hc.w hk
end CX9h
