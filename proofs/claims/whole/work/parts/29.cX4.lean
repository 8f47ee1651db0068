/-! SalaryCapLedger$Reader: tokens -/
section CX4
variable {V : q_En} {h : q_H} {z : Option Nat} {Kx : q_KX}
abbrev q_Rd : Type := Int32 × Int32 × Int32 × Nat × Nat × Int32 × Nat × Int32 × Int32
abbrev q_Rd.ec (r : q_Rd) : Int32 := r.1
abbrev q_Rd.ea (r : q_Rd) : Int32 := r.2.1
abbrev q_Rd.ct (r : q_Rd) : Int32 := r.2.2.1
abbrev q_Rd.ln (r : q_Rd) : Nat := r.2.2.2.1
abbrev q_Rd.en (r : q_Rd) : Nat := r.2.2.2.2.1
abbrev q_Rd.kd (r : q_Rd) : Int32 := r.2.2.2.2.2.1
abbrev q_Rd.st (r : q_Rd) : Nat := r.2.2.2.2.2.2.1
abbrev q_Rd.vl (r : q_Rd) : Int32 := r.2.2.2.2.2.2.2.1
abbrev q_Rd.na (r : q_Rd) : Int32 := r.2.2.2.2.2.2.2.2
abbrev readE (a td : Nat) (r : q_Rd) : q_E := .inr (5, [.int r.ec, .int r.ea, .int r.ct, .ref td, .int (nI r.ln), .int (nI r.en), .int r.kd, .int (nI r.st), .int r.vl, .int r.na, .ref (a + 2)])
/-- a row of bytes -/
def isY (h : q_H) (a n : Nat) (f : Nat → Int32) : Prop := ∃ g, h a = some (.inl (0, n, .inl g)) ∧ ∀ k, k < n → g k = f k
theorem isY.o {a b n m : Nat} {f : Nat → Int32} {h' : q_H} (hA : isY h a n f) (ho : q_out b m h h') (ne : a < b ∨ b + m ≤ a) : isY h' a n f := by
  obtain ⟨g, h1, h2⟩ := hA
  exact ⟨g, by rw [ho a ne]; exact h1, h2⟩
theorem isY.n {a b n : Nat} {f : Nat → Int32} {e : q_E} (hA : isY h a n f) (ne : a ≠ b) : isY (q_up h b e) a n f := by
  obtain ⟨g, h1, h2⟩ := hA
  exact ⟨g, by rw [q_up_n ne]; exact h1, h2⟩
def ch_let (x : Int32) : Bool := decide (¬ x < 97 ∧ ¬ 122 < x)
def ch_dig (x : Int32) : Bool := decide (¬ x < 48 ∧ ¬ 57 < x)
def ch_sp (x : Int32) : Bool := decide (x = 32 ∨ x = 10)
def rd_run (p : Nat → Bool) : Nat → Nat → Nat
  | 0, s => s
  | n + 1, s => if p s = true then rd_run p n (s + 1) else s
theorem rd_run_b {p : Nat → Bool} (n s : Nat) : s ≤ rd_run p n s ∧ rd_run p n s ≤ s + n := by
  induction n generalizing s with
  | zero => exact ⟨Nat.le_refl _, Nat.le_refl _⟩
  | succ n ih =>
    rw [rd_run]
    have := ih (s + 1)
    split <;> omega
def rd_nv (f : Nat → Int32) (s : Nat) : Nat → Nat → Int32 → Nat × Int32
  | 0, e, v => (e, v)
  | n + 1, e, v => if ch_dig (f e) = true then rd_nv f s n (e + 1) (if e - s < 6 then v * 10 + (f e - 48) else 0) else (e, v)
theorem rd_nv_b {f : Nat → Int32} {s : Nat} (n e : Nat) (v : Int32) : e ≤ (rd_nv f s n e v).1 ∧ (rd_nv f s n e v).1 ≤ e + n := by
  induction n generalizing e v with
  | zero => exact ⟨Nat.le_refl _, Nat.le_refl _⟩
  | succ n ih =>
    rw [rd_nv]
    have := ih (e + 1) (if e - s < 6 then v * 10 + (f e - 48) else 0)
    split <;> (try simp only) <;> omega
def rd_num (f : Nat → Int32) (r : q_Rd) : q_Rd :=
  (r.ec, r.ea, r.ct, r.ln, (rd_nv f r.st (r.ln - r.en) r.en 0).1, if (rd_nv f r.st (r.ln - r.en) r.en 0).1 - r.st ≤ 6 then 2 else 4, r.st, (rd_nv f r.st (r.ln - r.en) r.en 0).2, r.na)
def rd_s (f : Nat → Int32) (r : q_Rd) : Nat := rd_run (fun k => ch_sp (f k)) (r.ln - r.en) r.en
def rd_tok (f : Nat → Int32) (r : q_Rd) : q_Rd :=
  if r.ln ≤ rd_s f r then (r.ec, r.ea, r.ct, r.ln, rd_s f r, 0, rd_s f r, r.vl, r.na)
  else if ch_let (f (rd_s f r)) = true then (r.ec, r.ea, r.ct, r.ln, rd_run (fun k => ch_let (f k)) (r.ln - rd_s f r) (rd_s f r), 1, rd_s f r, r.vl, r.na)
  else if ch_dig (f (rd_s f r)) = true then rd_num f (r.ec, r.ea, r.ct, r.ln, rd_s f r, r.kd, rd_s f r, r.vl, r.na)
  else (r.ec, r.ea, r.ct, r.ln, rd_s f r + 1, if f (rd_s f r) = 59 then 3 else 4, rd_s f r, r.vl, r.na)
def rd_bad (r : q_Rd) : Bool := decide (¬ r.ec = 0)
def rd_fail (r : q_Rd) (c p : Int32) : q_Rd := if rd_bad r = true then r else (c, p, r.ct, r.ln, r.en, r.kd, r.st, r.vl, r.na)
/-- the places are in order -/
def rd_ok (r : q_Rd) : Prop := r.st ≤ r.en ∧ r.en ≤ r.ln
theorem rd_num_ok {f : Nat → Int32} {r : q_Rd} (hr : rd_ok r) : rd_ok (rd_num f r) ∧ (rd_num f r).ln = r.ln := by
  have := rd_nv_b (f := f) (s := r.st) (r.ln - r.en) r.en 0
  obtain ⟨h1, h2⟩ := hr
  exact ⟨⟨by show r.st ≤ (rd_nv f r.st (r.ln - r.en) r.en 0).1; omega, by show (rd_nv f r.st (r.ln - r.en) r.en 0).1 ≤ r.ln; omega⟩, rfl⟩
theorem rd_s_b {f : Nat → Int32} {r : q_Rd} (hr : r.en ≤ r.ln) : r.en ≤ rd_s f r ∧ rd_s f r ≤ r.ln := by
  have := rd_run_b (p := fun k => ch_sp (f k)) (r.ln - r.en) r.en
  unfold rd_s; omega
theorem rd_tok_ok {f : Nat → Int32} {r : q_Rd} (hr : r.en ≤ r.ln) : rd_ok (rd_tok f r) ∧ (rd_tok f r).ln = r.ln := by
  have hs := rd_s_b (f := f) hr
  unfold rd_tok
  split
  · exact ⟨⟨Nat.le_refl _, hs.2⟩, rfl⟩
  · split
    · have := rd_run_b (p := fun k => ch_let (f k)) (r.ln - rd_s f r) (rd_s f r)
      exact ⟨⟨this.1, by show rd_run _ _ _ ≤ r.ln; omega⟩, rfl⟩
    · split
      · exact rd_num_ok (r := (r.ec, r.ea, r.ct, r.ln, rd_s f r, r.kd, rd_s f r, r.vl, r.na)) ⟨Nat.le_refl _, hs.2⟩
      · exact ⟨⟨by show rd_s f r ≤ rd_s f r + 1; omega, by show rd_s f r + 1 ≤ r.ln; omega⟩, rfl⟩
theorem rd_fail_ok {r : q_Rd} {c p : Int32} (hr : rd_ok r) : rd_ok (rd_fail r c p) ∧ (rd_fail r c p).ln = r.ln := by
  unfold rd_fail; split
  · exact ⟨hr, rfl⟩
  · exact ⟨hr, rfl⟩
theorem nI_sb {a b : Nat} (hb : b ≤ a) : nI a - nI b = nI (a - b) := by
  have : nI a = nI (a - b) + nI b := by rw [nI_add]; congr 1; omega
  rw [this, Int32.add_sub_cancel]
def rd_is (f : Nat → Int32) (r : q_Rd) (i : Nat) : Bool := decide (r.ec = 0 ∧ r.kd = 1 ∧ r.en - r.st = q_sn i ∧ ∀ k, k < q_sn i → f (r.st + k) = q_sc i k)
def rd_word (f : Nat → Int32) (r : q_Rd) (i : Nat) : q_Rd := if rd_is f r i = true then rd_tok f r else rd_fail r 1 (nI r.st)
def rd_semi (f : Nat → Int32) (r : q_Rd) : q_Rd := if r.kd = 3 then rd_tok f r else rd_fail r 1 (nI r.st)
def rd_nb (f : Nat → Int32) (r : q_Rd) (lo hi : Int32) : Int32 × q_Rd :=
  if rd_bad r = true then (lo, r) else if r.kd = 2 then (if r.vl < lo ∨ ¬ r.vl ≤ hi then (lo, rd_fail r 2 (nI r.st)) else (r.vl, rd_tok f (r.ec, r.ea, r.ct, r.ln, r.en, r.kd, r.st, r.vl, nI r.st))) else (lo, rd_fail r 1 (nI r.st))
theorem rd_word_ok {f : Nat → Int32} {r : q_Rd} {i : Nat} (hr : rd_ok r) : rd_ok (rd_word f r i) ∧ (rd_word f r i).ln = r.ln := by
  unfold rd_word; split
  · exact rd_tok_ok hr.2
  · exact rd_fail_ok hr
theorem rd_semi_ok {f : Nat → Int32} {r : q_Rd} (hr : rd_ok r) : rd_ok (rd_semi f r) ∧ (rd_semi f r).ln = r.ln := by
  unfold rd_semi; split
  · exact rd_tok_ok hr.2
  · exact rd_fail_ok hr
theorem rd_nb_ok {f : Nat → Int32} {r : q_Rd} {lo hi : Int32} (hr : rd_ok r) : rd_ok (rd_nb f r lo hi).2 ∧ (rd_nb f r lo hi).2.ln = r.ln := by
  unfold rd_nb; split
  · exact ⟨hr, rfl⟩
  · split
    · split
      · exact rd_fail_ok hr
      · exact rd_tok_ok (r := (r.ec, r.ea, r.ct, r.ln, r.en, r.kd, r.st, r.vl, nI r.st)) hr.2
    · exact rd_fail_ok hr
theorem rd_nb_in {f : Nat → Int32} {r : q_Rd} {lo hi : Int32} (hle : lo ≤ hi) : lo ≤ (rd_nb f r lo hi).1 ∧ (rd_nb f r lo hi).1 ≤ hi := by
  unfold rd_nb
  have h0 : lo ≤ lo := Int32.le_refl lo
  split
  · exact ⟨h0, hle⟩
  · split
    · split
      · exact ⟨h0, hle⟩
      · rename_i q
        rw [not_or, Int32.not_lt, Classical.not_not] at q
        exact q
    · exact ⟨h0, hle⟩
def rd_0 : q_Rd := (0, -1, 0, 0, 0, 0, 0, 0, 0)
theorem mX4_failed {a td : Nat} {r : q_Rd} {P : Int32 → q_H → Option Nat → Prop} (hr : h a = some (readE a td r)) (hk : P (q_b (rd_bad r)) h z) : QMi V iX4_failed [.ref a] h z P Kx := by
  refine eX4_failed ?_
  refine wX4_failed_0 ?_
  refine wX4_failed_1 hr ?_
  refine wX4_failed_4 (fun c4 => ?_) (fun c4 => ?_)
  · refine wX4_failed_11 ?_
    refine wX4_failed_12  ?_
    exact q_cv (by simp [rd_bad, q_b, c4]) hk
  · refine wX4_failed_7 ?_
    refine wX4_failed_8 ?_
    refine wX4_failed_12  ?_
    exact q_cv (by simp [rd_bad, q_b, c4]) hk
theorem mX4_fail {a td : Nat} {r : q_Rd} {c p : Int32} {P : q_H → Option Nat → Prop} (hr : h a = some (readE a td r)) (hk : P (q_up h a (readE a td (rd_fail r c p))) z) : QMv V iX4_fail [.ref a, .int c, .int p] h z P Kx := by
  refine eX4_fail ?_
  refine q_lsh rfl (q_up_i hr).symm ?_
  refine wX4_fail_0 ?_
  refine wX4_fail_1 q_up_s (mX4_failed (r := r) q_up_s ?_)
  refine wX4_fail_4 (fun c4 => ?_) (fun c4 => ?_)
  · refine wX4_fail_17  ?_
    first
      | (rw [rd_fail, if_pos (q_b1 c4)] at hk; exact hk)
      | (rw [rd_fail, if_neg (by rw [q_b0 c4]; decide)] at hk; exact hk)
  · refine wX4_fail_7 ?_
    refine wX4_fail_8 ?_
    refine wX4_fail_9u ?_
    refine wX4_fail_12 ?_
    refine wX4_fail_13 ?_
    refine wX4_fail_14u ?_
    refine wX4_fail_17  ?_
    first
      | (rw [rd_fail, if_pos (q_b1 c4)] at hk; exact hk)
      | (rw [rd_fail, if_neg (by rw [q_b0 c4]; decide)] at hk; exact hk)
theorem mX4_isLetter {a td N j : Nat} {r : q_Rd} {f : Nat → Int32} {P : Int32 → q_H → Option Nat → Prop} (hr : h a = some (readE a td r)) (hY : isY h td N f) (hN : N < 2147483648) (hj : j < N) (hk : P (q_b (ch_let (f j))) h z) : QMi V iX4_isLetter [.ref a, .int (nI j)] h z P Kx := by
  obtain ⟨g, hg, eg⟩ := hY
  have eg := eg j hj
  refine eX4_isLetter ?_
  refine wX4_isLetter_0 ?_
  refine wX4_isLetter_1 hr ?_
  refine wX4_isLetter_4 ?_
  refine wX4_isLetter_5 hg rfl hj hN ?_
  rw [eg]
  refine wX4_isLetter_6 ?_
  refine wX4_isLetter_8 (fun c8 => ?_) (fun c8 => ?_)
  · refine wX4_isLetter_26 ?_
    refine wX4_isLetter_27  ?_
    refine q_cv ?_ hk
    first
      | simp [ch_let, q_b, c8, c19]
      | simp [ch_let, q_b, c8]
  · refine wX4_isLetter_11 ?_
    refine wX4_isLetter_12 hr ?_
    refine wX4_isLetter_15 ?_
    refine wX4_isLetter_16 hg rfl hj hN ?_
    rw [eg]
    refine wX4_isLetter_17 ?_
    refine wX4_isLetter_19 (fun c19 => ?_) (fun c19 => ?_)
    · refine wX4_isLetter_26 ?_
      refine wX4_isLetter_27  ?_
      refine q_cv ?_ hk
      first
        | simp [ch_let, q_b, c8, c19]
        | simp [ch_let, q_b, c8]
    · refine wX4_isLetter_22 ?_
      refine wX4_isLetter_23 ?_
      refine wX4_isLetter_27  ?_
      refine q_cv ?_ hk
      first
        | simp [ch_let, q_b, c8, c19]
        | simp [ch_let, q_b, c8]
theorem mX4_isDigit {a td N j : Nat} {r : q_Rd} {f : Nat → Int32} {P : Int32 → q_H → Option Nat → Prop} (hr : h a = some (readE a td r)) (hY : isY h td N f) (hN : N < 2147483648) (hj : j < N) (hk : P (q_b (ch_dig (f j))) h z) : QMi V iX4_isDigit [.ref a, .int (nI j)] h z P Kx := by
  obtain ⟨g, hg, eg⟩ := hY
  have eg := eg j hj
  refine eX4_isDigit ?_
  refine wX4_isDigit_0 ?_
  refine wX4_isDigit_1 hr ?_
  refine wX4_isDigit_4 ?_
  refine wX4_isDigit_5 hg rfl hj hN ?_
  rw [eg]
  refine wX4_isDigit_6 ?_
  refine wX4_isDigit_8 (fun c8 => ?_) (fun c8 => ?_)
  · refine wX4_isDigit_26 ?_
    refine wX4_isDigit_27  ?_
    refine q_cv ?_ hk
    first
      | simp [ch_dig, q_b, c8, c19]
      | simp [ch_dig, q_b, c8]
  · refine wX4_isDigit_11 ?_
    refine wX4_isDigit_12 hr ?_
    refine wX4_isDigit_15 ?_
    refine wX4_isDigit_16 hg rfl hj hN ?_
    rw [eg]
    refine wX4_isDigit_17 ?_
    refine wX4_isDigit_19 (fun c19 => ?_) (fun c19 => ?_)
    · refine wX4_isDigit_26 ?_
      refine wX4_isDigit_27  ?_
      refine q_cv ?_ hk
      first
        | simp [ch_dig, q_b, c8, c19]
        | simp [ch_dig, q_b, c8]
    · refine wX4_isDigit_22 ?_
      refine wX4_isDigit_23 ?_
      refine wX4_isDigit_27  ?_
      refine q_cv ?_ hk
      first
        | simp [ch_dig, q_b, c8, c19]
        | simp [ch_dig, q_b, c8]
/-- digits -/
theorem nI_le6 {n : Nat} (hn : n < 2147483648) (c : ¬ (6 : Int32) < nI n) : n ≤ 6 := by
  by_cases q : n ≤ 6
  · exact q
  · exact absurd (by rw [← Int32.not_le]; exact nI_ge (show 6 < n by omega) hn) c
theorem nI_lt6 {n : Nat} (hn : n < 2147483648) (c : ¬ (6 : Int32) ≤ nI n) : n < 6 := by
  by_cases q : n < 6
  · exact q
  · exact absurd (nI_le (a := 6) (by omega) hn) c
theorem mX4_num_lp {a td N : Nat} {f : Nat → Int32} {Kr : q_KR} (hY : isY h td N f) (hne : td ≠ a) (hN : N < 2147483648) : ∀ n (r : q_Rd), rd_ok r → r.ln ≤ N → r.ln - r.en = n → QW V iX4_findNumber 82 [some (.ref a)] [] (q_up h a (readE a td (r.ec, r.ea, r.ct, r.ln, (rd_nv f r.st n r.en r.vl).1, r.kd, r.st, (rd_nv f r.st n r.en r.vl).2, r.na))) z 0 0 Kr Kx → QW V iX4_findNumber 5 [some (.ref a)] [] (q_up h a (readE a td r)) z 0 0 Kr Kx := by
  obtain ⟨g, hg, eg⟩ := hY
  intro n
  induction n with
  | zero =>
    intro r hok hln hn kk
    obtain ⟨q1, q2⟩ := hok
    refine wX4_findNumber_5 ?_
    refine wX4_findNumber_6u ?_
    refine wX4_findNumber_9 ?_
    refine wX4_findNumber_10u ?_
    refine wX4_findNumber_13 (fun c13 => ?_) (fun c13 => absurd (by exact nI_le (by omega) (by omega)) c13)
    exact kk
  | succ n ih =>
    intro r hok hln hn kk
    obtain ⟨q1, q2⟩ := hok
    refine wX4_findNumber_5 ?_
    refine wX4_findNumber_6u ?_
    refine wX4_findNumber_9 ?_
    refine wX4_findNumber_10u ?_
    refine wX4_findNumber_13 (fun c13 => absurd c13 (nI_ge (by omega) (by omega))) (fun c13 => ?_)
    refine wX4_findNumber_16 ?_
    refine wX4_findNumber_17 ?_
    refine wX4_findNumber_18u ?_
    refine wX4_findNumber_21 q_up_s (mX4_isDigit (j := r.en) (r := r) q_up_s (isY.n ⟨g, hg, eg⟩ hne) hN (by omega) ?_)
    refine wX4_findNumber_24 (fun c24 => ?_) (fun c24 => ?_)
    · rw [rd_nv, if_neg (by rw [q_b0 c24]; decide)] at kk
      exact kk
    · refine wX4_findNumber_27 ?_
      refine wX4_findNumber_28 ?_
      refine wX4_findNumber_29u ?_
      refine wX4_findNumber_32 ?_
      refine wX4_findNumber_33u ?_
      refine wX4_findNumber_36 ?_
      rw [nI_sb (by omega)]
      refine wX4_findNumber_37 ?_
      refine wX4_findNumber_39 (fun c39 => ?_) (fun c39 => ?_)
      · refine wX4_findNumber_65 ?_
        refine wX4_findNumber_66u ?_
        refine wX4_findNumber_69 ?_
        refine wX4_findNumber_70 ?_
        refine wX4_findNumber_71u ?_
        refine wX4_findNumber_74 ?_
        refine wX4_findNumber_75 ?_
        refine wX4_findNumber_76u ?_
        refine wX4_findNumber_79 ?_
        have hd := q_b1 c24
        rw [rd_nv, if_pos hd] at kk
        first
          | (have h6 : ¬ r.en - r.st < 6 := fun q => absurd c39 (nI_ge (b := 6) q (by decide))
             rw [if_neg h6] at kk
             exact q_lsh rfl (by rw [nI_1]) (ih (r.ec, r.ea, r.ct, r.ln, r.en + 1, r.kd, r.st, 0, r.na) ⟨by show r.st ≤ r.en + 1; omega, by show r.en + 1 ≤ r.ln; omega⟩ hln (by show r.ln - (r.en + 1) = n; omega) kk))
          | (have h6 : r.en - r.st < 6 := nI_lt6 (by omega) c39
             rw [if_pos h6] at kk
             exact q_lsh rfl (by rw [nI_1]) (ih (r.ec, r.ea, r.ct, r.ln, r.en + 1, r.kd, r.st, r.vl * 10 + (f r.en - 48), r.na) ⟨by show r.st ≤ r.en + 1; omega, by show r.en + 1 ≤ r.ln; omega⟩ hln (by show r.ln - (r.en + 1) = n; omega) kk))
      · refine wX4_findNumber_42 ?_
        refine wX4_findNumber_43u ?_
        refine wX4_findNumber_46 ?_
        refine wX4_findNumber_48 ?_
        refine wX4_findNumber_49 ?_
        refine wX4_findNumber_50u ?_
        refine wX4_findNumber_53 ?_
        refine wX4_findNumber_54u ?_
        refine wX4_findNumber_57 (by rw [q_up_n hne]; exact hg) rfl (show r.en < N by omega) hN ?_
        rw [eg _ (by omega)]
        refine wX4_findNumber_58 ?_
        refine wX4_findNumber_60 ?_
        refine wX4_findNumber_61 ?_
        refine wX4_findNumber_62 ?_
        refine wX4_findNumber_66u ?_
        refine wX4_findNumber_69 ?_
        refine wX4_findNumber_70 ?_
        refine wX4_findNumber_71u ?_
        refine wX4_findNumber_74 ?_
        refine wX4_findNumber_75 ?_
        refine wX4_findNumber_76u ?_
        refine wX4_findNumber_79 ?_
        have hd := q_b1 c24
        rw [rd_nv, if_pos hd] at kk
        first
          | (have h6 : ¬ r.en - r.st < 6 := fun q => absurd c39 (nI_ge (b := 6) q (by decide))
             rw [if_neg h6] at kk
             exact q_lsh rfl (by rw [nI_1]) (ih (r.ec, r.ea, r.ct, r.ln, r.en + 1, r.kd, r.st, 0, r.na) ⟨by show r.st ≤ r.en + 1; omega, by show r.en + 1 ≤ r.ln; omega⟩ hln (by show r.ln - (r.en + 1) = n; omega) kk))
          | (have h6 : r.en - r.st < 6 := nI_lt6 (by omega) c39
             rw [if_pos h6] at kk
             exact q_lsh rfl (by rw [nI_1]) (ih (r.ec, r.ea, r.ct, r.ln, r.en + 1, r.kd, r.st, r.vl * 10 + (f r.en - 48), r.na) ⟨by show r.st ≤ r.en + 1; omega, by show r.en + 1 ≤ r.ln; omega⟩ hln (by show r.ln - (r.en + 1) = n; omega) kk))
theorem mX4_findNumber {a td N : Nat} {r : q_Rd} {f : Nat → Int32} {P : q_H → Option Nat → Prop} (hr : h a = some (readE a td r)) (hY : isY h td N f) (hne : td ≠ a) (hN : N < 2147483648) (hok : rd_ok r) (hln : r.ln ≤ N) (hk : P (q_up h a (readE a td (rd_num f r))) z) : QMv V iX4_findNumber [.ref a] h z P Kx := by
  obtain ⟨q1, q2⟩ := hok
  refine eX4_findNumber ?_
  refine q_lsh rfl (q_up_i hr).symm ?_
  refine wX4_findNumber_0 ?_
  refine wX4_findNumber_1 ?_
  refine wX4_findNumber_2u ?_
  refine mX4_num_lp hY hne hN (r.ln - r.en) (r.ec, r.ea, r.ct, r.ln, r.en, r.kd, r.st, 0, r.na) ⟨q1, q2⟩ hln rfl ?_
  have hb := rd_nv_b (f := f) (s := r.st) (r.ln - r.en) r.en 0
  refine wX4_findNumber_82 ?_
  refine wX4_findNumber_83 ?_
  refine wX4_findNumber_84u ?_
  refine wX4_findNumber_87 ?_
  refine wX4_findNumber_88u ?_
  refine wX4_findNumber_91 ?_
  rw [nI_sb (show r.st ≤ (rd_nv f r.st (r.ln - r.en) r.en 0).1 by omega)]
  refine wX4_findNumber_92 ?_
  refine wX4_findNumber_94 (fun c94 => ?_) (fun c94 => ?_)
  · refine wX4_findNumber_101 ?_
    refine wX4_findNumber_102u ?_
    refine wX4_findNumber_105  ?_
    rw [rd_num] at hk
    first
      | (rw [if_neg (fun q => absurd c94 (by rw [Int32.not_lt]; exact nI_le (b := 6) q (by decide)))] at hk; exact hk)
      | (rw [if_pos (nI_le6 (by omega) c94)] at hk; exact hk)
  · refine wX4_findNumber_97 ?_
    refine wX4_findNumber_98 ?_
    refine wX4_findNumber_102u ?_
    refine wX4_findNumber_105  ?_
    rw [rd_num] at hk
    first
      | (rw [if_neg (fun q => absurd c94 (by rw [Int32.not_lt]; exact nI_le (b := 6) q (by decide)))] at hk; exact hk)
      | (rw [if_pos (nI_le6 (by omega) c94)] at hk; exact hk)
theorem nI_lto {a b : Nat} (ha : a < 2147483648) (c : nI a < nI b) : a < b := by
  by_cases q : a < b
  · exact q
  · exact absurd (nI_le (a := b) (b := a) (by omega) ha) (by rw [Int32.not_le]; exact c)
theorem nI_nlto {a b : Nat} (hb : b < 2147483648) (c : ¬ nI a < nI b) : b ≤ a := by
  by_cases q : b ≤ a
  · exact q
  · exact absurd (by rw [← Int32.not_le]; exact nI_ge (show a < b by omega) hb) c
theorem nI_inj {a b : Nat} (ha : a < 2147483648) (hb : b < 2147483648) (c : nI a = nI b) : a = b := by
  rcases Nat.lt_trichotomy a b with q | q | q
  · exact absurd (by rw [c]; exact Int32.le_refl _) (nI_ge q hb)
  · exact q
  · exact absurd (by rw [c]; exact Int32.le_refl _) (nI_ge q ha)
theorem rd_is_t {f : Nat → Int32} {r : q_Rd} {i : Nat} (h1 : rd_bad r = false) (h2 : r.kd = 1) (h3 : r.en - r.st = q_sn i) (h4 : ∀ k, k < q_sn i → f (r.st + k) = q_sc i k) : 1 = q_b (rd_is f r i) := by
  have : rd_is f r i = true := decide_eq_true ⟨by simpa [rd_bad] using h1, h2, h3, h4⟩
  rw [this]; rfl
theorem rd_is_f {f : Nat → Int32} {r : q_Rd} {i : Nat} (hn : ¬ (rd_bad r = false ∧ r.kd = 1 ∧ r.en - r.st = q_sn i ∧ ∀ k, k < q_sn i → f (r.st + k) = q_sc i k)) : 0 = q_b (rd_is f r i) := by
  have : rd_is f r i = false := decide_eq_false fun q => hn ⟨by simpa [rd_bad] using q.1, q.2⟩
  rw [this]; rfl
theorem mX4_sp_lp {a td N : Nat} {f : Nat → Int32} {Kr : q_KR} (hY : isY h td N f) (hne : td ≠ a) (hN : N < 2147483648) : ∀ n (r : q_Rd), r.st ≤ r.ln → r.ln ≤ N → r.ln - r.st = n → QW V iX4_findToken 60 [some (.ref a)] [] (q_up h a (readE a td (r.ec, r.ea, r.ct, r.ln, r.en, r.kd, rd_run (fun k => ch_sp (f k)) n r.st, r.vl, r.na))) z 0 0 Kr Kx → QW V iX4_findToken 8 [some (.ref a)] [] (q_up h a (readE a td r)) z 0 0 Kr Kx := by
  obtain ⟨g, hg, eg⟩ := hY
  intro n
  induction n with
  | zero =>
    intro r hok hln hn kk
    refine wX4_findToken_8 ?_
    refine wX4_findToken_9u ?_
    refine wX4_findToken_12 ?_
    refine wX4_findToken_13u ?_
    refine wX4_findToken_16 (fun c16 => ?_) (fun c16 => absurd (by exact nI_le (by omega) (by omega)) c16)
    exact kk
  | succ n ih =>
    intro r hok hln hn kk
    refine wX4_findToken_8 ?_
    refine wX4_findToken_9u ?_
    refine wX4_findToken_12 ?_
    refine wX4_findToken_13u ?_
    refine wX4_findToken_16 (fun c16 => absurd c16 (nI_ge (by omega) (by omega))) (fun c16 => ?_)
    refine wX4_findToken_19 ?_
    refine wX4_findToken_20u ?_
    refine wX4_findToken_23 ?_
    refine wX4_findToken_24u ?_
    refine wX4_findToken_27 (by rw [q_up_n hne]; exact hg) rfl (show r.st < N by omega) hN ?_
    rw [eg _ (by omega)]
    refine wX4_findToken_28 ?_
    refine wX4_findToken_30 (fun c30 => ?_) (fun c30 => ?_)
    · refine wX4_findToken_47 ?_
      refine wX4_findToken_48 ?_
      refine wX4_findToken_49u ?_
      refine wX4_findToken_52 ?_
      refine wX4_findToken_53 ?_
      refine wX4_findToken_54u ?_
      refine wX4_findToken_57 ?_
      rw [rd_run, if_pos (by first | simp [ch_sp, c30, c44] | simp [ch_sp, c30])] at kk
      exact q_lsh rfl (by rw [nI_1]) (ih (r.ec, r.ea, r.ct, r.ln, r.en, r.kd, r.st + 1, r.vl, r.na) (by show r.st + 1 ≤ r.ln; omega) hln (by show r.ln - (r.st + 1) = n; omega) kk)
    · refine wX4_findToken_33 ?_
      refine wX4_findToken_34u ?_
      refine wX4_findToken_37 ?_
      refine wX4_findToken_38u ?_
      refine wX4_findToken_41 (by rw [q_up_n hne]; exact hg) rfl (show r.st < N by omega) hN ?_
      rw [eg _ (by omega)]
      refine wX4_findToken_42 ?_
      refine wX4_findToken_44 (fun c44 => ?_) (fun c44 => ?_)
      · rw [rd_run, if_neg (by simp [ch_sp, c30, c44])] at kk
        exact kk
      · refine wX4_findToken_47 ?_
        refine wX4_findToken_48 ?_
        refine wX4_findToken_49u ?_
        refine wX4_findToken_52 ?_
        refine wX4_findToken_53 ?_
        refine wX4_findToken_54u ?_
        refine wX4_findToken_57 ?_
        rw [rd_run, if_pos (by first | simp [ch_sp, c30, c44] | simp [ch_sp, c30])] at kk
        exact q_lsh rfl (by rw [nI_1]) (ih (r.ec, r.ea, r.ct, r.ln, r.en, r.kd, r.st + 1, r.vl, r.na) (by show r.st + 1 ≤ r.ln; omega) hln (by show r.ln - (r.st + 1) = n; omega) kk)
theorem mX4_let_lp {a td N : Nat} {f : Nat → Int32} {Kr : q_KR} (hY : isY h td N f) (hne : td ≠ a) (hN : N < 2147483648) : ∀ n (r : q_Rd), r.en ≤ r.ln → r.ln ≤ N → r.ln - r.en = n → QW V iX4_findToken 189 [some (.ref a)] [] (q_up h a (readE a td (r.ec, r.ea, r.ct, r.ln, rd_run (fun k => ch_let (f k)) n r.en, r.kd, r.st, r.vl, r.na))) z 0 0 Kr Kx → QW V iX4_findToken 103 [some (.ref a)] [] (q_up h a (readE a td r)) z 0 0 Kr Kx := by
  intro n
  induction n with
  | zero =>
    intro r hok hln hn kk
    refine wX4_findToken_103 ?_
    refine wX4_findToken_104u ?_
    refine wX4_findToken_107 ?_
    refine wX4_findToken_108u ?_
    refine wX4_findToken_111 (fun c111 => ?_) (fun c111 => absurd (by exact nI_le (by omega) (by omega)) c111)
    exact kk
  | succ n ih =>
    intro r hok hln hn kk
    refine wX4_findToken_103 ?_
    refine wX4_findToken_104u ?_
    refine wX4_findToken_107 ?_
    refine wX4_findToken_108u ?_
    refine wX4_findToken_111 (fun c111 => absurd c111 (nI_ge (by omega) (by omega))) (fun c111 => ?_)
    refine wX4_findToken_114 ?_
    refine wX4_findToken_115 ?_
    refine wX4_findToken_116u ?_
    refine wX4_findToken_119 q_up_s (mX4_isLetter (j := r.en) (r := r) q_up_s (isY.n hY hne) hN (by omega) ?_)
    refine wX4_findToken_122 (fun c122 => ?_) (fun c122 => ?_)
    · rw [rd_run, if_neg (by rw [q_b0 c122]; decide)] at kk
      exact kk
    · refine wX4_findToken_125 ?_
      refine wX4_findToken_126 ?_
      refine wX4_findToken_127u ?_
      refine wX4_findToken_130 ?_
      refine wX4_findToken_131 ?_
      refine wX4_findToken_132u ?_
      refine wX4_findToken_135 ?_
      rw [rd_run, if_pos (q_b1 c122)] at kk
      exact q_lsh rfl (by rw [nI_1]) (ih (r.ec, r.ea, r.ct, r.ln, r.en + 1, r.kd, r.st, r.vl, r.na) (by show r.en + 1 ≤ r.ln; omega) hln (by show r.ln - (r.en + 1) = n; omega) kk)
theorem mX4_findToken {a td N : Nat} {r : q_Rd} {f : Nat → Int32} {P : q_H → Option Nat → Prop} (hr : h a = some (readE a td r)) (hY : isY h td N f) (hne : td ≠ a) (hN : N < 2147483648) (hok : r.en ≤ r.ln) (hln : r.ln ≤ N) (hk : P (q_up h a (readE a td (rd_tok f r))) z) : QMv V iX4_findToken [.ref a] h z P Kx := by
  have hs := rd_s_b (f := f) hok
  have q2 := hok
  refine eX4_findToken ?_
  refine q_lsh rfl (q_up_i hr).symm ?_
  refine wX4_findToken_0 ?_
  refine wX4_findToken_1 ?_
  refine wX4_findToken_2u ?_
  refine wX4_findToken_5u ?_
  refine mX4_sp_lp hY hne hN (r.ln - r.en) (r.ec, r.ea, r.ct, r.ln, r.en, r.kd, r.en, r.vl, r.na) q2 hln rfl ?_
  show QW V iX4_findToken 60 [some (.ref a)] [] (q_up h a (readE a td (r.ec, r.ea, r.ct, r.ln, r.en, r.kd, rd_s f r, r.vl, r.na))) z 0 0 (q_Kv P) Kx
  refine wX4_findToken_60 ?_
  refine wX4_findToken_61 ?_
  refine wX4_findToken_62u ?_
  refine wX4_findToken_65u ?_
  refine wX4_findToken_68 ?_
  refine wX4_findToken_69u ?_
  refine wX4_findToken_72 ?_
  refine wX4_findToken_73u ?_
  refine wX4_findToken_76 (fun c76 => ?_) (fun c76 => ?_)
  · have hlt : rd_s f r < r.ln := nI_lto (a := rd_s f r) (b := r.ln) (by omega) c76
    refine wX4_findToken_87 ?_
    refine wX4_findToken_88 ?_
    refine wX4_findToken_89u ?_
    refine wX4_findToken_92 q_up_s (mX4_isLetter (j := rd_s f r) (r := (r.ec, r.ea, r.ct, r.ln, rd_s f r, r.kd, rd_s f r, r.vl, r.na)) q_up_s (isY.n hY hne) hN (by omega) ?_)
    refine wX4_findToken_95 (fun c95 => ?_) (fun c95 => ?_)
    · refine wX4_findToken_138 ?_
      refine wX4_findToken_139 ?_
      refine wX4_findToken_140u ?_
      refine wX4_findToken_143 q_up_s (mX4_isDigit (j := rd_s f r) (r := (r.ec, r.ea, r.ct, r.ln, rd_s f r, r.kd, rd_s f r, r.vl, r.na)) q_up_s (isY.n hY hne) hN (by omega) ?_)
      refine wX4_findToken_146 (fun c146 => ?_) (fun c146 => ?_)
      · obtain ⟨g, hg, eg⟩ := hY
        refine wX4_findToken_156 ?_
        refine wX4_findToken_157 ?_
        refine wX4_findToken_158u ?_
        refine wX4_findToken_161 ?_
        refine wX4_findToken_162u ?_
        refine wX4_findToken_165 (by rw [q_up_n hne]; exact hg) rfl (show rd_s f r < N by omega) hN ?_
        rw [eg (rd_s f r) (by omega)]
        refine wX4_findToken_166 ?_
        refine wX4_findToken_168 (fun c168 => ?_) (fun c168 => ?_)
        · refine wX4_findToken_175 ?_
          refine wX4_findToken_176u ?_
          refine wX4_findToken_179 ?_
          refine wX4_findToken_180 ?_
          refine wX4_findToken_181u ?_
          refine wX4_findToken_184 ?_
          refine wX4_findToken_185 ?_
          refine wX4_findToken_186u ?_
          refine wX4_findToken_189  ?_
          first
            | (rw [rd_tok, if_pos (nI_nlto (a := rd_s f r) (b := r.ln) (by omega) c76)] at hk; exact hk)
            | (rw [rd_tok, if_neg (by omega), if_neg (by rw [q_b0 c95]; decide), if_pos (q_b1 c146)] at hk; exact hk)
            | (rw [rd_tok, if_neg (by omega), if_neg (by rw [q_b0 c95]; decide), if_neg (by rw [q_b0 c146]; decide), if_pos c168] at hk; rw [nI_1]; exact hk)
            | (rw [rd_tok, if_neg (by omega), if_neg (by rw [q_b0 c95]; decide), if_neg (by rw [q_b0 c146]; decide), if_neg c168] at hk; rw [nI_1]; exact hk)
        · refine wX4_findToken_171 ?_
          refine wX4_findToken_172 ?_
          refine wX4_findToken_176u ?_
          refine wX4_findToken_179 ?_
          refine wX4_findToken_180 ?_
          refine wX4_findToken_181u ?_
          refine wX4_findToken_184 ?_
          refine wX4_findToken_185 ?_
          refine wX4_findToken_186u ?_
          refine wX4_findToken_189  ?_
          first
            | (rw [rd_tok, if_pos (nI_nlto (a := rd_s f r) (b := r.ln) (by omega) c76)] at hk; exact hk)
            | (rw [rd_tok, if_neg (by omega), if_neg (by rw [q_b0 c95]; decide), if_pos (q_b1 c146)] at hk; exact hk)
            | (rw [rd_tok, if_neg (by omega), if_neg (by rw [q_b0 c95]; decide), if_neg (by rw [q_b0 c146]; decide), if_pos c168] at hk; rw [nI_1]; exact hk)
            | (rw [rd_tok, if_neg (by omega), if_neg (by rw [q_b0 c95]; decide), if_neg (by rw [q_b0 c146]; decide), if_neg c168] at hk; rw [nI_1]; exact hk)
      · refine wX4_findToken_149 ?_
        refine wX4_findToken_150 q_up_s (mX4_findNumber (r := (r.ec, r.ea, r.ct, r.ln, rd_s f r, r.kd, rd_s f r, r.vl, r.na)) q_up_s (isY.n hY hne) hne hN ⟨Nat.le_refl _, hs.2⟩ hln ?_)
        rw [q_up_u]
        refine wX4_findToken_153 ?_
        refine wX4_findToken_189  ?_
        first
          | (rw [rd_tok, if_pos (nI_nlto (a := rd_s f r) (b := r.ln) (by omega) c76)] at hk; exact hk)
          | (rw [rd_tok, if_neg (by omega), if_neg (by rw [q_b0 c95]; decide), if_pos (q_b1 c146)] at hk; exact hk)
          | (rw [rd_tok, if_neg (by omega), if_neg (by rw [q_b0 c95]; decide), if_neg (by rw [q_b0 c146]; decide), if_pos c168] at hk; rw [nI_1]; exact hk)
          | (rw [rd_tok, if_neg (by omega), if_neg (by rw [q_b0 c95]; decide), if_neg (by rw [q_b0 c146]; decide), if_neg c168] at hk; rw [nI_1]; exact hk)
    · refine wX4_findToken_98 ?_
      refine wX4_findToken_99 ?_
      refine wX4_findToken_100u ?_
      rw [rd_tok, if_neg (by omega), if_pos (q_b1 c95)] at hk
      exact mX4_let_lp hY hne hN (r.ln - rd_s f r) (r.ec, r.ea, r.ct, r.ln, rd_s f r, 1, rd_s f r, r.vl, r.na) hs.2 hln rfl (wX4_findToken_189 hk)
  · refine wX4_findToken_79 ?_
    refine wX4_findToken_80 ?_
    refine wX4_findToken_81u ?_
    refine wX4_findToken_84 ?_
    refine wX4_findToken_189  ?_
    first
      | (rw [rd_tok, if_pos (nI_nlto (a := rd_s f r) (b := r.ln) (by omega) c76)] at hk; exact hk)
      | (rw [rd_tok, if_neg (by omega), if_neg (by rw [q_b0 c95]; decide), if_pos (q_b1 c146)] at hk; exact hk)
      | (rw [rd_tok, if_neg (by omega), if_neg (by rw [q_b0 c95]; decide), if_neg (by rw [q_b0 c146]; decide), if_pos c168] at hk; rw [nI_1]; exact hk)
      | (rw [rd_tok, if_neg (by omega), if_neg (by rw [q_b0 c95]; decide), if_neg (by rw [q_b0 c146]; decide), if_neg c168] at hk; rw [nI_1]; exact hk)
theorem mX4_isWord {a td N : Nat} {r : q_Rd} {f : Nat → Int32} {i : Nat} {P : Int32 → q_H → Option Nat → Prop} (hi : i < 5) (hr : h a = some (readE a td r)) (hY : isY h td N f) (hne : td ≠ a) (hN : N < 2147483648) (hok : rd_ok r) (hln : r.ln ≤ N) (hk : P (q_b (rd_is f r i)) h z) : QMi V iX4_isWord [.ref a, .ref (e_K V i)] h z P Kx := by
  have h9 := q_sn_9 i hi
  obtain ⟨q1, q2⟩ := hok
  refine eX4_isWord ?_
  refine q_lsh rfl (q_up_i hr).symm ?_
  refine wX4_isWord_0 ?_
  refine wX4_isWord_1 q_up_s (mX4_failed (r := r) q_up_s ?_)
  refine wX4_isWord_4 (fun c4 => ?_) (fun c4 => ?_)
  · refine wX4_isWord_31 ?_
    refine wX4_isWord_32  ?_
    rw [q_up_i hr]
    first
      | exact q_cv (rd_is_f fun q => absurd (by rw [q.2.2.1]) c28) hk
      | exact q_cv (rd_is_f fun q => absurd q.2.1 c12) hk
      | exact q_cv (rd_is_f fun q => by have := q_b1 c4; rw [q.1] at this; cases this) hk
  · refine wX4_isWord_7 ?_
    refine wX4_isWord_8u ?_
    refine wX4_isWord_11 ?_
    refine wX4_isWord_12 (fun c12 => ?_) (fun c12 => ?_)
    · refine wX4_isWord_31 ?_
      refine wX4_isWord_32  ?_
      rw [q_up_i hr]
      first
        | exact q_cv (rd_is_f fun q => absurd (by rw [q.2.2.1]) c28) hk
        | exact q_cv (rd_is_f fun q => absurd q.2.1 c12) hk
        | exact q_cv (rd_is_f fun q => by have := q_b1 c4; rw [q.1] at this; cases this) hk
    · refine wX4_isWord_15 ?_
      refine wX4_isWord_16u ?_
      refine wX4_isWord_19 ?_
      refine wX4_isWord_20u ?_
      refine wX4_isWord_23 ?_
      rw [nI_sb q1]
      refine wX4_isWord_24 ?_
      refine wX4_isWord_25 hi (mJ0_length_8abf5 hi ?_)
      refine wX4_isWord_28 (fun c28 => ?_) (fun c28 => ?_)
      · refine wX4_isWord_33 ?_
        refine wX4_isWord_34u ?_
        refine wX4_isWord_37 ?_
        have h3 := nI_inj (by omega) (by omega) c28
        refine q_for (P := fun t => (∀ k, k < t → f (r.st + k) = q_sc i k) → QW V iX4_isWord 38 [some (.ref a), some (.ref (e_K V i)), some (.int (nI (r.st + t)))] [] (q_up h a (readE a td r)) z 0 0 (q_Ki P) Kx) (q_sn i) ?_ ?_ (fun k hk => absurd hk (by omega))
        · intro hall
          refine wX4_isWord_38 ?_
          refine wX4_isWord_39 ?_
          refine wX4_isWord_40u ?_
          refine wX4_isWord_43 (fun c43 => ?_) (fun c43 => absurd (by exact nI_le (by omega) (by omega)) c43)
          refine wX4_isWord_73 ?_
          refine wX4_isWord_74  ?_
          rw [q_up_i hr]
          exact q_cv (rd_is_t (q_b0 c4) c12 h3 hall) hk
        · intro t ht ih hall
          refine wX4_isWord_38 ?_
          refine wX4_isWord_39 ?_
          refine wX4_isWord_40u ?_
          refine wX4_isWord_43 (fun c43 => absurd c43 (nI_ge (by omega) (by omega))) (fun c43 => ?_)
          obtain ⟨g, hg, eg⟩ := hY
          refine wX4_isWord_46 ?_
          refine wX4_isWord_47u ?_
          refine wX4_isWord_50 ?_
          refine wX4_isWord_51 (by rw [q_up_n hne]; exact hg) rfl (show r.st + t < N by omega) hN ?_
          rw [eg _ (by omega)]
          refine wX4_isWord_52 ?_
          refine wX4_isWord_53 ?_
          refine wX4_isWord_54 ?_
          refine wX4_isWord_55u ?_
          refine wX4_isWord_58 ?_
          rw [nI_sb (by omega), Nat.add_sub_cancel_left]
          refine wX4_isWord_59 hi (mJ0_charAt_5068e hi ht ?_)
          refine wX4_isWord_62 (fun c62 => ?_) (fun c62 => ?_)
          · refine wX4_isWord_67 ?_
            refine wX4_isWord_70 ?_
            refine q_ls (by rw [nI_1]; rfl) (ih fun k hk => ?_)
            by_cases q : k = t
            · subst q; exact c62
            · exact hall k (by omega)
          · refine wX4_isWord_65 ?_
            refine wX4_isWord_66  ?_
            rw [q_up_i hr]
            exact q_cv (rd_is_f fun q => absurd (q.2.2.2 t ht) c62) hk
      · refine wX4_isWord_31 ?_
        refine wX4_isWord_32  ?_
        rw [q_up_i hr]
        first
          | exact q_cv (rd_is_f fun q => absurd (by rw [q.2.2.1]) c28) hk
          | exact q_cv (rd_is_f fun q => absurd q.2.1 c12) hk
          | exact q_cv (rd_is_f fun q => by have := q_b1 c4; rw [q.1] at this; cases this) hk
theorem mX4_takeWord {a td N : Nat} {r : q_Rd} {f : Nat → Int32} {i : Nat} {P : q_H → Option Nat → Prop} (hi : i < 5) (hr : h a = some (readE a td r)) (hY : isY h td N f) (hne : td ≠ a) (hN : N < 2147483648) (hok : rd_ok r) (hln : r.ln ≤ N) (hk : P (q_up h a (readE a td (rd_word f r i))) z) : QMv V iX4_takeWord [.ref a, .ref (e_K V i)] h z P Kx := by
  refine eX4_takeWord ?_
  refine q_lsh rfl (q_up_i hr).symm ?_
  refine wX4_takeWord_0 ?_
  refine wX4_takeWord_1 ?_
  refine wX4_takeWord_2 q_up_s (mX4_isWord (r := r) hi q_up_s (isY.n hY hne) hne hN hok hln ?_)
  refine wX4_takeWord_5 (fun c5 => ?_) (fun c5 => ?_)
  · refine wX4_takeWord_15 ?_
    refine wX4_takeWord_16 ?_
    refine wX4_takeWord_17 ?_
    refine wX4_takeWord_18u ?_
    refine wX4_takeWord_21 q_up_s (mX4_fail (r := r) q_up_s ?_)
    rw [q_up_u]
    refine wX4_takeWord_24  ?_
    first
      | (rw [rd_word, if_pos (q_b1 c5)] at hk; exact hk)
      | (rw [rd_word, if_neg (by rw [q_b0 c5]; decide)] at hk; exact hk)
  · refine wX4_takeWord_8 ?_
    refine wX4_takeWord_9 q_up_s (mX4_findToken (r := r) q_up_s (isY.n hY hne) hne hN hok.2 hln ?_)
    rw [q_up_u]
    refine wX4_takeWord_12 ?_
    refine wX4_takeWord_24  ?_
    first
      | (rw [rd_word, if_pos (q_b1 c5)] at hk; exact hk)
      | (rw [rd_word, if_neg (by rw [q_b0 c5]; decide)] at hk; exact hk)
theorem mX4_takeSemicolon {a td N : Nat} {r : q_Rd} {f : Nat → Int32} {P : q_H → Option Nat → Prop} (hr : h a = some (readE a td r)) (hY : isY h td N f) (hne : td ≠ a) (hN : N < 2147483648) (hok : rd_ok r) (hln : r.ln ≤ N) (hk : P (q_up h a (readE a td (rd_semi f r))) z) : QMv V iX4_takeSemicolon [.ref a] h z P Kx := by
  refine eX4_takeSemicolon ?_
  refine q_lsh rfl (q_up_i hr).symm ?_
  refine wX4_takeSemicolon_0 ?_
  refine wX4_takeSemicolon_1u ?_
  refine wX4_takeSemicolon_4 ?_
  refine wX4_takeSemicolon_5 (fun c5 => ?_) (fun c5 => ?_)
  · refine wX4_takeSemicolon_15 ?_
    refine wX4_takeSemicolon_16 ?_
    refine wX4_takeSemicolon_17 ?_
    refine wX4_takeSemicolon_18u ?_
    refine wX4_takeSemicolon_21 q_up_s (mX4_fail (r := r) q_up_s ?_)
    rw [q_up_u]
    refine wX4_takeSemicolon_24  ?_
    first
      | (rw [rd_semi, if_pos c5] at hk; exact hk)
      | (rw [rd_semi, if_neg c5] at hk; exact hk)
  · refine wX4_takeSemicolon_8 ?_
    refine wX4_takeSemicolon_9 q_up_s (mX4_findToken (r := r) q_up_s (isY.n hY hne) hne hN hok.2 hln ?_)
    rw [q_up_u]
    refine wX4_takeSemicolon_12 ?_
    refine wX4_takeSemicolon_24  ?_
    first
      | (rw [rd_semi, if_pos c5] at hk; exact hk)
      | (rw [rd_semi, if_neg c5] at hk; exact hk)
theorem mX4_takeNumber {a td N : Nat} {r : q_Rd} {f : Nat → Int32} {lo hi : Int32} {P : Int32 → q_H → Option Nat → Prop} (hr : h a = some (readE a td r)) (hY : isY h td N f) (hne : td ≠ a) (hN : N < 2147483648) (hok : rd_ok r) (hln : r.ln ≤ N) (hk : P (rd_nb f r lo hi).1 (q_up h a (readE a td (rd_nb f r lo hi).2)) z) : QMi V iX4_takeNumber [.ref a, .int lo, .int hi] h z P Kx := by
  refine eX4_takeNumber ?_
  refine q_lsh rfl (q_up_i hr).symm ?_
  refine wX4_takeNumber_0 ?_
  refine wX4_takeNumber_1 q_up_s (mX4_failed (r := r) q_up_s ?_)
  refine wX4_takeNumber_4 (fun c4 => ?_) (fun c4 => ?_)
  · refine wX4_takeNumber_9 ?_
    refine wX4_takeNumber_10u ?_
    refine wX4_takeNumber_13 ?_
    refine wX4_takeNumber_14 (fun c14 => ?_) (fun c14 => ?_)
    · refine wX4_takeNumber_28 ?_
      refine wX4_takeNumber_29u ?_
      refine wX4_takeNumber_32 ?_
      refine wX4_takeNumber_33 (fun c33 => ?_) (fun c33 => ?_)
      · refine wX4_takeNumber_44 ?_
        refine wX4_takeNumber_45 ?_
        refine wX4_takeNumber_46 ?_
        refine wX4_takeNumber_47u ?_
        refine wX4_takeNumber_50 q_up_s (mX4_fail (r := r) q_up_s ?_)
        rw [q_up_u]
        refine wX4_takeNumber_53 ?_
        refine wX4_takeNumber_54  ?_
        first
          | (rw [rd_nb, if_pos (q_b1 c4)] at hk; exact hk)
          | (rw [rd_nb, if_neg (by rw [q_b0 c4]; decide), if_neg c14] at hk; exact hk)
          | (rw [rd_nb, if_neg (by rw [q_b0 c4]; decide), if_pos c14, if_pos (Or.inl c33)] at hk; exact hk)
          | (rw [rd_nb, if_neg (by rw [q_b0 c4]; decide), if_pos c14, if_pos (Or.inr c41)] at hk; exact hk)
          | (rw [rd_nb, if_neg (by rw [q_b0 c4]; decide), if_pos c14, if_neg (fun q => q.elim c33 (fun q => q c41))] at hk; exact hk)
      · refine wX4_takeNumber_36 ?_
        refine wX4_takeNumber_37u ?_
        refine wX4_takeNumber_40 ?_
        refine wX4_takeNumber_41 (fun c41 => ?_) (fun c41 => ?_)
        · refine wX4_takeNumber_55 ?_
          refine wX4_takeNumber_56u ?_
          refine wX4_takeNumber_59 ?_
          refine wX4_takeNumber_60 ?_
          refine wX4_takeNumber_61 ?_
          refine wX4_takeNumber_62u ?_
          refine wX4_takeNumber_65u ?_
          refine wX4_takeNumber_68 ?_
          refine wX4_takeNumber_69 q_up_s (mX4_findToken (r := (r.ec, r.ea, r.ct, r.ln, r.en, r.kd, r.st, r.vl, nI r.st)) q_up_s (isY.n hY hne) hne hN hok.2 hln ?_)
          rw [q_up_u]
          refine wX4_takeNumber_72 ?_
          refine wX4_takeNumber_73  ?_
          first
            | (rw [rd_nb, if_pos (q_b1 c4)] at hk; exact hk)
            | (rw [rd_nb, if_neg (by rw [q_b0 c4]; decide), if_neg c14] at hk; exact hk)
            | (rw [rd_nb, if_neg (by rw [q_b0 c4]; decide), if_pos c14, if_pos (Or.inl c33)] at hk; exact hk)
            | (rw [rd_nb, if_neg (by rw [q_b0 c4]; decide), if_pos c14, if_pos (Or.inr c41)] at hk; exact hk)
            | (rw [rd_nb, if_neg (by rw [q_b0 c4]; decide), if_pos c14, if_neg (fun q => q.elim c33 (fun q => q c41))] at hk; exact hk)
        · refine wX4_takeNumber_44 ?_
          refine wX4_takeNumber_45 ?_
          refine wX4_takeNumber_46 ?_
          refine wX4_takeNumber_47u ?_
          refine wX4_takeNumber_50 q_up_s (mX4_fail (r := r) q_up_s ?_)
          rw [q_up_u]
          refine wX4_takeNumber_53 ?_
          refine wX4_takeNumber_54  ?_
          first
            | (rw [rd_nb, if_pos (q_b1 c4)] at hk; exact hk)
            | (rw [rd_nb, if_neg (by rw [q_b0 c4]; decide), if_neg c14] at hk; exact hk)
            | (rw [rd_nb, if_neg (by rw [q_b0 c4]; decide), if_pos c14, if_pos (Or.inl c33)] at hk; exact hk)
            | (rw [rd_nb, if_neg (by rw [q_b0 c4]; decide), if_pos c14, if_pos (Or.inr c41)] at hk; exact hk)
            | (rw [rd_nb, if_neg (by rw [q_b0 c4]; decide), if_pos c14, if_neg (fun q => q.elim c33 (fun q => q c41))] at hk; exact hk)
    · refine wX4_takeNumber_17 ?_
      refine wX4_takeNumber_18 ?_
      refine wX4_takeNumber_19 ?_
      refine wX4_takeNumber_20u ?_
      refine wX4_takeNumber_23 q_up_s (mX4_fail (r := r) q_up_s ?_)
      rw [q_up_u]
      refine wX4_takeNumber_26 ?_
      refine wX4_takeNumber_27  ?_
      first
        | (rw [rd_nb, if_pos (q_b1 c4)] at hk; exact hk)
        | (rw [rd_nb, if_neg (by rw [q_b0 c4]; decide), if_neg c14] at hk; exact hk)
        | (rw [rd_nb, if_neg (by rw [q_b0 c4]; decide), if_pos c14, if_pos (Or.inl c33)] at hk; exact hk)
        | (rw [rd_nb, if_neg (by rw [q_b0 c4]; decide), if_pos c14, if_pos (Or.inr c41)] at hk; exact hk)
        | (rw [rd_nb, if_neg (by rw [q_b0 c4]; decide), if_pos c14, if_neg (fun q => q.elim c33 (fun q => q c41))] at hk; exact hk)
  · refine wX4_takeNumber_7 ?_
    refine wX4_takeNumber_8  ?_
    first
      | (rw [rd_nb, if_pos (q_b1 c4)] at hk; exact hk)
      | (rw [rd_nb, if_neg (by rw [q_b0 c4]; decide), if_neg c14] at hk; exact hk)
      | (rw [rd_nb, if_neg (by rw [q_b0 c4]; decide), if_pos c14, if_pos (Or.inl c33)] at hk; exact hk)
      | (rw [rd_nb, if_neg (by rw [q_b0 c4]; decide), if_pos c14, if_pos (Or.inr c41)] at hk; exact hk)
      | (rw [rd_nb, if_neg (by rw [q_b0 c4]; decide), if_pos c14, if_neg (fun q => q.elim c33 (fun q => q c41))] at hk; exact hk)
theorem mX4_init {a : Nat} {P : q_H → Option Nat → Prop} (ha : h a = some (.inr (5, [.int 0, .int 0, .int 0, .null, .int 0, .int 0, .int 0, .int 0, .int 0, .int 0, .null]))) (hk : ∀ h', h' a = some (readE a (a + 1) rd_0) → h' (a + 2) = some (dealE (1, 0, 1, 0, 0)) → q_out a 3 h h' → P h' (some (a + 3))) : QMv V iX4_init [.ref a] h (some (a + 1)) P Kx := by
  refine eX4_init ?_
  refine wX4_init_0 ?_
  refine wX4_init_1 ?_
  refine wX4_init_4 ?_
  refine wX4_init_5 ?_
  refine wX4_init_6 ha ?_
  refine wX4_init_9 ?_
  refine wX4_init_10 ?_
  refine wX4_init_11u ?_
  refine wX4_init_14 ?_
  refine wX4_init_15 ?_
  refine wX4_init_16u ?_
  refine wX4_init_19 ?_
  refine wX4_init_20 ?_
  refine wX4_init_21 rfl (by decide) ?_
  refine wX4_init_23 (by rw [q_up_n (by omega)]; exact q_up_s) ?_
  refine wX4_init_26 ?_
  refine wX4_init_27 ?_
  refine wX4_init_28u ?_
  refine wX4_init_31 ?_
  refine wX4_init_32 ?_
  refine wX4_init_33u ?_
  refine wX4_init_36 ?_
  refine wX4_init_37 ?_
  refine wX4_init_38u ?_
  refine wX4_init_41 ?_
  refine wX4_init_42 ?_
  refine wX4_init_43u ?_
  refine wX4_init_46 ?_
  refine wX4_init_47 ?_
  refine wX4_init_48u ?_
  refine wX4_init_51 ?_
  refine wX4_init_52 ?_
  refine wX4_init_53u ?_
  refine wX4_init_56 ?_
  refine wX4_init_57 ?_
  refine wX4_init_60 ?_
  refine wX4_init_61 (mX1_init q_up_s ?_)
  refine wX4_init_64 (by rw [q_up_n (by omega), q_up_n (by omega)]; exact q_up_s) ?_
  refine wX4_init_67  ?_
  refine hk _ q_up_s (by rw [q_up_n (by omega)]; exact q_up_s) (fun q hq => ?_)
  simp only [q_up_n (show q ≠ a by omega), q_up_n (show q ≠ a + 1 by omega), q_up_n (show q ≠ a + 1 + 1 by omega)]
end CX4
