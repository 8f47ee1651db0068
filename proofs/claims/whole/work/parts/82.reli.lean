/-! The best releases on both sides: the answers -/
section RELI
theorem q_ac_from {i : Int32} {f : Nat → Int32} (n : Nat) : q_ac i f n = i + q_ac 0 f n := by
  induction n with
  | zero => rw [q_ac, q_ac, Int32.add_zero]
  | succ n ih => rw [q_ac, q_ac, ih, Int32.add_assoc]
theorem q_ac_hd {a b : Nat → Int32} {x : Int32} (h0 : a 0 = x) (h1 : ∀ k, 0 < k → k < 12 → a k = 0) (n : Nat) (hn : n < 12) : q_ac 0 (fun q => a q + b q) (n + 1) = x + q_ac 0 b (n + 1) := by
  induction n with
  | zero =>
    show 0 + (a 0 + b 0) = x + (0 + b 0)
    rw [h0, Int32.zero_add, Int32.zero_add]
  | succ n ih =>
    show q_ac 0 (fun q => a q + b q) (n + 1) + (a (n + 1) + b (n + 1)) = x + (q_ac 0 b (n + 1) + b (n + 1))
    rw [ih (by omega), h1 (n + 1) (by omega) hn, Int32.zero_add, Int32.add_assoc]
theorem q_ac_h2 {a b f : Nat → Int32} {x : Int32} {n : Nat} (hf : ∀ k, k < n → f k = a k + b k) (h0 : a 0 = x) (h1 : ∀ k, 0 < k → k < 12 → a k = 0) (hn : 0 < n) (hn2 : n ≤ 12) : q_ac 0 f n = x + q_ac 0 b n := by
  obtain ⟨m, rfl⟩ : ∃ m, n = m + 1 := ⟨n - 1, by omega⟩
  rw [q_ac_c (g := fun q => a q + b q) hf]
  exact q_ac_hd h0 h1 m (by omega)
theorem RP.wc {P : q_Pl} {r : Nat → Int64} {i w nt np : Nat} (h : RP P r i w nt np) (hw : r_nw r = nI w) (hw15 : w ≤ 15) (hh : pl_has P = true) : r_lt r i 0 = pl_wc P (nI w) := by
  rw [h.lt hw hw15 hh]
  obtain ⟨-, -, -, -, hd, s, l, es, el, hs, hwl, hl5⟩ := h.2.2.2 hh
  obtain ⟨l2, g, el2, h1, h6, eg, hg⟩ := okD_n hd
  have : l2 = l := nI_inj (by omega) (by omega) (el2.symm.trans el)
  subst this
  have e0 : ∀ q, q < 12 → pl_rc P (nI w) 0 (nI q) = (if q = 0 then d_sf (p_d P) (nI (w - s)) else 0) + d_gp (p_d P) (nI (w - s)) (nI q) := fun q hq => by
    unfold pl_rc
    rw [es, nI_sb hs, if_pos (rfl : (0 : Int32) = 0)]
    by_cases e : q = 0
    · subst e; rw [if_pos (show nI 0 = 0 from rfl), if_pos rfl]
    · rw [if_neg (nI_ne0' (by omega) (by omega)), if_neg e]
  have e1 := q_ac_h2 (f := fun q => pl_rc P (nI w) 0 (nI q)) (n := 12) e0 (if_pos rfl) (fun k h1 h2 => if_neg (by omega)) (by decide) (by decide)
  have e2 : q_ac 0 (fun q => d_gp (p_d P) (nI (w - s)) (nI q)) 12 = d_gf (p_d P) (nI (w - s)) := by
    unfold d_gf
    rw [eg, d_ct_nI (by omega) (by omega), q_sm_ac]
    rw [q_ac_tail (m := g - (w - s)) (n := 12) (fun x a b => ?_) (by omega)]
    · refine q_ac_c (fun x hx => ?_)
      unfold d_gp
      rw [eg, nI_add, if_neg (nI_ge (by omega) (by omega))]
    · unfold d_gp
      rw [eg, nI_add, if_pos (nI_le (by omega) (by omega))]
  unfold pl_wc
  rw [e1, e2, es, nI_sb hs]
theorem q_T_nI {k : Nat} (hk : k < 4294967296) : q_T (nI k) = k := by
  unfold q_T
  show (BitVec.ofNat 32 k).toNat = k
  rw [BitVec.toNat_ofNat]; exact Nat.mod_eq_of_lt hk
theorem q_cn_n {s : Int32} (m : Nat) (hm : m ≤ 32) : q_cn s m = s_n (q_T s) m := by
  induction m with
  | zero => rfl
  | succ m ih => rw [q_cn, s_n, ih (by omega), q_bit_T (by omega)]
theorem s_n_hi {A : Nat} (h : ∀ m, 24 ≤ m → A.testBit m = false) (d : Nat) : s_n A (24 + d) = s_n A 24 := by
  induction d with
  | zero => rfl
  | succ d ih => rw [← Nat.add_assoc, s_n, h _ (by omega), ih]; rfl
theorem q_cn_hi {s : Int32} {n : Nat} (h : ∀ i, n ≤ i → i < 24 → q_bit s i = false) (d : Nat) (hd : n + d ≤ 24) : q_cn s (n + d) = q_cn s n := by
  induction d with
  | zero => rfl
  | succ d ih => rw [← Nat.add_assoc, q_cn, h _ (by omega) (by omega), ih (by omega)]; rfl
theorem q_bt0 : ∀ k, k < 32 → q_bit 0 k = false := by decide
section
variable {S : q_Ls} {M : q_Mo} {w nt np nb c j : Nat}
/-- the list of a team's players -/
theorem con_1 {X : q_Rl} {B : q_Bk} {t : Int32} {A : Nat} (hA : ∀ m, m < 24 → A.testBit m = b_plf B m t) (h12 : s_n A 24 ≤ 12) (m : Nat) (hm : m ≤ 24) : (rl_con X B t m).2.2.2 = s_n A m := by
  induction m with
  | zero => rfl
  | succ m ih =>
    have ih := ih (by omega)
    rw [rl_con, ← hA m (by omega), s_n, ih]
    cases e : A.testBit m
    · rw [if_neg (fun z => by cases z.1), ih]; rfl
    · have h1 := s_n_mono (A := A) (show m + 1 ≤ 24 by omega)
      rw [s_n, e, if_pos rfl] at h1
      rw [if_pos ⟨rfl, by omega⟩, if_pos rfl]
      show (rl_con X B t m).2.2.2 + 1 = _
      rw [ih]
theorem con_2 {X : q_Rl} {B : q_Bk} {t : Int32} {A : Nat} (hA : ∀ m, m < 24 → A.testBit m = b_plf B m t) (h12 : s_n A 24 ≤ 12) (m : Nat) (hm : m < 24) : (A.testBit m = true → rl_con X B t (m + 1) = rl_psh (rl_con X B t m) B m) ∧ (A.testBit m = false → rl_con X B t (m + 1) = rl_con X B t m) := by
  have ih := con_1 (X := X) hA h12 m (by omega)
  rw [rl_con, ← hA m hm, ih]
  refine ⟨fun e => ?_, fun e => ?_⟩
  · have h1 := s_n_mono (A := A) (show m + 1 ≤ 24 by omega)
    rw [s_n, e, if_pos rfl] at h1
    rw [if_pos ⟨e, by omega⟩]
  · rw [if_neg (fun z => by rw [e] at z; cases z.1)]
theorem RB.bs (h : RB (ls_B S) (m_r M) w nt np c) (he : RE (ls_T S) M nt np nb) (hc : c ≤ 600) (hj : j < 4) {X : q_Rl} {bb : Int32} (hbb : bb = (r_bs (r_Gf (m_r M) (r_set (m_r M) j np)) (r_Cf (m_r M) (r_set (m_r M) j np)) (r_room M.1 (m_r M) np w j) np (r_set (m_r M) j np) (2 ^ s_c 32 (q_T (r_set (m_r M) j np)))).1) :
    (if bb = -1 then -2 else r_ty bb 24) = rl_fw (rl_con X (ls_B S) (nI j) 24) (-l_room S j) ∧ (if bb = -1 then -2 else bb) = rl_cs (rl_con X (ls_B S) (nI j) 24) (-l_room S j) := by
  have hw := h.1.1
  have hnp := h.1.2.2.2.2
  have hroom := h.room_bd he hc hj
  rw [h.set hj, h.room he hj] at hbb
  obtain ⟨A, eA⟩ : ∃ A, A = q_T (b_set (ls_B S) (nI j) 24) := ⟨_, rfl⟩
  have hA : ∀ m, m < 24 → A.testBit m = b_plf (ls_B S) m (nI j) := fun m hm => by rw [eA, ← q_bit_T (by omega), b_set_bit hm]
  have hA24 : ∀ m, 24 ≤ m → A.testBit m = false := fun m hm => by
    rw [eA]; exact Nat.testBit_lt_two_pow (Nat.lt_of_lt_of_le (b_set_24 (b := ls_B S) (t := nI j)) (Nat.pow_le_pow_right (n := 2) (i := 24) (by decide) hm))
  obtain ⟨n, en⟩ : ∃ n, n = s_n A 24 := ⟨_, rfl⟩
  have hn12 : n ≤ 12 := by
    have := h.cn hj
    rw [q_cn_n 24 (by omega), ← eA] at this; omega
  have eN : s_c 32 A = n := by rw [s_c_n, en]; exact s_n_hi hA24 8
  rw [← eA, eN] at hbb
  obtain ⟨R, eR⟩ : ∃ R, R = fun m => rl_con X (ls_B S) (nI j) m := ⟨_, rfl⟩
  have hsz : ∀ m, m ≤ 24 → (R m).2.2.2 = s_n A m := fun m hm => by rw [eR]; exact con_1 hA (by omega) m hm
  have hs1 : ∀ m, m < 24 → A.testBit m = true → R (m + 1) = rl_psh (R m) (ls_B S) m := fun m hm e => by rw [eR]; exact (con_2 hA (by omega) m hm).1 e
  have hs0 : ∀ m, m < 24 → A.testBit m = false → R (m + 1) = R m := fun m hm e => by rw [eR]; exact (con_2 hA (by omega) m hm).2 e
  have e24 : rl_con X (ls_B S) (nI j) 24 = R 24 := by rw [eR]
  have h2n := two_le hn12
  -- a set by its places
  have hb : ∀ k, k < 2 ^ n → ∀ m, m < 24 → q_bit (r_it (b_set (ls_B S) (nI j) 24) k) m = (A.testBit m && q_bit (nI k) (s_n A m)) := fun k hk m hm => by
    have h1 := s_n_mono (A := A) (show m ≤ 24 by omega)
    rw [q_bit_T (by omega), q_T_it, ← eA, s_d_bit, decide_eq_true (show m < 32 by omega), Bool.true_and, nI_bit (by omega) (by omega)]
  have hpl : ∀ k, k < 2 ^ n → ∀ m, m < 24 → q_bit (r_it (b_set (ls_B S) (nI j) 24) k) m = true → A.testBit m = true ∧ b_plf (ls_B S) m (nI j) = true ∧ m < np ∧ pl_has (b_p (ls_B S) m) = true := fun k hk m hm e => by
    rw [hb k hk m hm, Bool.and_eq_true] at e
    have e1 := e.1
    rw [hA m hm] at e1
    exact ⟨e.1, e1, h.on hm hj (of_decide_eq_true e1)⟩
  have hT : ∀ k, k < 2 ^ n → q_T (r_it (b_set (ls_B S) (nI j) 24) k) < 16777216 := fun k hk => q_T_24 (fun i h1 h2 => by
    show (q_T (r_it (b_set (ls_B S) (nI j) 24) k)).testBit i = false
    rw [q_T_it, ← eA, s_d_bit, hA24 i h1, Bool.and_false, Bool.false_and])
  have gain : ∀ k, k < 2 ^ n → q_ac 0 (fun p => if q_bit (r_it (b_set (ls_B S) (nI j) 24) k) p = true then r_Gf (m_r M) (b_set (ls_B S) (nI j) 24) p else 0) np = rl_sum (R 24).2.1 n (nI k) := fun k hk => by
    rw [← q_ac_tail (m := np) (n := 24) (fun x h1 h2 => if_neg (fun z => by have := (hpl k hk x h2 z).2.2.1; omega)) hnp]
    unfold rl_sum
    rw [en]
    refine Eq.trans ?_ (con_sum (F := fun m => (R m).2.1) (v := fun q => pl_gn (b_p (ls_B S) q) (b_w (ls_B S)) 0) (fun m hm e => ?_) (fun m hm e => ?_) (hb k hk) 24 (Nat.le_refl _)).symm
    · refine q_ac_c (fun q hq => ?_)
      by_cases e : q_bit (r_it (b_set (ls_B S) (nI j) 24) k) q = true
      · obtain ⟨p1, p2, p3, p4⟩ := hpl k hk q hq e
        rw [if_pos e, if_pos e]
        unfold r_Gf
        rw [b_set_bit hq, if_pos p2, (h.p hq).gn h.1.2.1 hw p4, h.1.2.2.1]
      · rw [if_neg e, if_neg e]
    · show (R (m + 1)).2.1 = upd (R m).2.1 (s_n A m) _
      rw [hs1 m hm e, ← hsz m (by omega)]; rfl
    · show (R (m + 1)).2.1 = (R m).2.1
      rw [hs0 m hm e]
  have cost : ∀ k, k < 2 ^ n → r_gs (r_Cf (m_r M) (b_set (ls_B S) (nI j) 24)) 0 (r_it (b_set (ls_B S) (nI j) 24) k) np = rl_sum (R 24).2.2.1 n (nI k) := fun k hk => by
    unfold r_gs
    rw [← q_ac_tail (m := np) (n := 24) (fun x h1 h2 => if_neg (fun z => by have := (hpl k hk x h2 z).2.2.1; omega)) hnp]
    unfold rl_sum
    rw [en]
    refine Eq.trans ?_ (con_sum (F := fun m => (R m).2.2.1) (v := fun q => pl_wc (b_p (ls_B S) q) (b_w (ls_B S))) (fun m hm e => ?_) (fun m hm e => ?_) (hb k hk) 24 (Nat.le_refl _)).symm
    · refine q_ac_c (fun q hq => ?_)
      by_cases e : q_bit (r_it (b_set (ls_B S) (nI j) 24) k) q = true
      · obtain ⟨p1, p2, p3, p4⟩ := hpl k hk q hq e
        rw [if_pos e, if_pos e]
        unfold r_Cf
        rw [b_set_bit hq, if_pos p2, (h.p hq).wc h.1.2.1 hw p4, h.1.2.2.1]
      · rw [if_neg e, if_neg e]
    · show (R (m + 1)).2.2.1 = upd (R m).2.2.1 (s_n A m) _
      rw [hs1 m hm e, ← hsz m (by omega)]; rfl
    · show (R (m + 1)).2.2.1 = (R m).2.2.1
      rw [hs0 m hm e]
  have names : ∀ k, k < 2 ^ n → rl_nm (R 24).1 (nI k) n = r_it (b_set (ls_B S) (nI j) 24) k := fun k hk => by
    refine Int32.toBitVec_inj.mp (BitVec.eq_of_getLsbD_eq (fun i hi => ?_))
    rw [en, con_nm (F := fun m => (R m).1) (fun m hm e => ?_) (fun m hm e => ?_) (hb k hk) 24 (Nat.le_refl _) i hi]
    · by_cases e : i < 24
      · rw [decide_eq_true e, Bool.true_and, q_bitv hi]
      · rw [decide_eq_false e, Bool.false_and]
        exact (Nat.testBit_lt_two_pow (Nat.lt_of_lt_of_le (hT k hk) (Nat.pow_le_pow_right (n := 2) (i := 24) (by decide) (by omega)))).symm
    · show (R (m + 1)).1 = upd (R m).1 (s_n A m) _
      rw [hs1 m hm e, ← hsz m (by omega)]; rfl
    · show (R (m + 1)).1 = (R m).1
      rw [hs0 m hm e]
  have count : ∀ k, k < 2 ^ n → r_ty (r_it (b_set (ls_B S) (nI j) 24) k) 24 = nI (q_cn (nI k) n) := fun k hk => by
    rw [r_ty_cn 24 (by omega), en, con_cn (hb k hk) 24 (Nat.le_refl _)]
  have count2 : ∀ k, k < 2 ^ n → q_bc (nI k) = nI (q_cn (nI k) n) := fun k hk => by
    rw [q_bc_ty (by rw [q_T_nI (by omega)]; omega), r_ty_cn 24 (by omega)]
    have := q_cn_hi (s := nI k) (n := n) (fun i h1 h2 => by
      rw [nI_bit (by omega) (by omega)]
      exact Nat.testBit_lt_two_pow (Nat.lt_of_lt_of_le hk (Nat.pow_le_pow_right (by decide) h1))) (24 - n) (by omega)
    rw [Nat.add_sub_cancel' (by omega)] at this
    rw [this]
  -- gains are small
  have gbd : ∀ m, m ≤ 24 → ∀ i, i < s_n A m → -1300000 ≤ ((R m).2.1 i).toInt ∧ ((R m).2.1 i).toInt ≤ 1300000 := by
    intro m
    induction m with
    | zero => intro _ i hi; exact absurd hi (by rw [s_n]; omega)
    | succ m ih =>
      intro hm i hi
      have ih := ih (by omega)
      cases e : A.testBit m
      · rw [hs0 m (by omega) e]
        rw [s_n, e] at hi
        exact ih i hi
      · rw [hs1 m (by omega) e]
        rw [s_n, e, if_pos rfl] at hi
        show -1300000 ≤ (upd (R m).2.1 (R m).2.2.2 (pl_gn (b_p (ls_B S) m) (b_w (ls_B S)) 0) i).toInt ∧ (upd (R m).2.1 (R m).2.2.2 (pl_gn (b_p (ls_B S) m) (b_w (ls_B S)) 0) i).toInt ≤ 1300000
        rw [upd_at, hsz m (by omega)]
        by_cases q : i = s_n A m
        · rw [if_pos q]
          have e1 := e
          rw [hA m (by omega)] at e1
          obtain ⟨p3, p4⟩ := h.on (show m < 24 by omega) hj (of_decide_eq_true e1)
          have b1 := (h.p (show m < 24 by omega)).cost_bd hw (y := 0) (by omega)
          have b2 := (h.p (show m < 24 by omega)).rc_bd hw p4 0 (q := 0) (by omega)
          rw [← h.w0] at b1
          rw [← h.1.2.2.1] at b2
          have b2 : 0 ≤ (pl_rc (b_p (ls_B S) m) (b_w (ls_B S)) 0 0).toInt ∧ (pl_rc (b_p (ls_B S) m) (b_w (ls_B S)) 0 0).toInt ≤ 1200000 := b2
          unfold pl_gn
          rw [q_sub_i (by omega) (by omega)]; omega
        · rw [if_neg q]; exact ih i (by omega)
  have gb24 : ∀ i, i < n → -1300000 ≤ ((R 24).2.1 i).toInt ∧ ((R 24).2.1 i).toInt ≤ 1300000 := fun i hi => gbd 24 (Nat.le_refl _) i (by omega)
  have sse := s_s_e (g := (R 24).2.1) (n := n) (D := 1300000) (by decide) gb24 (by omega)
  have eneed : (-l_room S j).toInt = -(l_room S j).toInt := by
    rw [← Int32.zero_sub, q_sub_i (by rw [show (0 : Int32).toInt = 0 from by decide]; omega) (by rw [show (0 : Int32).toInt = 0 from by decide]; omega), show (0 : Int32).toInt = 0 from by decide]; omega
  have ssb : ∀ v, -(n * 1300000) ≤ s_s (R 24).2.1 n v ∧ s_s (R 24).2.1 n v ≤ n * 1300000 := fun v => s_i_bd (fun k hk => by
    have := gb24 k hk
    show -1300000 ≤ (if q_bit v k = true then ((R 24).2.1 k).toInt else 0) ∧ (if q_bit v k = true then ((R 24).2.1 k).toInt else 0) ≤ 1300000
    split <;> omega)
  have okr : ∀ k, k < 2 ^ n → (r_gs (r_Gf (m_r M) (b_set (ls_B S) (nI j) 24)) (l_room S j) (r_it (b_set (ls_B S) (nI j) 24) k) np < 0 ↔ rl_sum (R 24).2.1 n (nI k) < -l_room S j) := fun k hk => by
    have b := ssb (nI k)
    unfold r_gs
    rw [q_ac_from, gain k hk, Int32.lt_iff_toInt_lt, Int32.lt_iff_toInt_lt, q_add_i (by rw [sse]; omega) (by rw [sse]; omega), sse, eneed, show (0 : Int32).toInt = 0 from by decide]
    omega
  -- both walks
  have fr := fold_R (N := 2 ^ n) (ok := fun k => ¬ rl_sum (R 24).2.1 n (nI k) < -l_room S j) (it := r_it (b_set (ls_B S) (nI j) 24)) (co := fun k => rl_sum (R 24).2.2.1 n (nI k)) (ct := fun k => q_cn (nI k) n)
    (R := r_bs (r_Gf (m_r M) (b_set (ls_B S) (nI j) 24)) (r_Cf (m_r M) (b_set (ls_B S) (nI j) 24)) (l_room S j) np (b_set (ls_B S) (nI j) 24)) rfl
    (fun i hi z => by have := hT i hi; rw [z] at this; exact absurd this (by decide)) (fun i hi => by have := q_cn_le (s := nI i) n; omega)
    (fun k hk o q => by rw [r_bs, r_bst, count k hk, cost k hk, if_pos ⟨fun z => o ((okr k hk).mp z), q⟩])
    (fun k hk q => by rw [r_bs, r_bst, count k hk, cost k hk, if_neg (fun z => q ⟨fun y => z.1 ((okr k hk).mpr y), z.2⟩)]) (2 ^ n) (Nat.le_refl _)
  have gr := rl_few_e (g := (R 24).2.1) (n := n) (D := 1300000) (need := -l_room S j) hn12 (by decide) gb24 (by omega) (n + 1) 0 0 0 (by omega)
    (by unfold s_s; rw [s_i_c (g := fun _ => 0) (fun k hk => by rw [q_bt0 k (by omega)]; rfl)]; have : ∀ m, s_i (fun _ => 0) m = 0 := (fun m => by induction m with | zero => rfl | succ m ih => rw [s_i, ih]; rfl); rw [this]; decide)
    (by have : ∀ m, m ≤ 32 → q_cn 0 m = 0 := (fun m => by induction m with | zero => intro _; rfl | succ m ih => intro hm; rw [q_cn, ih (by omega), q_bt0 m (by omega)]; rfl); exact this n (by omega))
    (fun k h1 h2 => q_bt0 k h2) ⟨1300000, by decide, fun k hk z => (by rw [q_bt0 k (by omega)] at z; cases z), fun k hk _ => (gb24 k hk).2⟩ (fun v hv => absurd hv (by omega))
  rw [e24]
  have efw : rl_fw (R 24) (-l_room S j) = rl_few (R 24).2.1 n (-l_room S j) (n + 1) 0 0 0 := by unfold rl_fw; rw [hsz 24 (Nat.le_refl _), ← en]
  unfold rl_cs
  rw [efw, hsz 24 (Nat.le_refl _), ← en]
  rcases gr with ⟨g1, g2⟩ | ⟨t, v, t1, t2, t3, t4, t5, t6⟩
  · have no : ∀ k, ¬ ¬ rl_sum (R 24).2.1 n (nI k) < -l_room S j := fun k z => z (by rw [Int32.lt_iff_toInt_lt, sse]; exact g2 _)
    rcases fr with ⟨f1, -⟩ | ⟨i, -, -, f3, -⟩
    · rw [g1, hbb, f1, if_pos rfl, if_pos rfl, if_neg (by decide)]
      exact ⟨rfl, rfl⟩
    · exact absurd f3 (no i)
  · -- the greedy set is one of the sets
    have ok : ∀ u : Int32, (-l_room S j).toInt ≤ s_s (R 24).2.1 n u → ¬ rl_sum (R 24).2.1 n u < -l_room S j := fun u z y => by
      rw [Int32.lt_iff_toInt_lt, sse] at y; omega
    have hk0 : q_T v < 2 ^ n := Nat.lt_pow_two_of_testBit _ (fun i hi => by
      by_cases e : i < 32
      · rw [← q_bit_T e]; exact t4 i hi e
      · exact Nat.testBit_lt_two_pow (Nat.lt_of_lt_of_le (q_T_lt v) (Nat.pow_le_pow_right (n := 2) (i := 32) (by decide) (by omega))))
    have ev : nI (q_T v) = v := q_T_inj (q_T_nI (q_T_lt v))
    have ok0 : ¬ rl_sum (R 24).2.1 n (nI (q_T v)) < -l_room S j := by rw [ev]; exact ok v t5
    have ct0 : q_cn (nI (q_T v)) n = t := by rw [ev]; exact t3
    have fc := fold_C (N := 2 ^ n) (ok := fun k => ¬ rl_sum (R 24).2.1 n (nI k) < -l_room S j) (co := fun k => rl_sum (R 24).2.2.1 n (nI k)) (ct := fun k => q_cn (nI k) n)
      (C := rl_ch (R 24).2.1 (R 24).2.2.1 n (-l_room S j) (nI t)) (W := t) rfl h2n
      (fun k hk o1 o2 q => by rw [rl_ch, count2 k hk, if_pos ⟨by rw [o1], o2, q.elim Or.inl (fun z => Or.inr (Int32.not_le.mpr z))⟩])
      (fun k hk q => by
        rw [rl_ch, count2 k hk, if_neg (fun z => q ⟨nI_inj (by have := q_cn_le (s := nI k) n; omega) (by omega) z.1, z.2.1, z.2.2.elim Or.inl (fun z => Or.inr (Int32.not_le.mp z))⟩)]) (2 ^ n) (Nat.le_refl _)
    rw [t2, if_pos (show (0 : Int32) ≤ nI t from Int32.not_lt.mp (nI_pos (by omega)))]
    rcases fr with ⟨-, f2⟩ | ⟨i, i1, i2, i3, i4⟩
    · exact absurd ok0 (f2 _ hk0)
    · rcases fc with ⟨-, c2⟩ | ⟨l, l1, l2, l3, l5, l4⟩
      · exact absurd ct0 (c2 _ hk0 ok0)
      · have ci : q_cn (nI i) n = t := by
          have h1 := t6 (nI i) (by
            have := i3
            rw [Int32.lt_iff_toInt_lt, sse] at this; omega)
          rcases i4 _ hk0 ok0 with z | ⟨z, -⟩
          · rw [ct0] at z; omega
          · rw [ct0] at z; exact z
        have eil : i = l := by
          have a1 := i4 l l1 l3
          have a2 := l4 i i1 i3 ci
          rcases Nat.lt_trichotomy i l with z | z | z
          · have b1 := a2.2 z
            rcases a1 with y | ⟨-, y, -⟩
            · rw [ci, l5] at y; omega
            · exact absurd b1 (Int32.not_lt.mpr y)
          · exact z
          · rcases a1 with y | ⟨-, -, y⟩
            · rw [ci, l5] at y; omega
            · exact absurd (y z) (Int32.not_lt.mpr a2.1)
        subst eil
        rw [hbb, i2, l2]
        have hne : ¬ r_it (b_set (ls_B S) (nI j) 24) i = -1 := fun z => by have := hT i i1; rw [z] at this; exact absurd this (by decide)
        rw [if_neg hne, if_neg hne, if_neg (nI_neg1 (by omega)), count i i1, ci, names i i1]
        exact ⟨rfl, rfl⟩
end
end RELI
