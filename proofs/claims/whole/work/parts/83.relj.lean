/-! The whole relation: text, books, history -/
section RELJ
theorem RB.cgr {B : q_Bk} {r r' : Nat → Int64} {w nt np c c' : Nat} (h : RB B r w nt np c) (e : ∀ q, q < 386 → r' q = r q) (hc : c ≤ c') : RB B r' w nt np c' := by
  obtain ⟨⟨a1, a2, a3⟩, a4, a5, a6, a7, a8⟩ := h
  refine ⟨⟨a1, ?_, a3⟩, fun i hi => (a4 i hi).cg (fun u hu => ?_), fun t ht => RTd.cg (D := (c : Int) * 1300000) (a5 t ht) (fun u hu => ?_) (by omega), ?_, a7, a8⟩
  · unfold r_nw; rw [e 0 (by omega)]; exact a2
  · unfold r_op; rw [e _ (by omega)]
  · unfold r_ot; rw [e _ (by omega)]
  · unfold r_oo; rw [e _ (by omega), e _ (by omega), e _ (by omega), e _ (by omega), e _ (by omega)]; exact a6
/-- teams that the league does not have keep the whole mid-level amount -/
def RX (B : q_Bk) (nt : Nat) (m : Int32) : Prop := ∀ t, nt ≤ t → t < 4 → t_m (b_t B t) = m
def RY (B : q_Bk) (r : Nat → Int64) (w nt np c : Nat) (m : Int32) : Prop := RB B r w nt np c ∧ RX B nt m
theorem RY.cgr {B : q_Bk} {r r' : Nat → Int64} {w nt np c c' : Nat} {m : Int32} (h : RY B r w nt np c m) (e : ∀ q, q < 386 → r' q = r q) (hc : c ≤ c') : RY B r' w nt np c' m := ⟨h.1.cgr e hc, h.2⟩
/-- the history beside the past -/
def RH (H : q_Hs) (f : Nat → Int64) (nt np c : Nat) (m : Int32) : Prop := ∀ i, i < H.2.2 → ∃ w, RY (H.1 ((H.2.1 + 10 - H.2.2 + i) % 10)) (fun q => f (386 * i + q)) w nt np c m
theorem RH.rem {H : q_Hs} {M : q_Mo} {B : q_Bk} {w nt np c c' : Nat} {m : Int32} (h : RH H (M.2.1 2) nt np c m) (h1 : H.2.1 < 10) (h2 : H.2.2 ≤ 10) (hB : RY B (m_r M) w nt np c m) (hc : c ≤ c') : RH (hs_rem H B) ((mo_rem M H.2.2).2.1 2) nt np c' m := by
  intro i hi
  have hi : i < min (H.2.2 + 1) 10 := hi
  show ∃ w, RY (if ((H.2.1 + 1) % 10 + 10 - min (H.2.2 + 1) 10 + i) % 10 = H.2.1 then B else H.1 (((H.2.1 + 1) % 10 + 10 - min (H.2.2 + 1) 10 + i) % 10)) (fun q => r_wr (if H.2.2 = 10 then r_sh1 (M.2.1 2) 3474 else M.2.1 2) (m_r M) (mo_rn H.2.2) 386 (386 * i + q)) w nt np c' m
  by_cases e : i = mo_rn H.2.2
  · have e1 : ((H.2.1 + 1) % 10 + 10 - min (H.2.2 + 1) 10 + i) % 10 = H.2.1 := by rw [e]; unfold mo_rn; split <;> omega
    rw [if_pos e1]
    refine ⟨w, hB.cgr (fun q hq => ?_) hc⟩
    show r_wr _ (m_r M) (mo_rn H.2.2) 386 (386 * i + q) = m_r M q
    unfold r_wr
    rw [← e, if_pos (by omega), Nat.add_sub_cancel_left]
  · have hm : (H.2.2 = 10 ∧ mo_rn H.2.2 = 9) ∨ (¬ H.2.2 = 10 ∧ mo_rn H.2.2 = H.2.2) := by
      unfold mo_rn
      by_cases q : H.2.2 = 10
      · exact Or.inl ⟨q, if_pos q⟩
      · exact Or.inr ⟨q, if_neg q⟩
    have hi2 : i < mo_rn H.2.2 := by omega
    have e1 : ¬ ((H.2.1 + 1) % 10 + 10 - min (H.2.2 + 1) 10 + i) % 10 = H.2.1 := by unfold mo_rn at hi2; split at hi2 <;> omega
    rw [if_neg e1]
    by_cases q10 : H.2.2 = 10
    · have e2 : ((H.2.1 + 1) % 10 + 10 - min (H.2.2 + 1) 10 + i) % 10 = (H.2.1 + 10 - H.2.2 + (i + 1)) % 10 := by omega
      have hi3 : i < 9 := by unfold mo_rn at hi2; rw [if_pos q10] at hi2; exact hi2
      obtain ⟨w', hw'⟩ := h (i + 1) (by omega)
      rw [e2]
      refine ⟨w', hw'.cgr (fun q hq => ?_) hc⟩
      show r_wr _ (m_r M) (mo_rn H.2.2) 386 (386 * i + q) = M.2.1 2 (386 * (i + 1) + q)
      unfold r_wr mo_rn
      rw [if_pos q10, if_pos q10, if_neg (by omega)]
      show (if 386 * i + q < 3474 then M.2.1 2 (386 * i + q + 386) else M.2.1 2 (386 * i + q)) = _
      rw [if_pos (by omega), show 386 * i + q + 386 = 386 * (i + 1) + q by omega]
    · have hi3 : i < H.2.2 := by unfold mo_rn at hi2; rw [if_neg q10] at hi2; exact hi2
      have e2 : ((H.2.1 + 1) % 10 + 10 - min (H.2.2 + 1) 10 + i) % 10 = (H.2.1 + 10 - H.2.2 + i) % 10 := by omega
      obtain ⟨w', hw'⟩ := h i hi3
      rw [e2]
      refine ⟨w', hw'.cgr (fun q hq => ?_) hc⟩
      show r_wr _ (m_r M) (mo_rn H.2.2) 386 (386 * i + q) = M.2.1 2 (386 * i + q)
      unfold r_wr mo_rn
      rw [if_neg q10, if_neg q10, if_neg (by omega)]
theorem RH.res {H : q_Hs} {f : Nat → Int64} {nt np c c' : Nat} {m : Int32} (h : RH H f nt np c m) (h1 : H.2.1 < 10) (h2 : H.2.2 ≤ 10) (h0 : ¬ H.2.2 = 0) (hc : c ≤ c') : RH (hs_res H) f nt np c' m ∧ ∃ w, RY (H.1 (hs_pre H)) (fun q => f (386 * (H.2.2 - 1) + q)) w nt np c m := by
  refine ⟨fun i hi => ?_, ?_⟩
  · have hi : i < H.2.2 - 1 := hi
    obtain ⟨w, hw⟩ := h i (by omega)
    have e : ((hs_pre H) + 10 - (H.2.2 - 1) + i) % 10 = (H.2.1 + 10 - H.2.2 + i) % 10 := by unfold hs_pre; omega
    refine ⟨w, ?_⟩
    show RY (H.1 (((hs_pre H) + 10 - (H.2.2 - 1) + i) % 10)) _ w nt np c' m
    rw [e]; exact hw.cgr (fun _ _ => rfl) hc
  · obtain ⟨w, hw⟩ := h (H.2.2 - 1) (by omega)
    have e : hs_pre H = (H.2.1 + 10 - H.2.2 + (H.2.2 - 1)) % 10 := by unfold hs_pre; omega
    exact ⟨w, by rw [e]; exact hw⟩
/-- what class and reference have in common after c calls -/
def Rel (S : q_Ls) (M : q_Mo) (c : Nat) : Prop :=
  okL S ∧ (M.1 16 = nI (ls_n S) ∧ ∀ k, k < ls_n S → bt (ls_f S k) ∧ M.2.2 5 k = ls_f S k &&& 255) ∧ M.1 23 = ls_e S ∧ M.1 3 = q_b (ls_l S) ∧ M.1 2 = nI (ls_H S).2.2 ∧
  (ls_l S = true → ∃ nt np nb w, RE (ls_T S) M nt np nb ∧ RY (ls_B S) (m_r M) w nt np c (te_m (ls_T S)) ∧ RH (ls_H S) (M.2.1 2) nt np c (te_m (ls_T S))) ∧ (ls_l S = false → ∀ i, i < 24 → pl_has (b_p (ls_B S) i) = false)
theorem RE.cg {T : q_Te} {M M' : q_Mo} {nt np nb : Nat} (h : RE T M nt np nb) (e1 : ∀ k, 5 ≤ k → k ≤ 12 → M'.1 k = M.1 k) (e3 : M'.2.2 3 = M.2.2 3) (e4 : M'.2.2 4 = M.2.2 4) : RE T M' nt np nb := by
  unfold RE at h ⊢
  rw [e1 5 (by omega) (by omega), e1 6 (by omega) (by omega), e1 7 (by omega) (by omega), e1 8 (by omega) (by omega), e1 9 (by omega) (by omega), e1 10 (by omega) (by omega), e1 11 (by omega) (by omega), e1 12 (by omega) (by omega), e3, e4]
  exact h
/-- a call that changes nothing of what both have -/
theorem Rel.cg {S : q_Ls} {M M' : q_Mo} {c c' : Nat} (h : Rel S M c) (e1 : ∀ k, (k = 2 ∨ k = 3 ∨ (5 ≤ k ∧ k ≤ 12) ∨ k = 16 ∨ k = 23) → M'.1 k = M.1 k) (e2 : ∀ k, (k = 1 ∨ k = 2) → M'.2.1 k = M.2.1 k) (e3 : ∀ k, (k = 3 ∨ k = 4 ∨ k = 5) → M'.2.2 k = M.2.2 k) (hc : c ≤ c') : Rel S M' c' := by
  obtain ⟨h1, ⟨h2, h3⟩, h4, h5, h6, h7, h8⟩ := h
  refine ⟨h1, ⟨(e1 16 (by omega)).trans h2, fun k hk => by rw [e3 5 (by omega)]; exact h3 k hk⟩, (e1 23 (by omega)).trans h4, (e1 3 (by omega)).trans h5, (e1 2 (by omega)).trans h6, fun l => ?_, h8⟩
  obtain ⟨nt, np, nb, w, hE, hB, hH⟩ := h7 l
  refine ⟨nt, np, nb, w, hE.cg (fun k k1 k2 => e1 k (by omega)) (e3 3 (by omega)) (e3 4 (by omega)), ?_, ?_⟩
  · rw [show m_r M' = m_r M from e2 1 (by omega)]; exact hB.cgr (fun _ _ => rfl) hc
  · rw [e2 2 (by omega)]
    intro i hi
    obtain ⟨w', hw'⟩ := hH i hi
    exact ⟨w', hw'.cgr (fun _ _ => rfl) hc⟩
section
variable {S : q_Ls} {M : q_Mo} {c : Nat}
theorem Rel.s4 (h : Rel S M c) (x : Int32) : Rel S (mS M 4 x) (c + 1) := h.cg (fun k hk => if_neg (by omega)) (fun _ _ => rfl) (fun _ _ => rfl) (Nat.le_succ c)
theorem Rel.i10 (h : Rel S M c) (f : Nat → Int32) : Rel S (mIr M 10 f) c := h.cg (fun _ _ => rfl) (fun _ _ => rfl) (fun k hk => if_neg (by omega)) (Nat.le_refl c)
theorem Rel.i3 (h : Rel S M c) (f g d : Nat → Int32) : Rel S (mI3 M f g d) c := h.cg (fun _ _ => rfl) (fun _ _ => rfl) (fun k hk => by
  show (if k = 10 then f else if k = 11 then g else if k = 12 then d else M.2.2 k) = _
  rw [if_neg (by omega), if_neg (by omega), if_neg (by omega)]) (Nat.le_refl c)
theorem Rel.l9 (h : Rel S M c) (A : Nat → Int64) : Rel S (mLr M 9 A) c := h.cg (fun _ _ => rfl) (fun k hk => if_neg (by omega)) (fun _ _ => rfl) (Nat.le_refl c)
theorem Rel.sw (h : Rel S M c) (A : Nat → Int64) (x y : Int32) : Rel S (mSw M A x y) c := h.cg (fun k hk => by
  show upd (upd M.1 33 x) 34 y k = _
  rw [upd_at, if_neg (by omega), upd_at, if_neg (by omega)]) (fun k hk => if_neg (by omega)) (fun _ _ => rfl) (Nat.le_refl c)
/-- a call that remembers the books and changes them -/
theorem Rel.rem {B : q_Bk} {r : Nat → Int64} (h : Rel S M c) (hl : ls_l S = true) (hB : ∀ nt np nb w, RE (ls_T S) M nt np nb → RY (ls_B S) (m_r M) w nt np c (te_m (ls_T S)) → ∃ w2, RY B r w2 nt np (c + 1) (te_m (ls_T S))) : Rel (ls_sB (ls_sH S (hs_rem (ls_H S) (ls_B S))) B) (mLr (mo_rem (mS M 4 0) (ls_H S).2.2) 1 r) (c + 1) := by
  obtain ⟨h1, ⟨h2, h3⟩, h4, h5, h6, h7, h8⟩ := h
  obtain ⟨nt, np, nb, w, hE, hR, hH⟩ := h7 hl
  obtain ⟨w2, hB2⟩ := hB nt np nb w hE hR
  obtain ⟨o1, o2, o3, o4, o5, o6⟩ := h1
  have n2 : ∀ k, ¬ k = 2 → ¬ k = 4 → (mLr (mo_rem (mS M 4 0) (ls_H S).2.2) 1 r).1 k = M.1 k := fun k k1 k2 => (mo_rem_1 (M := mS M 4 0) (n := (ls_H S).2.2) k1).trans (if_neg k2)
  refine ⟨⟨o1, o2, o3, o4, ?_, ?_⟩, ⟨(n2 16 (by decide) (by decide)).trans h2, h3⟩, (n2 23 (by decide) (by decide)).trans h4, (n2 3 (by decide) (by decide)).trans h5, ?_, fun _ => ⟨nt, np, nb, w2, ?_, hB2, ?_⟩, fun e => absurd (hl.symm.trans e) (by decide)⟩
  · show ((ls_H S).2.1 + 1) % 10 < 10; omega
  · show min ((ls_H S).2.2 + 1) 10 ≤ 10; omega
  · show nI (mo_rn (ls_H S).2.2 + 1) = nI (min ((ls_H S).2.2 + 1) 10)
    unfold mo_rn; congr 1; split <;> omega
  · exact hE.cg (fun k k1 k2 => n2 k (by omega) (by omega)) rfl rfl
  · exact RH.rem (M := mS M 4 0) hH o5 o6 hR (Nat.le_succ c)
/-- the last call is taken back -/
theorem Rel.und (h : Rel S M c) (hl : ls_l S = true) (h0 : ¬ (ls_H S).2.2 = 0) : Rel (ls_sB (ls_sH S (hs_res (ls_H S))) ((ls_H S).1 (hs_pre (ls_H S)))) (mo_und (mS M 4 0) (ls_H S).2.2) (c + 1) := by
  obtain ⟨h1, ⟨h2, h3⟩, h4, h5, h6, h7, h8⟩ := h
  obtain ⟨nt, np, nb, w, hE, hR, hH⟩ := h7 hl
  obtain ⟨o1, o2, o3, o4, o5, o6⟩ := h1
  obtain ⟨r1, w', r2⟩ := hH.res o5 o6 h0 (Nat.le_succ c)
  have n2 : ∀ k, ¬ k = 2 → ¬ k = 4 → (mo_und (mS M 4 0) (ls_H S).2.2).1 k = M.1 k := fun k k1 k2 => (show upd (upd M.1 4 0) 2 _ k = M.1 k by rw [upd_at, if_neg k1, upd_at, if_neg k2])
  refine ⟨⟨o1, o2, o3, o4, ?_, ?_⟩, ⟨(n2 16 (by decide) (by decide)).trans h2, h3⟩, (n2 23 (by decide) (by decide)).trans h4, (n2 3 (by decide) (by decide)).trans h5, rfl, fun _ => ⟨nt, np, nb, w', ?_, ?_, ?_⟩, fun e => absurd (hl.symm.trans e) (by decide)⟩
  · show ((ls_H S).2.1 + 9) % 10 < 10; omega
  · show (ls_H S).2.2 - 1 ≤ 10; omega
  · exact hE.cg (fun k k1 k2 => n2 k (by omega) (by omega)) rfl rfl
  · refine r2.cgr (fun q hq => ?_) (Nat.le_succ c)
    show r_rd (M.2.1 2) (m_r M) ((ls_H S).2.2 - 1) 386 q = M.2.1 2 (386 * ((ls_H S).2.2 - 1) + q)
    exact if_pos hq
  · exact r1
end
end RELJ
