/-! What both answer: outcomes of a call -/
section RELM
theorem t_add_m {T : q_Tm} {y v : Int32} : t_m (t_add T y v) = t_m T := by unfold t_add; split <;> rfl
theorem t_dis_m {T : q_Tm} {P : q_Pl} {w st : Int32} (n : Nat) : t_m (t_dis T P w st n) = t_m T := by
  induction n with
  | zero => rfl
  | succ n ih => rw [t_dis, t_add_m, ih]
theorem b_mv_m {B : q_Bk} {s : Int32} {f : Nat} {t : Int32} {j : Nat} (k : Nat) : t_m (b_t (b_mv B s f t k) j) = t_m (b_t B j) := by
  induction k with
  | zero => rfl
  | succ k ih =>
    rw [b_mv]
    cases q_bit s k
    · rw [if_neg (by decide)]; exact ih
    · rw [if_pos rfl]
      show t_m (if j = f then t_add (b_t (b_mv B s f t k) f) _ _ else b_t (b_mv B s f t k) j) = _
      by_cases e : j = f
      · subst e
        rw [if_pos rfl, t_add_m]; exact ih
      · rw [if_neg e]; exact ih
section
variable {B : q_Bk} {nt j i : Nat} {m : Int32}
theorem RX.mv {k : Nat} {s v : Int32} (hx : RX B nt m) : RX (l_mv B j k s v) nt m := fun t h1 h2 => by
  unfold l_mv; rw [b_mv_m, b_mv_m]; exact hx t h1 h2
theorem RX.dis {st : Int32} (hx : RX B nt m) : RX (b_dis B i j st) nt m := fun t h1 h2 => by
  show t_m (if t = j then t_dis (b_t B j) (b_p B i) (b_w B) st 12 else b_t B t) = m
  by_cases e : t = j
  · subst e; rw [if_pos rfl, t_dis_m]; exact hx t h1 h2
  · rw [if_neg e]; exact hx t h1 h2
theorem RX.sg {x : Int32} (hx : RX B nt m) (hj : j < nt) : RX (l_sg B j i x) nt m := fun t h1 h2 => by
  show t_m (b_t (l_sb B j x) t) = m
  unfold l_sb
  split
  · show t_m (if t = j then _ else b_t B t) = m
    rw [if_neg (by omega)]; exact hx t h1 h2
  · exact hx t h1 h2
end
section
variable {S : q_Ls} {M : q_Mo} {c : Nat}
theorem Rel.get (h : Rel S M c) : ∃ nt np nb w, (¬ M.1 3 = 0 → okM M w nt np nb) ∧ (¬ M.1 3 = 0 → ∀ i, i < 24 → r_has (m_r M) i = true → okP (m_r M) i) ∧ (¬ M.1 3 = 0 → ls_l S = true ∧ RE (ls_T S) M nt np nb ∧ RE (ls_T S) (mS M 4 0) nt np nb ∧ RB (ls_B S) (m_r M) w nt np c ∧ RX (ls_B S) nt (te_m (ls_T S))) := by
  obtain ⟨h1, h2, h4, h5, h6, h7, h8⟩ := h
  by_cases hl : ls_l S = true
  · obtain ⟨nt, np, nb, w, hE, hB, hH⟩ := h7 hl
    refine ⟨nt, np, nb, w, fun _ => ⟨⟨hB.1.1.1, hB.1.1.2.1⟩, ⟨hE.1.2, hE.2.2.2.1.2.1⟩, ⟨hE.2.1.2, hE.2.2.2.1.2.2.2.1⟩, ⟨hE.2.2.1.2, hE.2.2.2.1.2.2.2.2.2⟩, ?_, fun p hp hh => ?_⟩, fun _ i hi hh => (hB.1.p hi).okP hB.1.1.2.1 hB.1.1.1 hB.1.1.2.2.2.1 hh, fun _ => ⟨hl, hE, hE.cg (fun k k1 k2 => if_neg (by omega)) rfl rfl, hB.1, hB.2⟩⟩
    · rw [hB.1.2.2.2.1.2.2.1]
      obtain ⟨l, g, el, l1, l5, -, -⟩ := okD_n hB.1.2.2.2.2.1
      rw [el]; exact nI_ne0' (by omega) (by omega)
    · rw [(hB.1.p hp).has] at hh
      obtain ⟨-, -, ⟨-, -, h5, -, -⟩, -, hd, -⟩ := (hB.1.p hp).2.2.2 hh
      obtain ⟨l, g, el, l1, l5, -, -⟩ := okD_n hd
      rw [h5, el]; exact nI_ne0' (by omega) (by omega)
  · have hf : ls_l S = false := by
      cases z : ls_l S
      · rfl
      · exact absurd z hl
    have e : M.1 3 = 0 := by rw [h5, hf]; rfl
    exact ⟨0, 0, 0, 0, fun q => absurd e q, fun q => absurd e q, fun q => absurd e q⟩
/-- how a call ends: not loaded, out of its ranges, or as R says -/
def o_x (S : q_Ls) (g : Bool) (R : Int32 → Int64 → q_Ls → Prop) (k : Int32) (v : Int64) (S' : q_Ls) : Prop := (ls_l S = false ∧ k = 1 ∧ S' = S) ∨ (ls_l S = true ∧ g = false ∧ k = 2 ∧ S' = S) ∨ (ls_l S = true ∧ g = true ∧ R k v S')
theorem o_x.w {S' : q_Ls} {G G' : Bool} {R : Int32 → Int64 → q_Ls → Prop} {k : Int32} {v : Int64} (hO : o_x S G R k v S') (h3 : M.1 3 = q_b (ls_l S)) (eG : ¬ M.1 3 = 0 → G' = G) (q : M.1 3 = 0 ∨ G' = false) : (mS M 4 (mo_th M G')).1 4 = k ∧ ¬ k = 0 ∧ S' = S := by
  have e4 : (mS M 4 (mo_th M G')).1 4 = mo_th M G' := rfl
  rw [e4]
  unfold mo_th
  by_cases m : M.1 3 = 0
  · rw [if_pos m]
    rcases hO with ⟨-, e, e2⟩ | ⟨h, -⟩ | ⟨h, -⟩
    · exact ⟨e.symm, by rw [e]; decide, e2⟩
    · rw [h3, h] at m; exact absurd m (by decide)
    · rw [h3, h] at m; exact absurd m (by decide)
  · have g' : G' = false := q.elim (fun z => absurd z m) id
    have g : G = false := (eG m).symm.trans g'
    rw [if_neg m, g', if_neg (by decide)]
    rcases hO with ⟨h, -⟩ | ⟨-, -, e, e2⟩ | ⟨-, h, -⟩
    · rw [h3, h] at m; exact absurd rfl m
    · exact ⟨e.symm, by rw [e]; decide, e2⟩
    · rw [g] at h; cases h
theorem o_x.k {S' : q_Ls} {G G' : Bool} {R : Int32 → Int64 → q_Ls → Prop} {k : Int32} {v : Int64} (hO : o_x S G R k v S') (h3 : M.1 3 = q_b (ls_l S)) (eG : ¬ M.1 3 = 0 → G' = G) (m : ¬ M.1 3 = 0) (g : G' = true) : R k v S' := by
  have g2 : G = true := (eG m).symm.trans g
  rcases hO with ⟨h, -⟩ | ⟨-, h, -⟩ | ⟨-, -, h⟩
  · rw [h3, h] at m; exact absurd rfl m
  · rw [g2] at h; cases h
  · exact h
theorem gT_lt {nt j : Nat} (h : gT S (nI j) = true) (et : te_t (ls_T S) = nI nt) (hnt : nt ≤ 4) (hj : j < 4) : j < nt := by
  obtain ⟨i, hi, e⟩ := rg_of hnt (by decide) et h
  have := nI_inj (by omega) (by omega) e
  omega
theorem gP_lt {np i : Nat} (h : gP S (nI i) = true) (et : te_p (ls_T S) = nI np) (hnp : np ≤ 24) (hi : i < 24) : i < np := by
  obtain ⟨j, hj, e⟩ := rg_of hnp (by decide) et h
  have := nI_inj (by omega) (by omega) e
  omega
theorem g2T_lt {nt j m : Nat} (h : g2T S (nI j) (nI m) = true) (et : te_t (ls_T S) = nI nt) (hnt : nt ≤ 4) (hj : j < 4) (hm : m < 4) : j < nt ∧ m < nt ∧ ¬ j = m := by
  unfold g2T at h
  rw [Bool.and_eq_true, Bool.and_eq_true] at h
  refine ⟨gT_lt h.1.1 et hnt hj, gT_lt h.1.2 et hnt hm, fun e => ?_⟩
  have h2 := h.2
  rw [e, decide_eq_true rfl] at h2
  cases h2
theorem gTr_lt {nt j m : Nat} {s v : Int32} (h : gTr S (nI j) s (nI m) v = true) (et : te_t (ls_T S) = nI nt) (hnt : nt ≤ 4) (hj : j < 4) (hm : m < 4) : j < nt ∧ m < nt ∧ ¬ j = m := by
  unfold gTr at h
  rw [Bool.and_eq_true, Bool.and_eq_true] at h
  exact g2T_lt h.1.1 et hnt hj hm
theorem l_se_s {j i : Nat} {x : Int32} : l_se S j i x = 0 ∨ l_se S j i x < 0 := by
  unfold l_se l_pe
  by_cases a : pl_has (b_p (ls_B S) i) = true
  · rw [if_pos a, if_neg (by decide)]; exact Or.inr (by decide)
  · rw [if_neg a]
    by_cases b : q_bc (b_set (ls_B S) (nI j) 24) < 12
    · rw [if_pos b, if_pos rfl]
      by_cases d : l_bl S j i x < d_b (b_o (ls_B S))
      · rw [if_pos d]; exact Or.inr (by decide)
      · rw [if_neg d]; exact Or.inl rfl
    · rw [if_neg b, if_neg (by decide)]; exact Or.inr (by decide)
theorem l_te_s {j m : Nat} {s v : Int32} : l_te S j s m v = 0 ∨ l_te S j s m v < 0 := by
  unfold l_te
  split
  · exact Or.inr (by decide)
  · split
    · exact Or.inr (by decide)
    · split
      · exact Or.inr (by decide)
      · split
        · split
          · exact Or.inl rfl
          · exact Or.inr (by decide)
        · exact Or.inr (by decide)
theorem i_nn {x : Int32} (h : x = 0 ∨ x < 0) (h2 : ¬ x < 0) : x = 0 := h.elim id (fun z => absurd z h2)
theorem i_ne {x : Int32} (h : x < 0) : ¬ x = 0 := fun e => by rw [e] at h; exact absurd h (by decide)
theorem RB.of {w nt np : Nat} (h : RB (ls_B S) (m_r M) w nt np c) {y : Nat} (hy : y < 5) : r_oo (m_r M) y = l_off S (nI y) := by
  obtain ⟨o0, o1, o2, o3, o4⟩ := h.2.2.2.1
  unfold l_off
  match y, hy with
  | 0, _ => rw [if_pos (by decide)]; exact o0
  | 1, _ => rw [if_neg (by decide), if_pos (by decide)]; exact o1
  | 2, _ => rw [if_neg (by decide), if_neg (by decide), if_pos (by decide)]; exact o2
  | 3, _ => rw [if_neg (by decide), if_neg (by decide), if_neg (by decide), if_pos (by decide)]; exact o3
  | 4, _ => rw [if_neg (by decide), if_neg (by decide), if_neg (by decide), if_neg (by decide)]; exact o4
theorem RB.rc {w nt np : Nat} (h : RB (ls_B S) (m_r M) w nt np c) {i y : Nat} (hi : i < 24) (hy : y < 12) (st : Int32) : r_rc (m_r M) i st y = if pl_has (b_p (ls_B S) i) = true then pl_rc (b_p (ls_B S) i) (b_w (ls_B S)) st (nI y) else -2 := by
  unfold r_rc
  rw [(h.p hi).has]
  cases hh : pl_has (b_p (ls_B S) i)
  · rfl
  · rw [if_pos rfl, if_pos rfl, (h.p hi).ld h.1.2.1 h.1.1 hh st hy, h.1.2.2.1]
theorem RB.rg {w nt np : Nat} (h : RB (ls_B S) (m_r M) w nt np c) {i : Nat} (hi : i < 24) (st : Int32) : r_gn (m_r M) i st = if pl_has (b_p (ls_B S) i) = true then pl_gn (b_p (ls_B S) i) (b_w (ls_B S)) st else 0 := by
  cases hh : pl_has (b_p (ls_B S) i)
  · unfold r_gn
    rw [(h.p hi).has, hh]; rfl
  · rw [if_pos rfl, (h.p hi).gn h.1.2.1 h.1.1 hh st, h.1.2.2.1]
end
end RELM
