/-! A signing keeps the relation -/
section RELD
theorem r_sgn_ot {r : Nat → Int64} {t p s u : Nat} {x : Int32} (hp : p < 24) (hu : u < 35) : r_ot (r_sgn r t p x) s u = if s = t ∧ u = 0 then r_ot r t 0 + (if x = 1 then (-(r_fc r)).toInt64 else 0) else r_ot r s u := by
  have e1 : r_ot (r_sg1 r t p x) s u = if s = t ∧ u = 0 then r_ot r t 0 + (if x = 1 then (-(r_fc r)).toInt64 else 0) else r_ot r s u := ra_ot (by decide) hu
  have e2 : r_ot (r_sg2 (r_sg1 r t p x) t p) s u = r_ot (r_sg1 r t p x) s u := by
    unfold r_sg2
    split
    · rfl
    · exact rp_ot hp (by decide)
  unfold r_sgn r_sg4
  rw [rp_ot hp (by decide), rp_ot hp (by decide), r_of_ot hp 5 (by decide)]
  unfold r_sg3
  rw [rp_ot hp (by decide), rp_ot hp (by decide), e2, e1]
theorem q_neg64 {a : Int64} {b : Int32} (hb : 0 ≤ b.toInt) : a + (-b).toInt64 = a - b.toInt64 := by
  have hb2 := Int32.toInt_lt b
  have e : (-b).toInt64 = 0 - b.toInt64 := by
    rw [← Int32.zero_sub, q_sub_64 (by rw [show (0 : Int32).toInt = 0 from by decide]; omega) (by rw [show (0 : Int32).toInt = 0 from by decide]; omega)]; rfl
  rw [e, Int64.zero_sub, Int64.sub_eq_add_neg]
section
variable {S : q_Ls} {M : q_Mo} {w nt np nb c i j : Nat} {x : Int32}
theorem l_se_0 (e : l_se S j i x = 0) : pl_has (b_p (ls_B S) i) = false ∧ q_bc (b_set (ls_B S) (nI j) 24) < 12 ∧ ¬ l_bl S j i x < d_b (b_o (ls_B S)) := by
  unfold l_se at e
  by_cases q : l_pe S j i = 0
  · rw [if_pos q] at e
    refine ⟨?_, ?_, fun z => by rw [if_pos z] at e; cases e⟩
    · unfold l_pe at q
      cases hh : pl_has (b_p (ls_B S) i)
      · rfl
      · rw [hh, if_pos rfl] at q; cases q
    · unfold l_pe at q
      split at q
      · cases q
      · split at q
        · assumption
        · cases q
  · rw [if_neg q] at e; exact absurd e q
theorem RB.sg (h : RB (ls_B S) (m_r M) w nt np c) (hj : j < nt) (hi : i < np) (e : l_se S j i x = 0) : RB (l_sg (ls_B S) j i x) (r_sgn (m_r M) j i x) w nt np c := by
  obtain ⟨g1, g2, g3⟩ := l_se_0 e
  have hnt := h.1.2.2.2.1
  have hnp := h.1.2.2.2.2
  have hj4 : j < 4 := by omega
  have hi24 : i < 24 := by omega
  have efc := h.fc
  have elo := h.lof
  have hb := okD_b h.2.2.2.2.1
  have hs : 0 ≤ (d_shr (b_o (ls_B S)) 0).toInt ∧ (d_shr (b_o (ls_B S)) 0).toInt ≤ 100000 := d_shr_bd h.2.2.2.2.1 0
  have eil : (l_of (ls_B S)).toInt = (d_b (b_o (ls_B S))).toInt + (d_shr (b_o (ls_B S)) 0).toInt := by
    rw [← elo, efc]; exact q_add_i (by omega) (by omega)
  have bp : ∀ k, b_p (l_sb (ls_B S) j x) k = b_p (ls_B S) k := fun k => by unfold l_sb; split <;> rfl
  have bo : b_o (l_sb (ls_B S) j x) = b_o (ls_B S) := by unfold l_sb; split <;> rfl
  have bw : b_w (l_sb (ls_B S) j x) = b_w (ls_B S) := by unfold l_sb; split <;> rfl
  have sgp : ∀ k, b_p (l_sg (ls_B S) j i x) k = if k = i then pl_begin (b_p (ls_B S) i) (nI j) (nI w) (b_o (ls_B S)) else b_p (ls_B S) k := fun k => by
    unfold l_sg
    show (if k = i then pl_begin (b_p (l_sb (ls_B S) j x) i) (nI j) (b_w (l_sb (ls_B S) j x)) (b_o (l_sb (ls_B S) j x)) else b_p (l_sb (ls_B S) j x) k) = _
    rw [bp, bp, bo, bw, h.1.2.2.1]
  have plf : ∀ k, k < 24 → ∀ t, t < 4 → b_plf (l_sg (ls_B S) j i x) k (nI t) = if k = i then decide (j = t) else b_plf (ls_B S) k (nI t) := fun k hk t ht => by
    unfold b_plf
    rw [sgp]
    by_cases q : k = i
    · rw [if_pos q, if_pos q]
      exact decide_eq_decide.mpr ⟨fun z => nI_inj (by omega) (by omega) z, fun z => by rw [z]; rfl⟩
    · rw [if_neg q, if_neg q]
  have old : ∀ t, t < 4 → b_plf (ls_B S) i (nI t) = false := fun t ht => decide_eq_false (fun z => by
    have : pl_has (b_p (ls_B S) i) = true := decide_eq_true (by rw [z]; exact nI_neg1 (by omega))
    rw [g1] at this; cases this)
  refine ⟨⟨h.1.1, r_sgn_nw.trans h.1.2.1, ?_, h.1.2.2.2⟩, fun k hk => ?_, fun t ht => ?_, ?_, ?_, fun t ht => ?_⟩
  · show b_w (l_sb (ls_B S) j x) = nI w
    rw [bw]; exact h.1.2.2.1
  · rw [sgp]
    by_cases q : k = i
    · subst q
      rw [if_pos rfl]
      obtain ⟨p0, p1, p2, -⟩ := h.p hk
      obtain ⟨o0, o1, o2, o3, o4⟩ := h.2.2.2.1
      have hd := h.2.2.2.2.1
      obtain ⟨l, g, el, hl1, hl5, eg, hg⟩ := okD_n hd
      have op := fun u (hu : u < 10) => (r_sgn_op (r := m_r M) (t := j) (p := k) (q := k) (u := u) (x := x) hk hu).trans (if_pos rfl)
      refine ⟨op 0 (by omega), op 1 (by omega), ?_, fun _ => ⟨hi, ⟨j, hj, rfl⟩, ⟨?_, ?_, ?_, ?_, ?_⟩, Or.inl ⟨op 9 (by omega), ?_⟩, hd, w, l, rfl, el, Nat.le_refl _, by omega, hl5⟩⟩
      · rw [op 2 (by omega), p1, p2]; rfl
      · rw [op 3 (by omega)]; exact o0
      · rw [op 4 (by omega)]; exact o1
      · rw [op 5 (by omega)]; exact o2
      · rw [op 7 (by omega)]; exact o4
      · rw [op 8 (by omega)]; exact h.1.2.1
      · rw [op 6 (by omega)]; exact o3
    · rw [if_neg q]
      exact (h.p hk).cg (fun u hu => by rw [r_sgn_op hk hu, if_neg q])
  · show RTm (b_t (l_sb (ls_B S) j x) t) (r_sgn (m_r M) j i x) t w c
    obtain ⟨t1, t2, t3, t4, t5, t6⟩ := h.2.2.1 t ht
    have hm := (h.2.2.1 t ht).mid
    have u0 : ∀ u, u < 30 → ¬ u = 0 → r_ot (r_sgn (m_r M) j i x) t u = r_ot (m_r M) t u := fun u hu hz => by
      rw [r_sgn_ot hi24 (by omega), if_neg (fun z => hz z.2)]
    have hy : ∀ y, y < 27 → (r_ot (r_sgn (m_r M) j i x) t (3 + y)).toInt32 = t_d (b_t (ls_B S) t) y ∧ 0 ≤ (t_d (b_t (ls_B S) t) y).toInt ∧ (t_d (b_t (ls_B S) t) y).toInt ≤ (c : Int) * 1300000 := fun y hy => by
      rw [u0 (3 + y) (by omega) (by omega)]; exact t1 y hy
    unfold l_sb
    by_cases x1 : x = 1
    · rw [if_pos x1]
      show RTm (if t = j then (t_d (b_t (ls_B S) j), t_p (b_t (ls_B S) j), t_x (b_t (ls_B S) j), t_m (b_t (ls_B S) j) - l_of (ls_B S)) else b_t (ls_B S) t) _ t w c
      by_cases q : t = j
      · subst q
        rw [if_pos rfl]
        have hle : (l_of (ls_B S)).toInt ≤ (t_m (b_t (ls_B S) t)).toInt := by
          unfold l_bl at g3
          rw [if_neg (by rw [x1]; decide), if_pos x1] at g3
          by_cases n3 : 3 < d_n (b_o (ls_B S))
          · rw [if_pos n3] at g3
            exact absurd (show (0 : Int32) < d_b (b_o (ls_B S)) by rw [Int32.lt_iff_toInt_lt, show (0 : Int32).toInt = 0 from by decide]; omega) g3
          · rw [if_neg n3, Int32.lt_iff_toInt_lt, q_sub_i (by omega) (by omega)] at g3
            omega
        have em : (t_m (b_t (ls_B S) t) - l_of (ls_B S)).toInt = (t_m (b_t (ls_B S) t)).toInt - (l_of (ls_B S)).toInt := q_sub_i (by omega) (by omega)
        refine ⟨hy, ?_, ⟨?_, ?_⟩, ?_, t5, ?_⟩
        · rw [r_sgn_ot hi24 (by omega), if_pos ⟨rfl, rfl⟩, if_pos x1, elo, q_neg64 (by omega), t2]
          exact (q_sub_64 (by omega) (by omega)).symm
        · show 0 ≤ t_m (b_t (ls_B S) t) - l_of (ls_B S)
          rw [q_i32, em, show (0 : Int32).toInt = 0 from by decide]; omega
        · show t_m (b_t (ls_B S) t) - l_of (ls_B S) ≤ 99999
          rw [q_i32, em, show (99999 : Int32).toInt = 99999 from by decide]; omega
        · rw [u0 1 (by omega) (by omega)]; exact t4
        · rw [u0 2 (by omega) (by omega)]; exact t6
      · rw [if_neg q]
        refine ⟨hy, ?_, t3, ?_, t5, ?_⟩
        · rw [r_sgn_ot hi24 (by omega), if_neg (fun z => q z.1)]; exact t2
        · rw [u0 1 (by omega) (by omega)]; exact t4
        · rw [u0 2 (by omega) (by omega)]; exact t6
    · rw [if_neg x1]
      refine ⟨hy, ?_, t3, ?_, t5, ?_⟩
      · rw [r_sgn_ot hi24 (by omega), if_neg x1, Int64.add_zero]
        by_cases q : t = j
        · subst q; rw [if_pos ⟨rfl, rfl⟩]; exact t2
        · rw [if_neg (fun z => q z.1)]; exact t2
      · rw [u0 1 (by omega) (by omega)]; exact t4
      · rw [u0 2 (by omega) (by omega)]; exact t6
  · show r_oo _ 0 = d_b (b_o (l_sb (ls_B S) j x)) ∧ r_oo _ 1 = d_r (b_o (l_sb (ls_B S) j x)) ∧ r_oo _ 2 = d_n (b_o (l_sb (ls_B S) j x)) ∧ r_oo _ 3 = d_s (b_o (l_sb (ls_B S) j x)) ∧ r_oo _ 4 = d_g (b_o (l_sb (ls_B S) j x))
    rw [bo, r_sgn_oo (by decide), r_sgn_oo (by decide), r_sgn_oo (by decide), r_sgn_oo (by decide), r_sgn_oo (by decide)]
    exact h.2.2.2.1
  · show okD (b_o (l_sb (ls_B S) j x))
    rw [bo]; exact h.2.2.2.2.1
  · have hcn := h.cn ht
    have g2' : q_cn (b_set (ls_B S) (nI j) 24) 24 < 12 := by
      rw [q_bc_ty b_set_24, r_ty_cn 24 (by omega)] at g2
      exact nI_lto (b := 12) (by have := h.cn hj4; omega) g2
    have key : q_cn (b_set (l_sg (ls_B S) j i x) (nI t) 24) 24 ≤ 12 := by
      by_cases q : t = j
      · subst q
        have := q_cn_4 (a := b_set (l_sg (ls_B S) t i x) (nI t) 24) (b := 0) (x := b_set (ls_B S) (nI t) 24) (y := (1 : Int32) <<< (nI i &&& 31)) 24 (fun k hk => by
          rw [b_set_bit hk, b_set_bit hk, plf k hk t ht, q_one hi24 (by omega), show q_bit 0 k = false from (by decide : ∀ k, k < 24 → q_bit 0 k = false) k hk]
          by_cases q : k = i
          · subst q; rw [if_pos rfl, old t ht, decide_eq_true rfl]; simp
          · rw [if_neg q, decide_eq_false q])
        rw [(q_cn_one i hi24).1, show q_cn 0 24 = 0 from by decide] at this
        omega
      · have := q_cn_4 (a := b_set (l_sg (ls_B S) j i x) (nI t) 24) (b := 0) (x := b_set (ls_B S) (nI t) 24) (y := 0) 24 (fun k hk => by
          rw [b_set_bit hk, b_set_bit hk, plf k hk t ht]
          by_cases q2 : k = i
          · subst q2; rw [if_pos rfl, old t ht, decide_eq_false (fun z => q z.symm)]
          · rw [if_neg q2])
        omega
    exact ⟨_, key, by rw [q_bc_ty b_set_24, r_ty_cn 24 (by omega)]⟩
end
end RELD
