/-! Questions on both sides: signings, a player's values, releases -/
section REL5
theorem q_part_z0 {l : Nat} (h1 : 1 ≤ l) (h5 : l ≤ 5) {x : Int32} : r_shb x (nI l) 0 = q_part x (nI l) 0 := q_part_shb
section
variable {S : q_Ls} {M : q_Mo} {w nt np nb c : Nat}
/-- the offer's first share; what it costs at first -/
theorem RB.fs {B : q_Bk} {r : Nat → Int64} (h : RB B r w nt np c) : r_fs r = d_shr (b_o B) 0 := by
  obtain ⟨l, g, el, h1, h5, -, -⟩ := okD_n h.2.2.2.2.1
  obtain ⟨-, -, o2, o3, -⟩ := h.2.2.2.1
  unfold r_fs d_shr
  rw [o2, o3, el, if_neg (fun z => z.elim (by decide) (fun z => z (show nI 0 < nI l from nI_lti (by omega) (by omega))))]
  exact q_part_shb
theorem RB.fc {B : q_Bk} {r : Nat → Int64} (h : RB B r w nt np c) : r_fc r = d_b (b_o B) + d_shr (b_o B) 0 := by
  unfold r_fc; rw [h.fs, h.2.2.2.1.1]
theorem d_sal_0 {d : q_Dl} (h : okD d) : d_sal d 0 = d_b d := by
  obtain ⟨l, g, el, h1, h5, -, -⟩ := okD_n h
  unfold d_sal
  rw [el, if_neg (fun z => z.elim (by decide) (fun z => z (show nI 0 < nI l from nI_lti (by omega) (by omega)))), Int32.mul_zero, show (0 : Int32) / 100 = 0 from by decide, Int32.add_zero]
theorem RB.lof {B : q_Bk} {r : Nat → Int64} (h : RB B r w nt np c) : r_fc r = l_of B := by
  unfold l_of; rw [h.fc, d_sal_0 h.2.2.2.2.1]
theorem okD_b {d : q_Dl} (h : okD d) : 1 ≤ (d_b d).toInt ∧ (d_b d).toInt ≤ 99999 := by
  have h1 := q_i32.mp h.1.1; have h2 := q_i32.mp h.1.2
  rw [show (1 : Int32).toInt = 1 from by decide] at h1
  rw [show (99999 : Int32).toInt = 99999 from by decide] at h2
  exact ⟨h1, h2⟩
theorem RB.room_bd (h : RB (ls_B S) (m_r M) w nt np c) (he : RE (ls_T S) M nt np nb) (hc : c ≤ 600) {t : Nat} (ht : t < 4) : -800000000 ≤ (l_room S t).toInt ∧ (l_room S t).toInt ≤ 150000000 := by
  have hw := h.1.1
  have h1 := h.chw hc ht
  have h2 := he.cap_bd (w := w) (x := 0) (by omega)
  rw [he.cap (by omega), ← h.w0] at h2
  unfold l_room
  rw [q_sub_i (by omega) (by omega)]; omega
theorem RTm.mid {T : q_Tm} {r : Nat → Int64} {t w c : Nat} (h : RTm T r t w c) : 0 ≤ (t_m T).toInt ∧ (t_m T).toInt ≤ 99999 := by
  have h1 := q_i32.mp h.2.2.1.1; have h2 := q_i32.mp h.2.2.1.2
  rw [show (0 : Int32).toInt = 0 from by decide] at h1
  rw [show (99999 : Int32).toInt = 99999 from by decide] at h2
  exact ⟨h1, h2⟩
/-- which base a rule allows -/
theorem RB.al (h : RB (ls_B S) (m_r M) w nt np c) (he : RE (ls_T S) M nt np nb) (hc : c ≤ 600) {t i : Nat} (ht : t < 4) (hi : i < 24) (x : Int32) : r_al M.1 (m_r M) np w t i x = decide (¬ l_bl S t i x < d_b (b_o (ls_B S))) := by
  have hb := okD_b h.2.2.2.2.1
  have hs := d_shr_bd h.2.2.2.2.1 0
  have hs0 : 0 ≤ (d_shr (b_o (ls_B S)) 0).toInt ∧ (d_shr (b_o (ls_B S)) 0).toInt ≤ 100000 := hs
  obtain ⟨o0, o1, o2, o3, o4⟩ := h.2.2.2.1
  have efc : (d_b (b_o (ls_B S)) + d_shr (b_o (ls_B S)) 0).toInt = (d_b (b_o (ls_B S))).toInt + (d_shr (b_o (ls_B S)) 0).toInt := q_add_i (by omega) (by omega)
  unfold r_al l_bl
  by_cases x0 : x = 0
  · rw [if_pos x0, if_pos x0]
    have hr := h.room_bd he hc ht
    have es : (l_room S t - d_shr (b_o (ls_B S)) 0).toInt = (l_room S t).toInt - (d_shr (b_o (ls_B S)) 0).toInt := q_sub_i (by omega) (by omega)
    refine decide_eq_decide.mpr ?_
    rw [h.fc, h.room he ht, q_i32, Int32.lt_iff_toInt_lt, efc, es]; omega
  · rw [if_neg x0, if_neg x0]
    by_cases x1 : x = 1
    · rw [if_pos x1, if_pos x1]
      have hm := (h.2.2.1 t ht).mid
      have em := (h.2.2.1 t ht).2.1
      refine decide_eq_decide.mpr ?_
      rw [o2, em, h.fc, q_tl, Int32.lt_iff_toInt_lt, efc]
      by_cases q : d_n (b_o (ls_B S)) ≤ 3
      · have es : (t_m (b_t (ls_B S) t) - d_shr (b_o (ls_B S)) 0).toInt = (t_m (b_t (ls_B S) t)).toInt - (d_shr (b_o (ls_B S)) 0).toInt := q_sub_i (by omega) (by omega)
        rw [if_neg (Int32.not_lt.mpr q), Int32.lt_iff_toInt_lt, es]
        constructor
        · intro z; have := z.1; omega
        · intro z; exact ⟨by omega, q⟩
      · rw [if_pos (Int32.not_le.mp q), Int32.lt_iff_toInt_lt, show (0 : Int32).toInt = 0 from by decide]
        constructor
        · intro z; exact absurd z.2 q
        · intro z; omega
    · rw [if_neg x1, if_neg x1]
      by_cases x2 : x = 2
      · rw [if_pos x2, if_pos x2]
        refine decide_eq_decide.mpr ?_
        rw [o0, o1, o2, o3]
        have hu := he.2.2.2.2.2.2.1
        by_cases q : d_r (b_o (ls_B S)) = 0 ∧ d_s (b_o (ls_B S)) = 0 ∧ ¬ 2 < d_n (b_o (ls_B S))
        · rw [if_pos q, ← hu, Int32.not_lt]
          constructor
          · intro z; exact z.1
          · intro z; exact ⟨z, q.1, q.2.1, Int32.not_lt.mp q.2.2⟩
        · rw [if_neg q, Int32.lt_iff_toInt_lt, show (0 : Int32).toInt = 0 from by decide]
          constructor
          · intro z; exact absurd ⟨z.2.1, z.2.2.1, Int32.not_lt.mpr z.2.2.2⟩ q
          · intro z; omega
      · rw [if_neg x2, if_neg x2]
        refine decide_eq_decide.mpr ?_
        obtain ⟨-, p1, p2, -⟩ := h.p hi
        rw [p1, p2]
        by_cases q : p_l (b_p (ls_B S) i) = nI t ∧ ¬ p_n (b_p (ls_B S) i) < 2
        · have e9 : ¬ (99999 : Int32) < d_b (b_o (ls_B S)) := by
            rw [Int32.lt_iff_toInt_lt, show (99999 : Int32).toInt = 99999 from by decide]; omega
          rw [if_pos q]
          exact ⟨fun _ => e9, fun _ => q⟩
        · have e9 : (0 : Int32) < d_b (b_o (ls_B S)) := by
            rw [Int32.lt_iff_toInt_lt, show (0 : Int32).toInt = 0 from by decide]; omega
          rw [if_neg q]
          exact ⟨fun z => absurd z q, fun z => absurd e9 z⟩
/-- a team's number of players -/
theorem RB.full (h : RB (ls_B S) (m_r M) w nt np c) {t : Nat} (ht : t < 4) : (r_ty (r_set (m_r M) t np) 24 = 12) ↔ ¬ q_bc (b_set (ls_B S) (nI t) 24) < 12 := by
  obtain ⟨n, hn, en⟩ := h.2.2.2.2.2 t ht
  rw [h.cnt ht, en]
  exact (by decide : ∀ n, n < 13 → (nI n = 12 ↔ ¬ nI n < 12)) n (by omega)
theorem RB.why (h : RB (ls_B S) (m_r M) w nt np c) (he : RE (ls_T S) M nt np nb) (hc : c ≤ 600) {t i : Nat} (ht : t < 4) (hi : i < 24) (x : Int32) : r_why M.1 (m_r M) np w t i x = l_se S t i x := by
  unfold r_why l_se l_pe
  rw [(h.p hi).has]
  cases hh : pl_has (b_p (ls_B S) i)
  · rw [if_neg (show ¬ (false = true) from by decide)]
    by_cases q : q_bc (b_set (ls_B S) (nI t) 24) < 12
    · rw [if_neg (fun z => (h.full ht).mp z q), if_pos q, h.al he hc ht hi]
      by_cases q2 : l_bl S t i x < d_b (b_o (ls_B S))
      · rw [decide_eq_false (fun z => z q2), if_pos q2]; rfl
      · rw [decide_eq_true q2, if_neg q2]; rfl
    · rw [if_pos ((h.full ht).mpr q), if_neg q]; rfl
  · rw [if_pos rfl]; rfl
/-- a contract as the reference's walk wants it -/
theorem RP.okP {P : q_Pl} {r : Nat → Int64} {i w nt np : Nat} (h : RP P r i w nt np) (hw : r_nw r = nI w) (hw15 : w ≤ 15) (hnt : nt ≤ 4) (hh : r_has r i = true) : okP r i := by
  rw [h.has] at hh
  obtain ⟨-, ⟨j, hj, ej⟩, ⟨-, -, h5, h7, -⟩, -, hd, s, l, es, el, hs, hwl, hl5⟩ := h.2.2.2 hh
  obtain ⟨l2, g, el2, h1, h6, eg, hg⟩ := okD_n hd
  have : l2 = l := nI_inj (by omega) (by omega) (el2.symm.trans el)
  subst this
  have yn := h.yn hw hw15 hh es el hs hl5 (y := 0) (by omega)
  rw [if_pos (by omega)] at yn
  exact ⟨j, w - s + 0, g, l2, by omega, by omega, hl5, hg, h.1.trans ej, yn, h7.trans eg, h5.trans el⟩
/-- what a release costs, by years ahead -/
theorem RP.ld {P : q_Pl} {r : Nat → Int64} {i w nt np : Nat} (h : RP P r i w nt np) (hw : r_nw r = nI w) (hw15 : w ≤ 15) (hh : pl_has P = true) (st : Int32) {q : Nat} (hq : q < 12) : r_ld r i st q = pl_rc P (nI w) st (nI q) := by
  obtain ⟨-, -, ⟨-, -, h5, h7, -⟩, -, hd, s, l, es, el, hs, hwl, hl5⟩ := h.2.2.2 hh
  obtain ⟨l2, g, el2, h1, h6, eg, hg⟩ := okD_n hd
  have : l2 = l := nI_inj (by omega) (by omega) (el2.symm.trans el)
  subst this
  have yn := h.yn hw hw15 hh es el hs hl5 (y := 0) (by omega)
  rw [if_pos (by omega)] at yn
  have hle : r_le r i = g - (w - s) := by
    unfold r_le
    rw [h7, eg, show r_yn r i 0 = nI (w - s + 0) from yn, nI_clamp (by omega), nI_clamp (by omega)]; omega
  have hly : r_ly r i = 2 * (l2 - (w - s)) + 1 := by
    unfold r_ly
    rw [h5, el, show r_yn r i 0 = nI (w - s + 0) from yn, nI_clamp (by omega), nI_clamp (by omega)]; omega
  obtain ⟨k, ek⟩ : ∃ k, k = w - s := ⟨_, rfl⟩
  have hsl : ∀ x, x < 12 → r_sl r i (nI x) = d_sal (p_d P) (nI (k + x)) := fun x hx => by
    rw [h.sl hw hw15 (by omega)]; unfold pl_sal; rw [hh, if_pos rfl, es, nI_wy w x s hs, ek]
  have hsu : r_su r i (g - k) = d_gf (p_d P) (nI k) := by
    unfold r_su d_gf
    rw [eg, d_ct_nI (by omega) (by omega), q_sm_ac]
    exact q_ac_c (fun x hx => by rw [hsl x (by omega), nI_add])
  have hsf : r_sf r i = d_sf (p_d P) (nI k) := by
    rw [h.sf hw hw15]; unfold pl_sl; rw [hh, if_pos rfl, es, nI_sb hs, ek]
  have hey : nI w - p_s P = nI k := by rw [es, nI_sb hs, ek]
  have h2 : r_d2 r i st (g - k) (2 * (l2 - k) + 1) (2 * (l2 - k) + 1) q = (if st = 0 then d_gp (p_d P) (nI k) (nI q) else d_str (p_d P) (nI k) (nI q)) := by
    unfold r_d2 r_d1
    by_cases q0 : st = 0
    · rw [if_neg (fun z => z.2 q0), if_pos q0, if_pos q0]
      unfold d_gp
      rw [eg, nI_add]
      by_cases q1 : q < g - k
      · rw [if_pos q1, if_neg (nI_ge (by omega) (by omega)), hsl q hq, Int32.zero_add]
      · rw [if_neg q1, if_pos (nI_le (by omega) (by omega))]
    · rw [if_neg q0, if_neg q0]
      have ey : 2 * (nI l2 - nI k) + 1 = nI (2 * (l2 - k) + 1) := by
        rw [nI_sb (by omega), show (2 : Int32) = nI 2 from rfl, nI_mul, nI_1]
      unfold d_str
      rw [el, ey]
      have hz : (if q < g - k then (0 : Int32) + 0 else 0) = 0 := by split <;> rfl
      by_cases q1 : q < 2 * (l2 - k) + 1
      · rw [hz, if_pos ⟨q1, q0⟩, if_neg (show ¬ (nI (2 * (l2 - k) + 1) < 1 ∨ ¬ nI q < nI (2 * (l2 - k) + 1)) from fun z => Or.elim z (fun z => absurd z (Int32.not_lt.mpr (nI_le (a := 1) (by omega) (by omega)))) (fun z => z (nI_lti (by omega) q1))), Int32.zero_add, hsu]
        exact q_part_shb
      · rw [if_neg (fun z => q1 z.1), if_pos (Or.inr (fun z => q1 (nI_lto (by omega) z))), hz]
  unfold r_ld pl_rc
  rw [hle, hly, hey, ← ek]
  unfold r_d3
  by_cases e0 : q = 0
  · rw [if_pos e0, if_pos (by rw [e0]; rfl)]
    subst e0
    rw [h2, hsf, Int32.add_comm]
  · rw [if_neg e0, if_neg (show ¬ nI q = 0 from fun z => e0 (nI_inj (b := 0) (by omega) (by decide) z)), h2, Int32.zero_add]
theorem RP.gn {P : q_Pl} {r : Nat → Int64} {i w nt np : Nat} (h : RP P r i w nt np) (hw : r_nw r = nI w) (hw15 : w ≤ 15) (hh : pl_has P = true) (st : Int32) : r_gn r i st = pl_gn P (nI w) st := by
  unfold r_gn pl_gn
  rw [h.has, hh, if_pos rfl, h.cost0 hw hw15, h.ld hw hw15 hh st (by omega)]; rfl
theorem RP.lt {P : q_Pl} {r : Nat → Int64} {i w nt np : Nat} (h : RP P r i w nt np) (hw : r_nw r = nI w) (hw15 : w ≤ 15) (hh : pl_has P = true) (st : Int32) : r_lt r i st = q_ac 0 (fun q => pl_rc P (nI w) st (nI q)) 12 := by
  unfold r_lt; exact q_ac_c (fun q hq => h.ld hw hw15 hh st hq)
end
end REL5
