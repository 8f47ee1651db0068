/-! Guards on both sides; steps that keep the relation -/
section RELC
section
variable {S : q_Ls} {M : q_Mo} {nt np nb : Nat}
theorem RE.eT (h : RE (ls_T S) M nt np nb) {t : Int32} : mgT M t = gT S t := by
  obtain ⟨-, -, -, ⟨e1, e2, e3, e4, -, -⟩, -⟩ := h
  unfold mgT gT; rw [rgL_0, e1, e2]
theorem RE.eP (h : RE (ls_T S) M nt np nb) {p : Int32} : mgP M p = gP S p := by
  obtain ⟨-, -, -, ⟨e1, e2, e3, e4, -, -⟩, -⟩ := h
  unfold mgP gP; rw [rgL_0, e3, e4]
theorem RE.e2 (h : RE (ls_T S) M nt np nb) {t u : Int32} : mg2 M t u = g2T S t u := by
  unfold mg2 g2T; rw [h.eT, h.eT, Bool.and_assoc]
theorem RE.eTr (h : RE (ls_T S) M nt np nb) {t s u v : Int32} : mgTr M t s u v = gTr S t s u v := by
  have e : mo_most M = ((1 : Int32) <<< (te_p (ls_T S) &&& 31)) - 1 := by
    obtain ⟨-, -, -, ⟨e1, e2, e3, e4, -, -⟩, -⟩ := h
    unfold mo_most; rw [e3, e4]
  unfold mgTr gTr g2T
  rw [h.eT, h.eT, rgL_0, rgL_0, e]
  simp only [Bool.and_assoc]
theorem RE.eS (h : RE (ls_T S) M nt np nb) {t p x : Int32} : mgS M t p x = (gT S t && gP S p && rg x 0 3) := by
  unfold mgS; rw [h.eT, h.eP, show (3 : Int64) = (3 : Int32).toInt64 from rfl, rgL_0, Bool.and_assoc]
theorem mgA_rg {x : Int32} : mgA x = rg x 0 11 := by
  unfold mgA; rw [show (11 : Int64) = (11 : Int32).toInt64 from rfl, rgL_0]
theorem rgL_6 {x : Int32} : rgL x.toInt64 0 6 = rg x 0 6 := by
  rw [show (6 : Int64) = (6 : Int32).toInt64 from rfl, rgL_0]
theorem rgL_4 {x : Int32} : rgL x.toInt64 0 4 = rg x 0 4 := by
  rw [show (4 : Int64) = (4 : Int32).toInt64 from rfl, rgL_0]
theorem mgO_rg {a b c d e : Int32} : mgO a b c d e = (rg a 1 99999 && rg b 0 20 && rg c 1 5 && rg d 0 99999 && rg e 0 c) := by
  unfold mgO
  rw [show (1 : Int64) = (1 : Int32).toInt64 from rfl, show (99999 : Int64) = (99999 : Int32).toInt64 from rfl, show (20 : Int64) = (20 : Int32).toInt64 from rfl, show (5 : Int64) = (5 : Int32).toInt64 from rfl, rgL_rg, rgL_rg, rgL_0, rgL_0, rgL_0]
  simp only [Bool.and_assoc]
end
section
variable {B : q_Bk} {r : Nat → Int64} {w nt np c : Nat}
/-- the offer is written down -/
theorem RB.mo (h : RB B r w nt np c) {b q l s g : Int32} (hd : okD (b, q, l, s, g)) : RB (b_sO B (b, q, l, s, g)) (r_mo r b q l s g) w nt np c := by
  obtain ⟨h1, h2, h3, h4, h5, h6⟩ := h
  refine ⟨⟨h1.1, ?_, h1.2.2⟩, fun i hi => (h2 i hi).cg (fun u hu => ?_), fun t ht => RTd.cg (h3 t ht) (fun u hu => ?_) (Int.le_refl _), ?_, hd, h6⟩
  · unfold r_mo; rw [ro_nw, ro_nw, ro_nw, ro_nw, ro_nw]; exact h1.2.1
  · unfold r_mo; rw [ro_op (by decide), ro_op (by decide), ro_op (by decide), ro_op (by decide), ro_op (by decide)]
  · unfold r_mo; rw [ro_ot (by decide), ro_ot (by decide), ro_ot (by decide), ro_ot (by decide), ro_ot (by decide)]
  · unfold r_mo
    simp only [ro_oo]
    exact ⟨rfl, rfl, rfl, rfl, rfl⟩
end
end RELC
