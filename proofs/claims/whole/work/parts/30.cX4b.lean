/-! SalaryCapLedger$Reader: the text -/
section CX4b
variable {V : q_En} {h : q_H} {z : Option Nat} {Kx : q_KX}
/-- nothing else changes -/
def q_fr (A : Nat → Prop) (h h' : q_H) : Prop := ∀ q, ¬ A q → h' q = h q
theorem q_fr.trans {A : Nat → Prop} {h h1 h2 : q_H} (x : q_fr A h h1) (y : q_fr A h1 h2) : q_fr A h h2 := fun q hq => (y q hq).trans (x q hq)
theorem q_fr.refl {A : Nat → Prop} : q_fr A h h := fun _ _ => rfl
def rd_inc (r : q_Rd) : q_Rd := (r.ec, r.ea, r.ct + 1, r.ln, r.en, r.kd, r.st, r.vl, r.na)
def rd_A (a e b : Nat) : Nat → Prop := fun q => q = a ∨ q = a + 2 ∨ (e ≤ q ∧ q < e + 5) ∨ (b ≤ q ∧ q < b + 60)
theorem rd_A.out {a e b c m : Nat} {h' : q_H} (ho : q_out c m h h') (hc : (c = a ∧ m = 1) ∨ (c = a + 2 ∧ m = 1) ∨ (e ≤ c ∧ c + m ≤ e + 5) ∨ (b ≤ c ∧ c + m ≤ b + 60)) : q_fr (rd_A a e b) h h' := fun q hq => ho q (by unfold rd_A at hq; omega)
def rd_Q (h : q_H) (a td N L : Nat) (f : Nat → Int32) (e b : Nat) (r : q_Rd) (T : q_Te) (B : q_Bk) : Prop :=
  h a = some (readE a td r) ∧ (∃ d, h (a + 2) = some (dealE d)) ∧ isY h td N f ∧ isE h e T ∧ isB h b B ∧ rd_ok r ∧ r.ln = L
def rd_G (a td e b N L : Nat) : Prop := td < a ∧ a + 3 ≤ e ∧ e + 5 ≤ b ∧ N < 2147483648 ∧ L ≤ N ∧ L + 1 < 2147483648
section
variable {a td N L e b : Nat} {f : Nat → Int32} {r r' : q_Rd} {T T' : q_Te} {B B' : q_Bk}
theorem rd_Q.Y (hQ : rd_Q h a td N L f e b r T B) : isY h td N f := hQ.2.2.1
theorem rd_Q.E (hQ : rd_Q h a td N L f e b r T B) : isE h e T := hQ.2.2.2.1
theorem rd_Q.bk (hQ : rd_Q h a td N L f e b r T B) : isB h b B := hQ.2.2.2.2.1
theorem rd_Q.k (hQ : rd_Q h a td N L f e b r T B) : rd_ok r := hQ.2.2.2.2.2.1
theorem rd_Q.l (hQ : rd_Q h a td N L f e b r T B) (hG : rd_G a td e b N L) : r.ln ≤ N := by rw [hQ.2.2.2.2.2.2]; exact hG.2.2.2.2.1
theorem rd_Q.sr (hG : rd_G a td e b N L) (hQ : rd_Q h a td N L f e b r T B) (hr : rd_ok r' ∧ r'.ln = r.ln) : rd_Q (q_up h a (readE a td r')) a td N L f e b r' T B ∧ q_fr (rd_A a e b) h (q_up h a (readE a td r')) := by
  obtain ⟨g1, g2, g3, g4, -⟩ := hG
  obtain ⟨q1, ⟨d, q2⟩, q3, q4, q5, q6, q7⟩ := hQ
  have ho : q_out a 1 h (q_up h a (readE a td r')) := q_out.up (by omega) (by omega)
  exact ⟨⟨q_up_s, ⟨d, by rw [q_up_n (by omega)]; exact q2⟩, q3.n (by omega), q4.o ho (by omega), q5.o ho (by omega), hr.1, by rw [hr.2]; exact q7⟩, rd_A.out ho (Or.inl ⟨rfl, rfl⟩)⟩
theorem rd_Q.sd (hG : rd_G a td e b N L) (hQ : rd_Q h a td N L f e b r T B) (d : q_Dl) : rd_Q (q_up h (a + 2) (dealE d)) a td N L f e b r T B ∧ q_fr (rd_A a e b) h (q_up h (a + 2) (dealE d)) := by
  obtain ⟨g1, g2, g3, g4, -⟩ := hG
  obtain ⟨q1, -, q3, q4, q5, q6, q7⟩ := hQ
  have ho : q_out (a + 2) 1 h (q_up h (a + 2) (dealE d)) := q_out.up (by omega) (by omega)
  exact ⟨⟨by rw [q_up_n (by omega)]; exact q1, ⟨d, q_up_s⟩, q3.n (by omega), q4.o ho (by omega), q5.o ho (by omega), q6, q7⟩, rd_A.out ho (Or.inr (Or.inl ⟨rfl, rfl⟩))⟩
theorem rd_Q.sE {h' : q_H} (hG : rd_G a td e b N L) (hQ : rd_Q h a td N L f e b r T B) (hE : isE h' e T') (ho : q_out e 5 h h') : rd_Q h' a td N L f e b r T' B ∧ q_fr (rd_A a e b) h h' := by
  obtain ⟨g1, g2, g3, g4, -⟩ := hG
  obtain ⟨q1, ⟨d, q2⟩, q3, q4, q5, q6, q7⟩ := hQ
  exact ⟨⟨by rw [ho a (by omega)]; exact q1, ⟨d, by rw [ho (a + 2) (by omega)]; exact q2⟩, q3.o ho (by omega), hE, q5.o ho (by omega), q6, q7⟩, rd_A.out ho (Or.inr (Or.inr (Or.inl ⟨Nat.le_refl _, Nat.le_refl _⟩)))⟩
theorem rd_Q.sB {h' : q_H} (hG : rd_G a td e b N L) (hQ : rd_Q h a td N L f e b r T B) (hB : isB h' b B') (ho : q_out b 60 h h') : rd_Q h' a td N L f e b r T B' ∧ q_fr (rd_A a e b) h h' := by
  obtain ⟨g1, g2, g3, g4, -⟩ := hG
  obtain ⟨q1, ⟨d, q2⟩, q3, q4, q5, q6, q7⟩ := hQ
  exact ⟨⟨by rw [ho a (by omega)]; exact q1, ⟨d, by rw [ho (a + 2) (by omega)]; exact q2⟩, q3.o ho (by omega), q4.o ho (by omega), hB, q6, q7⟩, rd_A.out ho (Or.inr (Or.inr (Or.inr ⟨Nat.le_refl _, Nat.le_refl _⟩)))⟩
/-- a field of the terms -/
theorem rd_Q.sF (hG : rd_G a td e b N L) (hQ : rd_Q h a td N L f e b r T B) (T' : q_Te) (e1 : te_c T' = te_c T) (e2 : te_l T' = te_l T) (e3 : te_s T' = te_s T) (e4 : te_r T' = te_r T) : rd_Q (q_up h e (termE e T')) a td N L f e b r T' B ∧ q_fr (rd_A a e b) h (q_up h e (termE e T')) := by
  have hE := hQ.E
  refine hQ.sE hG ⟨q_up_s, ?_, ?_, ?_, ?_⟩ (q_out.up (by omega) (by omega))
  · rw [e1]; exact hE.2.1.n (by omega)
  · rw [e2]; exact hE.2.2.1.n (by omega)
  · rw [e3]; exact hE.2.2.2.1.n (by omega)
  · rw [e4]; exact hE.2.2.2.2.n (by omega)
theorem bX4_takeWord {i : Nat} {r2 : q_Rd} {P : q_H → Option Nat → Prop} (hG : rd_G a td e b N L) (hi : i < 5) (hQ : rd_Q h a td N L f e b r T B) (hy : rd_word f r i = r2) (hk : ∀ h', rd_Q h' a td N L f e b r2 T B → q_fr (rd_A a e b) h h' → P h' z) : QMv V iX4_takeWord [.ref a, .ref (e_K V i)] h z P Kx := by
  subst hy
  exact mX4_takeWord hi hQ.1 hQ.Y (Nat.ne_of_lt hG.1) hG.2.2.2.1 hQ.k (hQ.l hG) (hk _ (hQ.sr hG (rd_word_ok hQ.k)).1 (hQ.sr hG (rd_word_ok hQ.k)).2)
theorem bX4_takeSemicolon {r2 : q_Rd} {P : q_H → Option Nat → Prop} (hG : rd_G a td e b N L) (hQ : rd_Q h a td N L f e b r T B) (hy : rd_semi f r = r2) (hk : ∀ h', rd_Q h' a td N L f e b r2 T B → q_fr (rd_A a e b) h h' → P h' z) : QMv V iX4_takeSemicolon [.ref a] h z P Kx := by
  subst hy
  exact mX4_takeSemicolon hQ.1 hQ.Y (Nat.ne_of_lt hG.1) hG.2.2.2.1 hQ.k (hQ.l hG) (hk _ (hQ.sr hG (rd_semi_ok hQ.k)).1 (hQ.sr hG (rd_semi_ok hQ.k)).2)
theorem bX4_fail {c p : Int32} {r2 : q_Rd} {P : q_H → Option Nat → Prop} (hG : rd_G a td e b N L) (hQ : rd_Q h a td N L f e b r T B) (hy : rd_fail r c p = r2) (hk : ∀ h', rd_Q h' a td N L f e b r2 T B → q_fr (rd_A a e b) h h' → P h' z) : QMv V iX4_fail [.ref a, .int c, .int p] h z P Kx := by
  subst hy
  exact mX4_fail hQ.1 (hk _ (hQ.sr hG (rd_fail_ok hQ.k)).1 (hQ.sr hG (rd_fail_ok hQ.k)).2)
theorem bX4_takeNumber {lo hi : Int32} {y : Int32 × q_Rd} {P : Int32 → q_H → Option Nat → Prop} (hG : rd_G a td e b N L) (hQ : rd_Q h a td N L f e b r T B) (hy : rd_nb f r lo hi = y) (hk : ∀ h', rd_Q h' a td N L f e b y.2 T B → q_fr (rd_A a e b) h h' → P y.1 h' z) : QMi V iX4_takeNumber [.ref a, .int lo, .int hi] h z P Kx := by
  subst hy
  exact mX4_takeNumber hQ.1 hQ.Y (Nat.ne_of_lt hG.1) hG.2.2.2.1 hQ.k (hQ.l hG) (hk _ (hQ.sr hG (rd_nb_ok hQ.k)).1 (hQ.sr hG (rd_nb_ok hQ.k)).2)
theorem bX4_isWord {i : Nat} {P : Int32 → q_H → Option Nat → Prop} (hG : rd_G a td e b N L) (hi : i < 5) (hQ : rd_Q h a td N L f e b r T B) (hk : P (q_b (rd_is f r i)) h z) : QMi V iX4_isWord [.ref a, .ref (e_K V i)] h z P Kx :=
  mX4_isWord hi hQ.1 hQ.Y (Nat.ne_of_lt hG.1) hG.2.2.2.1 hQ.k (hQ.l hG) hk
end
theorem rd_Q.sI {a td N L e b : Nat} {f : Nat → Int32} {r : q_Rd} {T : q_Te} {B : q_Bk} (hG : rd_G a td e b N L) (hQ : rd_Q h a td N L f e b r T B) : rd_Q (q_up h a (.inr (5, [.int r.ec, .int r.ea, .int (r.ct + 1), .ref td, .int (nI r.ln), .int (nI r.en), .int r.kd, .int (nI r.st), .int r.vl, .int r.na, .ref (a + 2)]))) a td N L f e b (rd_inc r) T B ∧ q_fr (rd_A a e b) h (q_up h a (.inr (5, [.int r.ec, .int r.ea, .int (r.ct + 1), .ref td, .int (nI r.ln), .int (nI r.en), .int r.kd, .int (nI r.st), .int r.vl, .int r.na, .ref (a + 2)]))) := hQ.sr hG (r' := rd_inc r) ⟨hQ.k, rfl⟩
def te_sM (T : q_Te) (x : Int32) : q_Te := (te_c T, te_l T, te_s T, te_r T, te_n T, x, te_u T, te_t T, te_p T)
def te_sU (T : q_Te) (x : Int32) : q_Te := (te_c T, te_l T, te_s T, te_r T, te_n T, te_m T, x, te_t T, te_p T)
def te_sN (T : q_Te) (x : Int32) : q_Te := (te_c T, te_l T, te_s T, te_r T, x, te_m T, te_u T, te_t T, te_p T)
def te_sT (T : q_Te) (x : Int32) : q_Te := (te_c T, te_l T, te_s T, te_r T, te_n T, te_m T, te_u T, x, te_p T)
def te_sP (T : q_Te) (x : Int32) : q_Te := (te_c T, te_l T, te_s T, te_r T, te_n T, te_m T, te_u T, te_t T, x)
def te_gl (T : q_Te) (x y g : Int32) : q_Te := (fun k => (te_g x g k).toInt32, fun k => (te_g y g k).toInt32, T.2.2)
def te_ab (T : q_Te) (n : Nat) (x y : Int32) : q_Te := (te_c T, te_l T, upd (te_s T) n x, upd (te_r T) n y, te_n T + 1, T.2.2.2.2.2)
section
variable (f : Nat → Int32) (r : q_Rd) (T : q_Te) (B : q_Bk)
def rd_l1 : Int32 × q_Rd := rd_nb f (rd_word f r 0) 1 999999
def rd_l2 : Int32 × q_Rd := rd_nb f (rd_l1 f r).2 1 999999
def rd_l3 : Int32 × q_Rd := rd_nb f (rd_l2 f r).2 0 200
def rd_l4 : Int32 × q_Rd := rd_nb f (rd_l3 f r).2 0 99999
def rd_l5 : Int32 × q_Rd := rd_nb f (rd_l4 f r).2 1 99999
def rd_l6 : q_Rd := rd_semi f (rd_l5 f r).2
def rd_lT : q_Te := te_sU (te_sM (te_gl T (rd_l1 f r).1 (rd_l2 f r).1 (rd_l3 f r).1) (rd_l4 f r).1) (rd_l5 f r).1
def rd_b1 : Int32 × q_Rd := rd_nb f (rd_word f r 1) 1 99999
def rd_b2 : Int32 × q_Rd := rd_nb f (rd_b1 f r).2 0 900
def rd_b3 : q_Rd := rd_semi f (rd_b2 f r).2
end
def rd_bl (f : Nat → Int32) : Nat → Nat → q_Rd → q_Te → q_Rd × q_Te
  | 0, _, r, T => (r, T)
  | n + 1, k, r, T => if k = 0 ∨ rd_is f r 1 = true then rd_bl f n (k + 1) (rd_b3 f r) (te_ab T k (rd_b1 f r).1 (rd_b2 f r).1) else (r, T)
def rd_bf (f : Nat → Int32) (r : q_Rd) : q_Rd := if rd_is f r 1 = true then rd_fail r 3 (nI r.st) else r
def rd_b5 (f : Nat → Int32) (r : q_Rd) (T : q_Te) : q_Rd × q_Te := rd_bl f 4 0 r (te_sN T 0)
section
variable (f : Nat → Int32) (r : q_Rd) (T : q_Te) (B : q_Bk)
def rd_c1 : Int32 × q_Rd := rd_nb f (rd_word f r 4) 0 (te_p T - 1)
def rd_cp : Nat := (rd_c1 f r T).1.toNatClampNeg
def rd_c2 : q_Rd := if pl_has (b_p B (rd_cp f r T)) = true then rd_fail (rd_c1 f r T).2 4 (rd_c1 f r T).2.na else (rd_c1 f r T).2
def rd_c3 : Int32 × q_Rd := rd_nb f (rd_c2 f r T B) 0 (te_t T - 1)
def rd_c4 : q_Rd := if q_bc (b_set B (rd_c3 f r T B).1 24) < 12 then (rd_c3 f r T B).2 else rd_fail (rd_c3 f r T B).2 4 (rd_c3 f r T B).2.na
def rd_c5 : Int32 × q_Rd := rd_nb f (rd_c4 f r T B) 1 99999
def rd_c6 : Int32 × q_Rd := rd_nb f (rd_c5 f r T B).2 0 20
def rd_c7 : Int32 × q_Rd := rd_nb f (rd_c6 f r T B).2 1 5
def rd_c8 : Int32 × q_Rd := rd_nb f (rd_c7 f r T B).2 0 99999
def rd_c9 : Int32 × q_Rd := rd_nb f (rd_c8 f r T B).2 0 (rd_c7 f r T B).1
def rd_ca : q_Rd := rd_semi f (rd_c9 f r T B).2
def rd_cr : q_Rd := if rd_bad (rd_ca f r T B) = true then rd_ca f r T B else rd_inc (rd_ca f r T B)
def rd_cB : q_Bk := if rd_bad (rd_ca f r T B) = true then B else b_sP B (rd_cp f r T) (pl_begin (b_p B (rd_cp f r T)) (rd_c3 f r T B).1 0 ((rd_c5 f r T B).1, (rd_c6 f r T B).1, (rd_c7 f r T B).1, (rd_c8 f r T B).1, (rd_c9 f r T B).1))
end
def rd_cl (f : Nat → Int32) (T : q_Te) : Nat → q_Rd → q_Bk → q_Rd × q_Bk
  | 0, r, B => (r, B)
  | n + 1, r, B => if rd_bad r = true ∨ r.kd = 0 then (r, B) else rd_cl f T n (rd_cr f r T B) (rd_cB f r T B)
section
variable (f : Nat → Int32) (L : Nat) (r : q_Rd) (T : q_Te) (B : q_Bk)
def rd_t0 : q_Rd := rd_tok f (0, -1, 0, L, 0, r.kd, r.st, r.vl, r.na)
def rd_t1 : q_Rd := rd_l6 f (rd_t0 f L r)
def rd_T1 : q_Te := rd_lT f (rd_t0 f L r) T
def rd_t2 : q_Rd × q_Te := rd_b5 f (rd_t1 f L r) (rd_T1 f L r T)
def rd_t2r : q_Rd := rd_bf f (rd_t2 f L r T).1
def rd_t3 : Int32 × q_Rd := rd_nb f (rd_word f (rd_t2r f L r T) 2) 1 4
def rd_t4 : Int32 × q_Rd := rd_nb f (rd_word f (rd_semi f (rd_t3 f L r T).2) 3) 1 24
def rd_t5 : q_Rd := rd_semi f (rd_t4 f L r T).2
def rd_tT : q_Te := te_sP (te_sT (rd_t2 f L r T).2 (rd_t3 f L r T).1) (rd_t4 f L r T).1
def rd_tR : q_Rd := (rd_cl f (rd_tT f L r T) (L + 1) (rd_t5 f L r T) (b_clr B)).1
def rd_tB : q_Bk := b_ref (rd_cl f (rd_tT f L r T) (L + 1) (rd_t5 f L r T) (b_clr B)).2 (te_m (rd_tT f L r T))
end
theorem rd_Q.sN {a td N L e b : Nat} {f : Nat → Int32} {r : q_Rd} {T : q_Te} {B : q_Bk} (hG : rd_G a td e b N L) (hQ : rd_Q h a td N L f e b r T B) (x : Int32) : rd_Q (q_up h e (.inr (8, [.ref (e + 1), .ref (e + 2), .ref (e + 3), .ref (e + 4), .int x, .int (te_m T), .int (te_u T), .int (te_t T), .int (te_p T)]))) a td N L f e b r (te_sN T x) B ∧ q_fr (rd_A a e b) h (q_up h e (.inr (8, [.ref (e + 1), .ref (e + 2), .ref (e + 3), .ref (e + 4), .int x, .int (te_m T), .int (te_u T), .int (te_t T), .int (te_p T)]))) := hQ.sF hG (te_sN T x) rfl rfl rfl rfl
theorem rd_Q.sM {a td N L e b : Nat} {f : Nat → Int32} {r : q_Rd} {T : q_Te} {B : q_Bk} (hG : rd_G a td e b N L) (hQ : rd_Q h a td N L f e b r T B) (x : Int32) : rd_Q (q_up h e (.inr (8, [.ref (e + 1), .ref (e + 2), .ref (e + 3), .ref (e + 4), .int (te_n T), .int x, .int (te_u T), .int (te_t T), .int (te_p T)]))) a td N L f e b r (te_sM T x) B ∧ q_fr (rd_A a e b) h (q_up h e (.inr (8, [.ref (e + 1), .ref (e + 2), .ref (e + 3), .ref (e + 4), .int (te_n T), .int x, .int (te_u T), .int (te_t T), .int (te_p T)]))) := hQ.sF hG (te_sM T x) rfl rfl rfl rfl
theorem rd_Q.sU {a td N L e b : Nat} {f : Nat → Int32} {r : q_Rd} {T : q_Te} {B : q_Bk} (hG : rd_G a td e b N L) (hQ : rd_Q h a td N L f e b r T B) (x : Int32) : rd_Q (q_up h e (.inr (8, [.ref (e + 1), .ref (e + 2), .ref (e + 3), .ref (e + 4), .int (te_n T), .int (te_m T), .int x, .int (te_t T), .int (te_p T)]))) a td N L f e b r (te_sU T x) B ∧ q_fr (rd_A a e b) h (q_up h e (.inr (8, [.ref (e + 1), .ref (e + 2), .ref (e + 3), .ref (e + 4), .int (te_n T), .int (te_m T), .int x, .int (te_t T), .int (te_p T)]))) := hQ.sF hG (te_sU T x) rfl rfl rfl rfl
theorem rd_Q.sT {a td N L e b : Nat} {f : Nat → Int32} {r : q_Rd} {T : q_Te} {B : q_Bk} (hG : rd_G a td e b N L) (hQ : rd_Q h a td N L f e b r T B) (x : Int32) : rd_Q (q_up h e (.inr (8, [.ref (e + 1), .ref (e + 2), .ref (e + 3), .ref (e + 4), .int (te_n T), .int (te_m T), .int (te_u T), .int x, .int (te_p T)]))) a td N L f e b r (te_sT T x) B ∧ q_fr (rd_A a e b) h (q_up h e (.inr (8, [.ref (e + 1), .ref (e + 2), .ref (e + 3), .ref (e + 4), .int (te_n T), .int (te_m T), .int (te_u T), .int x, .int (te_p T)]))) := hQ.sF hG (te_sT T x) rfl rfl rfl rfl
theorem rd_Q.sP {a td N L e b : Nat} {f : Nat → Int32} {r : q_Rd} {T : q_Te} {B : q_Bk} (hG : rd_G a td e b N L) (hQ : rd_Q h a td N L f e b r T B) (x : Int32) : rd_Q (q_up h e (.inr (8, [.ref (e + 1), .ref (e + 2), .ref (e + 3), .ref (e + 4), .int (te_n T), .int (te_m T), .int (te_u T), .int (te_t T), .int x]))) a td N L f e b r (te_sP T x) B ∧ q_fr (rd_A a e b) h (q_up h e (.inr (8, [.ref (e + 1), .ref (e + 2), .ref (e + 3), .ref (e + 4), .int (te_n T), .int (te_m T), .int (te_u T), .int (te_t T), .int x]))) := hQ.sF hG (te_sP T x) rfl rfl rfl rfl
theorem mX4_readLeague {a td N L e b : Nat} {f : Nat → Int32} {r : q_Rd} {T : q_Te} {B : q_Bk} {P : q_H → Option Nat → Prop} (hG : rd_G a td e b N L) (hQ : rd_Q h a td N L f e b r T B) (hk : ∀ h', rd_Q h' a td N L f e b (rd_l6 f r) (rd_lT f r T) B → q_fr (rd_A a e b) h h' → P h' z) : QMv V iX4_readLeague [.ref a, .ref e] h z P Kx := by
  have ho : q_fr (rd_A a e b) h h := q_fr.refl
  refine eX4_readLeague ?_
  refine wX4_readLeague_0 ?_
  refine wX4_readLeague_1 ?_
  refine wX4_readLeague_3 hQ.1 (bX4_takeWord hG (i := 0) (by decide) hQ (r2 := _) rfl fun h2 hQ2 ho2 => ?_)
  replace hQ := hQ2
  replace ho := ho.trans ho2
  refine wX4_readLeague_6 ?_
  refine wX4_readLeague_7 ?_
  refine wX4_readLeague_8 ?_
  refine wX4_readLeague_10 hQ.1 (bX4_takeNumber hG hQ (y := rd_l1 f r) rfl fun h2 hQ2 ho2 => ?_)
  replace hQ := hQ2
  replace ho := ho.trans ho2
  refine wX4_readLeague_13 ?_
  refine wX4_readLeague_14 ?_
  refine wX4_readLeague_15 ?_
  refine wX4_readLeague_16 ?_
  refine wX4_readLeague_18 hQ.1 (bX4_takeNumber hG hQ (y := rd_l2 f r) rfl fun h2 hQ2 ho2 => ?_)
  replace hQ := hQ2
  replace ho := ho.trans ho2
  refine wX4_readLeague_21 ?_
  refine wX4_readLeague_22 ?_
  refine wX4_readLeague_23 ?_
  refine wX4_readLeague_24 ?_
  refine wX4_readLeague_27 hQ.1 (bX4_takeNumber hG hQ (y := rd_l3 f r) rfl fun h2 hQ2 ho2 => ?_)
  replace hQ := hQ2
  replace ho := ho.trans ho2
  refine wX4_readLeague_30 ?_
  refine wX4_readLeague_32 ?_
  refine wX4_readLeague_33 ?_
  refine wX4_readLeague_34 ?_
  refine wX4_readLeague_35 ?_
  refine wX4_readLeague_37 hQ.E.1 (mX7_growLines hQ.E fun h2 hE2 ho2 => ?_)
  obtain ⟨hQ2, ho3⟩ := hQ.sE hG (T' := te_gl T (rd_l1 f r).1 (rd_l2 f r).1 (rd_l3 f r).1) hE2 ho2
  replace ho := ho.trans ho3
  replace hQ := hQ2
  clear ho2
  refine wX4_readLeague_40 ?_
  refine wX4_readLeague_41 ?_
  refine wX4_readLeague_42 ?_
  refine wX4_readLeague_43 ?_
  refine wX4_readLeague_45 hQ.1 (bX4_takeNumber hG hQ (y := rd_l4 f r) rfl fun h2 hQ2 ho2 => ?_)
  replace hQ := hQ2
  replace ho := ho.trans ho2
  refine wX4_readLeague_48 hQ.E.1 ?_
  obtain ⟨hQ2, ho2⟩ := hQ.sM hG ((rd_l4 f r).1)
  replace ho := ho.trans ho2
  replace hQ := hQ2
  clear hQ2 ho2
  refine wX4_readLeague_51 ?_
  refine wX4_readLeague_52 ?_
  refine wX4_readLeague_53 ?_
  refine wX4_readLeague_54 ?_
  refine wX4_readLeague_56 hQ.1 (bX4_takeNumber hG hQ (y := rd_l5 f r) rfl fun h2 hQ2 ho2 => ?_)
  replace hQ := hQ2
  replace ho := ho.trans ho2
  refine wX4_readLeague_59 hQ.E.1 ?_
  obtain ⟨hQ2, ho2⟩ := hQ.sU hG ((rd_l5 f r).1)
  replace ho := ho.trans ho2
  replace hQ := hQ2
  clear hQ2 ho2
  refine wX4_readLeague_62 ?_
  refine wX4_readLeague_63 hQ.1 (bX4_takeSemicolon hG hQ (r2 := rd_l6 f r) rfl fun h2 hQ2 ho2 => ?_)
  replace hQ := hQ2
  replace ho := ho.trans ho2
  refine wX4_readLeague_66  ?_
  exact hk _ hQ ho
theorem mX4_br_lp {a td N L e b : Nat} {f : Nat → Int32} {B : q_Bk} {Kr : q_KR} (hG : rd_G a td e b N L) : ∀ n k (hh : q_H) (r : q_Rd) (T : q_Te), k + n = 4 → te_n T = nI k → rd_Q hh a td N L f e b r T B → (∀ h3, rd_Q h3 a td N L f e b (rd_bl f n k r T).1 (rd_bl f n k r T).2 B → q_fr (rd_A a e b) hh h3 → QW V iX4_readBrackets 66 [some (.ref a), some (.ref e), none, none, none] [] h3 z 0 0 Kr Kx) → QW V iX4_readBrackets 7 [some (.ref a), some (.ref e), some (.int (nI k)), none, none] [] hh z 0 0 Kr Kx := by
  intro n
  induction n with
  | zero =>
    intro k hh r T hkn hn hQ kk
    refine wX4_readBrackets_7 ?_
    refine wX4_readBrackets_8 ?_
    refine wX4_readBrackets_9 (fun c9 => ?_) (fun c9 => absurd (by exact nI_le (a := 4) (by omega) (by omega)) c9)
    exact q_drp 2 (kk hh hQ q_fr.refl)
  | succ n ih =>
    intro k hh r T hkn hn hQ kk
    have ho : q_fr (rd_A a e b) hh hh := q_fr.refl
    refine wX4_readBrackets_7 ?_
    refine wX4_readBrackets_8 ?_
    refine wX4_readBrackets_9 (fun c9 => absurd c9 (nI_ge (b := 4) (by omega) (by decide))) (fun c9 => ?_)
    refine wX4_readBrackets_12 ?_
    refine wX4_readBrackets_13 (fun c13 => ?_) (fun c13 => ?_)
    · refine wX4_readBrackets_25 ?_
      refine wX4_readBrackets_26 ?_
      refine wX4_readBrackets_28 hQ.1 (bX4_takeWord hG (i := 1) (by decide) hQ (r2 := _) rfl fun h2 hQ2 ho2 => ?_)
      replace hQ := hQ2
      replace ho := ho.trans ho2
      refine wX4_readBrackets_31 ?_
      refine wX4_readBrackets_32 ?_
      refine wX4_readBrackets_33 ?_
      refine wX4_readBrackets_35 hQ.1 (bX4_takeNumber hG hQ (y := rd_b1 f r) rfl fun h2 hQ2 ho2 => ?_)
      replace hQ := hQ2
      replace ho := ho.trans ho2
      refine wX4_readBrackets_38 ?_
      refine wX4_readBrackets_39 ?_
      refine wX4_readBrackets_40 ?_
      refine wX4_readBrackets_41 ?_
      refine wX4_readBrackets_44 hQ.1 (bX4_takeNumber hG hQ (y := rd_b2 f r) rfl fun h2 hQ2 ho2 => ?_)
      replace hQ := hQ2
      replace ho := ho.trans ho2
      refine wX4_readBrackets_47 ?_
      refine wX4_readBrackets_49 ?_
      refine wX4_readBrackets_50 hQ.1 (bX4_takeSemicolon hG hQ (r2 := rd_b3 f r) rfl fun h2 hQ2 ho2 => ?_)
      replace hQ := hQ2
      replace ho := ho.trans ho2
      refine wX4_readBrackets_53 ?_
      refine wX4_readBrackets_54 ?_
      refine wX4_readBrackets_55 ?_
      refine wX4_readBrackets_57 hQ.E.1 (mX7_addBracket hQ.E hn (by omega) fun h2 hE2 ho2 => ?_)
      obtain ⟨hQ2, ho3⟩ := hQ.sE hG (T' := te_ab T k (rd_b1 f r).1 (rd_b2 f r).1) hE2 ho2
      replace ho := ho.trans ho3
      replace hQ := hQ2
      clear ho2
      refine wX4_readBrackets_60 ?_
      refine wX4_readBrackets_63 ?_
      have hcond : k = 0 ∨ rd_is f r 1 = true := by
        first
          | exact Or.inl (nI_z0 k (by omega) c13)
          | exact Or.inr (q_b1 c22)
      rw [rd_bl, if_pos hcond] at kk
      refine q_drp 3 (q_drp 4 (q_ls (by rw [nI_1]; rfl) (ih (k + 1) _ _ _ (by omega) (by show te_n T + 1 = _; rw [hn, nI_1]) hQ fun h3 hQ3 ho3 => kk h3 hQ3 (ho.trans ho3))))
    · refine wX4_readBrackets_16 ?_
      refine wX4_readBrackets_17 ?_
      refine wX4_readBrackets_19 hQ.1 (bX4_isWord hG (i := 1) (by decide) hQ ?_)
      refine wX4_readBrackets_22 (fun c22 => ?_) (fun c22 => ?_)
      · rw [rd_bl, if_neg (fun q => q.elim (fun q => c13 (by rw [q]; rfl)) (fun q => by rw [q_b0 c22] at q; cases q))] at kk
        exact q_drp 2 (kk _ hQ ho)
      · refine wX4_readBrackets_25 ?_
        refine wX4_readBrackets_26 ?_
        refine wX4_readBrackets_28 hQ.1 (bX4_takeWord hG (i := 1) (by decide) hQ (r2 := _) rfl fun h2 hQ2 ho2 => ?_)
        replace hQ := hQ2
        replace ho := ho.trans ho2
        refine wX4_readBrackets_31 ?_
        refine wX4_readBrackets_32 ?_
        refine wX4_readBrackets_33 ?_
        refine wX4_readBrackets_35 hQ.1 (bX4_takeNumber hG hQ (y := rd_b1 f r) rfl fun h2 hQ2 ho2 => ?_)
        replace hQ := hQ2
        replace ho := ho.trans ho2
        refine wX4_readBrackets_38 ?_
        refine wX4_readBrackets_39 ?_
        refine wX4_readBrackets_40 ?_
        refine wX4_readBrackets_41 ?_
        refine wX4_readBrackets_44 hQ.1 (bX4_takeNumber hG hQ (y := rd_b2 f r) rfl fun h2 hQ2 ho2 => ?_)
        replace hQ := hQ2
        replace ho := ho.trans ho2
        refine wX4_readBrackets_47 ?_
        refine wX4_readBrackets_49 ?_
        refine wX4_readBrackets_50 hQ.1 (bX4_takeSemicolon hG hQ (r2 := rd_b3 f r) rfl fun h2 hQ2 ho2 => ?_)
        replace hQ := hQ2
        replace ho := ho.trans ho2
        refine wX4_readBrackets_53 ?_
        refine wX4_readBrackets_54 ?_
        refine wX4_readBrackets_55 ?_
        refine wX4_readBrackets_57 hQ.E.1 (mX7_addBracket hQ.E hn (by omega) fun h2 hE2 ho2 => ?_)
        obtain ⟨hQ2, ho3⟩ := hQ.sE hG (T' := te_ab T k (rd_b1 f r).1 (rd_b2 f r).1) hE2 ho2
        replace ho := ho.trans ho3
        replace hQ := hQ2
        clear ho2
        refine wX4_readBrackets_60 ?_
        refine wX4_readBrackets_63 ?_
        have hcond : k = 0 ∨ rd_is f r 1 = true := by
          first
            | exact Or.inl (nI_z0 k (by omega) c13)
            | exact Or.inr (q_b1 c22)
        rw [rd_bl, if_pos hcond] at kk
        refine q_drp 3 (q_drp 4 (q_ls (by rw [nI_1]; rfl) (ih (k + 1) _ _ _ (by omega) (by show te_n T + 1 = _; rw [hn, nI_1]) hQ fun h3 hQ3 ho3 => kk h3 hQ3 (ho.trans ho3))))
theorem mX4_readBrackets {a td N L e b : Nat} {f : Nat → Int32} {r : q_Rd} {T : q_Te} {B : q_Bk} {P : q_H → Option Nat → Prop} (hG : rd_G a td e b N L) (hQ : rd_Q h a td N L f e b r T B) (hk : ∀ h', rd_Q h' a td N L f e b (rd_bf f (rd_b5 f r T).1) (rd_b5 f r T).2 B → q_fr (rd_A a e b) h h' → P h' z) : QMv V iX4_readBrackets [.ref a, .ref e] h z P Kx := by
  have ho : q_fr (rd_A a e b) h h := q_fr.refl
  refine eX4_readBrackets ?_
  refine wX4_readBrackets_0 ?_
  refine wX4_readBrackets_1 ?_
  refine wX4_readBrackets_2 hQ.E.1 ?_
  obtain ⟨hQ2, ho2⟩ := hQ.sN hG (0)
  replace ho := ho.trans ho2
  replace hQ := hQ2
  clear hQ2 ho2
  refine wX4_readBrackets_5 ?_
  refine wX4_readBrackets_6 ?_
  refine mX4_br_lp hG 4 0 _ _ _ rfl rfl hQ fun h2 hQ2 ho2 => ?_
  replace hQ : rd_Q h2 a td N L f e b (rd_b5 f r T).1 (rd_b5 f r T).2 B := hQ2
  replace ho := ho.trans ho2
  clear hQ2 ho2
  refine wX4_readBrackets_66 ?_
  refine wX4_readBrackets_67 ?_
  refine wX4_readBrackets_69 hQ.1 (bX4_isWord hG (i := 1) (by decide) hQ ?_)
  refine wX4_readBrackets_72 (fun c72 => ?_) (fun c72 => ?_)
  · refine wX4_readBrackets_84  ?_
    first
      | (have hb := q_b0 c72
         have e1 : rd_bf f (rd_b5 f r T).1 = (rd_b5 f r T).1 := by rw [rd_bf, if_neg (by rw [hb]; decide)]
         rw [e1] at hk
         exact hk _ hQ ho)
      | exact hk _ hQ ho
  · refine wX4_readBrackets_75 ?_
    refine wX4_readBrackets_76 ?_
    refine wX4_readBrackets_77 ?_
    refine wX4_readBrackets_78 hQ.1 ?_
    refine wX4_readBrackets_81 hQ.1 (bX4_fail hG hQ (r2 := rd_bf f (rd_b5 f r T).1) (by rw [rd_bf, if_pos (q_b1 c72)]) fun h2 hQ2 ho2 => ?_)
    replace hQ := hQ2
    replace ho := ho.trans ho2
    refine wX4_readBrackets_84  ?_
    first
      | (have hb := q_b0 c72
         have e1 : rd_bf f (rd_b5 f r T).1 = (rd_b5 f r T).1 := by rw [rd_bf, if_neg (by rw [hb]; decide)]
         rw [e1] at hk
         exact hk _ hQ ho)
      | exact hk _ hQ ho
theorem rd_c1_j {f : Nat → Int32} {r : q_Rd} {T : q_Te} {np : Nat} (hp1 : 1 ≤ np) (hp24 : np ≤ 24) (hp : te_p T = nI np) : ∃ j, j < 24 ∧ (rd_c1 f r T).1 = nI j := by
  have e : te_p T - 1 = nI (np - 1) := by rw [hp]; exact nI_sb (b := 1) hp1
  have hin := rd_nb_in (f := f) (r := rd_word f r 4) (lo := 0) (hi := te_p T - 1) (by rw [e]; exact nI_le (a := 0) (by omega) (by omega))
  refine q_of (N := 24) (n := 24) rfl (by decide) ?_ ?_
  · rw [Int32.not_lt]; exact hin.1
  · intro q
    have := Int32.le_trans q hin.2
    rw [e] at this
    exact nI_ge (b := 24) (show np - 1 < 24 by omega) (by decide) this
theorem mX4_readContract {a td N L e b : Nat} {f : Nat → Int32} {r : q_Rd} {T : q_Te} {B : q_Bk} {np : Nat} {P : q_H → Option Nat → Prop} (hG : rd_G a td e b N L) (hQ : rd_Q h a td N L f e b r T B) (hp1 : 1 ≤ np) (hp24 : np ≤ 24) (hp : te_p T = nI np) (hk : ∀ h', rd_Q h' a td N L f e b (rd_cr f r T B) T (rd_cB f r T B) → q_fr (rd_A a e b) h h' → P h' z) : QMv V iX4_readContract [.ref a, .ref e, .ref b] h z P Kx := by
  have ho : q_fr (rd_A a e b) h h := q_fr.refl
  obtain ⟨j, hj24, hjq⟩ : ∃ j, j < 24 ∧ (rd_c1 f r T).1 = nI j := rd_c1_j hp1 hp24 hp
  have hcp : rd_cp f r T = j := by unfold rd_cp; rw [hjq]; exact nI_clamp (by omega)
  have gg := hG
  obtain ⟨g1, g2, g3, g4, -⟩ := gg
  refine eX4_readContract ?_
  refine wX4_readContract_0 ?_
  refine wX4_readContract_1 ?_
  refine wX4_readContract_3 hQ.1 (bX4_takeWord hG (i := 4) (by decide) hQ (r2 := _) rfl fun h2 hQ2 ho2 => ?_)
  replace hQ := hQ2
  replace ho := ho.trans ho2
  refine wX4_readContract_6 ?_
  refine wX4_readContract_7 ?_
  refine wX4_readContract_8 ?_
  refine wX4_readContract_9 hQ.E.1 ?_
  refine wX4_readContract_12 ?_
  refine wX4_readContract_13 ?_
  refine wX4_readContract_14 hQ.1 (bX4_takeNumber hG hQ (y := rd_c1 f r T) rfl fun h2 hQ2 ho2 => ?_)
  replace hQ := hQ2
  replace ho := ho.trans ho2
  refine wX4_readContract_17 ?_
  refine wX4_readContract_18 ?_
  refine wX4_readContract_19 hQ.bk.1 ?_
  refine wX4_readContract_22 ?_
  refine wX4_readContract_23 (t := 4) rfl hQ.bk.2.1 hjq hj24 (by decide) (if_pos hj24) ?_
  refine wX4_readContract_24 (hQ.bk.P hj24).1 (mX3_hasContract (hQ.bk.P hj24) ?_)
  refine wX4_readContract_27 (fun c27 => ?_) (fun c27 => ?_)
  · first
      | (have hb := q_b0 c27
         have e1 : rd_c2 f r T B = (rd_c1 f r T).2 := by rw [rd_c2, hcp, if_neg (by rw [hb]; decide)]
         rw [← e1] at hQ)
      | skip
    refine wX4_readContract_39 ?_
    refine wX4_readContract_40 ?_
    refine wX4_readContract_41 ?_
    refine wX4_readContract_42 hQ.E.1 ?_
    refine wX4_readContract_45 ?_
    refine wX4_readContract_46 ?_
    refine wX4_readContract_47 hQ.1 (bX4_takeNumber hG hQ (y := rd_c3 f r T B) rfl fun h2 hQ2 ho2 => ?_)
    replace hQ := hQ2
    replace ho := ho.trans ho2
    refine wX4_readContract_50 ?_
    refine wX4_readContract_52 ?_
    refine wX4_readContract_53 ?_
    refine wX4_readContract_55 hQ.bk.1 (mX0_playersOf hQ.bk ?_)
    refine wX4_readContract_58 (mJ6_bitCount_0f7a4 ?_)
    refine wX4_readContract_61 ?_
    refine wX4_readContract_63 (fun c63 => ?_) (fun c63 => ?_)
    · first
        | (have e2 : rd_c4 f r T B = (rd_c3 f r T B).2 := by rw [rd_c4, if_pos c63]
           rw [← e2] at hQ)
        | skip
      refine wX4_readContract_75 ?_
      refine wX4_readContract_76 ?_
      refine wX4_readContract_77 ?_
      refine wX4_readContract_79 hQ.1 (bX4_takeNumber hG hQ (y := rd_c5 f r T B) rfl fun h2 hQ2 ho2 => ?_)
      replace hQ := hQ2
      replace ho := ho.trans ho2
      refine wX4_readContract_82 ?_
      refine wX4_readContract_84 ?_
      refine wX4_readContract_85 ?_
      refine wX4_readContract_86 ?_
      refine wX4_readContract_88 hQ.1 (bX4_takeNumber hG hQ (y := rd_c6 f r T B) rfl fun h2 hQ2 ho2 => ?_)
      replace hQ := hQ2
      replace ho := ho.trans ho2
      refine wX4_readContract_91 ?_
      refine wX4_readContract_93 ?_
      refine wX4_readContract_94 ?_
      refine wX4_readContract_95 ?_
      refine wX4_readContract_96 hQ.1 (bX4_takeNumber hG hQ (y := rd_c7 f r T B) rfl fun h2 hQ2 ho2 => ?_)
      replace hQ := hQ2
      replace ho := ho.trans ho2
      refine wX4_readContract_99 ?_
      refine wX4_readContract_101 ?_
      refine wX4_readContract_102 ?_
      refine wX4_readContract_103 ?_
      refine wX4_readContract_105 hQ.1 (bX4_takeNumber hG hQ (y := rd_c8 f r T B) rfl fun h2 hQ2 ho2 => ?_)
      replace hQ := hQ2
      replace ho := ho.trans ho2
      refine wX4_readContract_108 ?_
      refine wX4_readContract_110 ?_
      refine wX4_readContract_111 ?_
      refine wX4_readContract_112 ?_
      refine wX4_readContract_114 hQ.1 (bX4_takeNumber hG hQ (y := rd_c9 f r T B) rfl fun h2 hQ2 ho2 => ?_)
      replace hQ := hQ2
      replace ho := ho.trans ho2
      refine wX4_readContract_117 ?_
      refine wX4_readContract_119 ?_
      refine wX4_readContract_120 hQ.1 (bX4_takeSemicolon hG hQ (r2 := rd_ca f r T B) rfl fun h2 hQ2 ho2 => ?_)
      replace hQ := hQ2
      replace ho := ho.trans ho2
      refine wX4_readContract_123 ?_
      refine wX4_readContract_124 hQ.1 (mX4_failed hQ.1 ?_)
      refine wX4_readContract_127 (fun c127 => ?_) (fun c127 => ?_)
      · skip
        refine wX4_readContract_173  ?_
        first
          | (have e3 : rd_bad (rd_ca f r T B) = true := q_b1 c127
             rw [rd_cr, rd_cB, if_pos e3, if_pos e3] at hk
             exact hk _ hQ ho)
          | (have e3 := q_b0 c127
             rw [rd_cr, rd_cB, if_neg (by rw [e3]; decide), if_neg (by rw [e3]; decide), hcp] at hk
             obtain ⟨hQ2, ho2⟩ := hQ.sI hG
             exact hk _ hQ2 (ho.trans ho2))
      · obtain ⟨d, hd⟩ := hQ.2.1
        refine wX4_readContract_130 ?_
        refine wX4_readContract_131 hQ.1 ?_
        refine wX4_readContract_134 ?_
        refine wX4_readContract_136 ?_
        refine wX4_readContract_138 ?_
        refine wX4_readContract_140 ?_
        refine wX4_readContract_142 ?_
        refine wX4_readContract_144 hd (mX1_agree hd ?_)
        obtain ⟨hQ2, ho2⟩ := hQ.sd hG ((rd_c5 f r T B).1, (rd_c6 f r T B).1, (rd_c7 f r T B).1, (rd_c8 f r T B).1, (rd_c9 f r T B).1)
        have hd2 := q_up_s (h := h2) (a := a + 2) (e := dealE ((rd_c5 f r T B).1, (rd_c6 f r T B).1, (rd_c7 f r T B).1, (rd_c8 f r T B).1, (rd_c9 f r T B).1))
        replace ho := ho.trans ho2
        replace hQ := hQ2
        clear hQ2 ho2
        refine wX4_readContract_147 ?_
        refine wX4_readContract_148 hQ.bk.1 ?_
        refine wX4_readContract_151 ?_
        refine wX4_readContract_152 (t := 4) rfl hQ.bk.2.1 hjq hj24 (by decide) (if_pos hj24) ?_
        refine wX4_readContract_153 ?_
        refine wX4_readContract_155 ?_
        refine wX4_readContract_156 ?_
        refine wX4_readContract_157 hQ.1 ?_
        refine wX4_readContract_160 (hQ.bk.P hj24).1 (mX3_begin (by omega) (hQ.bk.P hj24) hd2 fun h2 hP2 ho2 => ?_)
        obtain ⟨hQ2, ho3⟩ := hQ.sB hG (hQ.bk.sP hj24 hP2 ho2) (ho2.in (by omega) (by omega))
        replace ho := ho.trans ho3
        replace hQ := hQ2
        clear hQ2 ho3 ho2
        refine wX4_readContract_163 ?_
        refine wX4_readContract_164 ?_
        refine wX4_readContract_165 hQ.1 ?_
        refine wX4_readContract_168 ?_
        refine wX4_readContract_169 ?_
        refine wX4_readContract_170 hQ.1 ?_
        skip
        refine wX4_readContract_173  ?_
        first
          | (have e3 : rd_bad (rd_ca f r T B) = true := q_b1 c127
             rw [rd_cr, rd_cB, if_pos e3, if_pos e3] at hk
             exact hk _ hQ ho)
          | (have e3 := q_b0 c127
             rw [rd_cr, rd_cB, if_neg (by rw [e3]; decide), if_neg (by rw [e3]; decide), hcp] at hk
             obtain ⟨hQ2, ho2⟩ := hQ.sI hG
             exact hk _ hQ2 (ho.trans ho2))
    · refine wX4_readContract_66 ?_
      refine wX4_readContract_67 ?_
      refine wX4_readContract_68 ?_
      refine wX4_readContract_69 hQ.1 ?_
      refine wX4_readContract_72 hQ.1 (bX4_fail hG hQ (r2 := rd_c4 f r T B) (by rw [rd_c4, if_neg c63]) fun h2 hQ2 ho2 => ?_)
      replace hQ := hQ2
      replace ho := ho.trans ho2
      first
        | (have e2 : rd_c4 f r T B = (rd_c3 f r T B).2 := by rw [rd_c4, if_pos c63]
           rw [← e2] at hQ)
        | skip
      refine wX4_readContract_75 ?_
      refine wX4_readContract_76 ?_
      refine wX4_readContract_77 ?_
      refine wX4_readContract_79 hQ.1 (bX4_takeNumber hG hQ (y := rd_c5 f r T B) rfl fun h2 hQ2 ho2 => ?_)
      replace hQ := hQ2
      replace ho := ho.trans ho2
      refine wX4_readContract_82 ?_
      refine wX4_readContract_84 ?_
      refine wX4_readContract_85 ?_
      refine wX4_readContract_86 ?_
      refine wX4_readContract_88 hQ.1 (bX4_takeNumber hG hQ (y := rd_c6 f r T B) rfl fun h2 hQ2 ho2 => ?_)
      replace hQ := hQ2
      replace ho := ho.trans ho2
      refine wX4_readContract_91 ?_
      refine wX4_readContract_93 ?_
      refine wX4_readContract_94 ?_
      refine wX4_readContract_95 ?_
      refine wX4_readContract_96 hQ.1 (bX4_takeNumber hG hQ (y := rd_c7 f r T B) rfl fun h2 hQ2 ho2 => ?_)
      replace hQ := hQ2
      replace ho := ho.trans ho2
      refine wX4_readContract_99 ?_
      refine wX4_readContract_101 ?_
      refine wX4_readContract_102 ?_
      refine wX4_readContract_103 ?_
      refine wX4_readContract_105 hQ.1 (bX4_takeNumber hG hQ (y := rd_c8 f r T B) rfl fun h2 hQ2 ho2 => ?_)
      replace hQ := hQ2
      replace ho := ho.trans ho2
      refine wX4_readContract_108 ?_
      refine wX4_readContract_110 ?_
      refine wX4_readContract_111 ?_
      refine wX4_readContract_112 ?_
      refine wX4_readContract_114 hQ.1 (bX4_takeNumber hG hQ (y := rd_c9 f r T B) rfl fun h2 hQ2 ho2 => ?_)
      replace hQ := hQ2
      replace ho := ho.trans ho2
      refine wX4_readContract_117 ?_
      refine wX4_readContract_119 ?_
      refine wX4_readContract_120 hQ.1 (bX4_takeSemicolon hG hQ (r2 := rd_ca f r T B) rfl fun h2 hQ2 ho2 => ?_)
      replace hQ := hQ2
      replace ho := ho.trans ho2
      refine wX4_readContract_123 ?_
      refine wX4_readContract_124 hQ.1 (mX4_failed hQ.1 ?_)
      refine wX4_readContract_127 (fun c127 => ?_) (fun c127 => ?_)
      · skip
        refine wX4_readContract_173  ?_
        first
          | (have e3 : rd_bad (rd_ca f r T B) = true := q_b1 c127
             rw [rd_cr, rd_cB, if_pos e3, if_pos e3] at hk
             exact hk _ hQ ho)
          | (have e3 := q_b0 c127
             rw [rd_cr, rd_cB, if_neg (by rw [e3]; decide), if_neg (by rw [e3]; decide), hcp] at hk
             obtain ⟨hQ2, ho2⟩ := hQ.sI hG
             exact hk _ hQ2 (ho.trans ho2))
      · obtain ⟨d, hd⟩ := hQ.2.1
        refine wX4_readContract_130 ?_
        refine wX4_readContract_131 hQ.1 ?_
        refine wX4_readContract_134 ?_
        refine wX4_readContract_136 ?_
        refine wX4_readContract_138 ?_
        refine wX4_readContract_140 ?_
        refine wX4_readContract_142 ?_
        refine wX4_readContract_144 hd (mX1_agree hd ?_)
        obtain ⟨hQ2, ho2⟩ := hQ.sd hG ((rd_c5 f r T B).1, (rd_c6 f r T B).1, (rd_c7 f r T B).1, (rd_c8 f r T B).1, (rd_c9 f r T B).1)
        have hd2 := q_up_s (h := h2) (a := a + 2) (e := dealE ((rd_c5 f r T B).1, (rd_c6 f r T B).1, (rd_c7 f r T B).1, (rd_c8 f r T B).1, (rd_c9 f r T B).1))
        replace ho := ho.trans ho2
        replace hQ := hQ2
        clear hQ2 ho2
        refine wX4_readContract_147 ?_
        refine wX4_readContract_148 hQ.bk.1 ?_
        refine wX4_readContract_151 ?_
        refine wX4_readContract_152 (t := 4) rfl hQ.bk.2.1 hjq hj24 (by decide) (if_pos hj24) ?_
        refine wX4_readContract_153 ?_
        refine wX4_readContract_155 ?_
        refine wX4_readContract_156 ?_
        refine wX4_readContract_157 hQ.1 ?_
        refine wX4_readContract_160 (hQ.bk.P hj24).1 (mX3_begin (by omega) (hQ.bk.P hj24) hd2 fun h2 hP2 ho2 => ?_)
        obtain ⟨hQ2, ho3⟩ := hQ.sB hG (hQ.bk.sP hj24 hP2 ho2) (ho2.in (by omega) (by omega))
        replace ho := ho.trans ho3
        replace hQ := hQ2
        clear hQ2 ho3 ho2
        refine wX4_readContract_163 ?_
        refine wX4_readContract_164 ?_
        refine wX4_readContract_165 hQ.1 ?_
        refine wX4_readContract_168 ?_
        refine wX4_readContract_169 ?_
        refine wX4_readContract_170 hQ.1 ?_
        skip
        refine wX4_readContract_173  ?_
        first
          | (have e3 : rd_bad (rd_ca f r T B) = true := q_b1 c127
             rw [rd_cr, rd_cB, if_pos e3, if_pos e3] at hk
             exact hk _ hQ ho)
          | (have e3 := q_b0 c127
             rw [rd_cr, rd_cB, if_neg (by rw [e3]; decide), if_neg (by rw [e3]; decide), hcp] at hk
             obtain ⟨hQ2, ho2⟩ := hQ.sI hG
             exact hk _ hQ2 (ho.trans ho2))
  · refine wX4_readContract_30 ?_
    refine wX4_readContract_31 ?_
    refine wX4_readContract_32 ?_
    refine wX4_readContract_33 hQ.1 ?_
    refine wX4_readContract_36 hQ.1 (bX4_fail hG hQ (r2 := rd_c2 f r T B) (by rw [rd_c2, hcp, if_pos (q_b1 c27)]) fun h2 hQ2 ho2 => ?_)
    replace hQ := hQ2
    replace ho := ho.trans ho2
    first
      | (have hb := q_b0 c27
         have e1 : rd_c2 f r T B = (rd_c1 f r T).2 := by rw [rd_c2, hcp, if_neg (by rw [hb]; decide)]
         rw [← e1] at hQ)
      | skip
    refine wX4_readContract_39 ?_
    refine wX4_readContract_40 ?_
    refine wX4_readContract_41 ?_
    refine wX4_readContract_42 hQ.E.1 ?_
    refine wX4_readContract_45 ?_
    refine wX4_readContract_46 ?_
    refine wX4_readContract_47 hQ.1 (bX4_takeNumber hG hQ (y := rd_c3 f r T B) rfl fun h2 hQ2 ho2 => ?_)
    replace hQ := hQ2
    replace ho := ho.trans ho2
    refine wX4_readContract_50 ?_
    refine wX4_readContract_52 ?_
    refine wX4_readContract_53 ?_
    refine wX4_readContract_55 hQ.bk.1 (mX0_playersOf hQ.bk ?_)
    refine wX4_readContract_58 (mJ6_bitCount_0f7a4 ?_)
    refine wX4_readContract_61 ?_
    refine wX4_readContract_63 (fun c63 => ?_) (fun c63 => ?_)
    · first
        | (have e2 : rd_c4 f r T B = (rd_c3 f r T B).2 := by rw [rd_c4, if_pos c63]
           rw [← e2] at hQ)
        | skip
      refine wX4_readContract_75 ?_
      refine wX4_readContract_76 ?_
      refine wX4_readContract_77 ?_
      refine wX4_readContract_79 hQ.1 (bX4_takeNumber hG hQ (y := rd_c5 f r T B) rfl fun h2 hQ2 ho2 => ?_)
      replace hQ := hQ2
      replace ho := ho.trans ho2
      refine wX4_readContract_82 ?_
      refine wX4_readContract_84 ?_
      refine wX4_readContract_85 ?_
      refine wX4_readContract_86 ?_
      refine wX4_readContract_88 hQ.1 (bX4_takeNumber hG hQ (y := rd_c6 f r T B) rfl fun h2 hQ2 ho2 => ?_)
      replace hQ := hQ2
      replace ho := ho.trans ho2
      refine wX4_readContract_91 ?_
      refine wX4_readContract_93 ?_
      refine wX4_readContract_94 ?_
      refine wX4_readContract_95 ?_
      refine wX4_readContract_96 hQ.1 (bX4_takeNumber hG hQ (y := rd_c7 f r T B) rfl fun h2 hQ2 ho2 => ?_)
      replace hQ := hQ2
      replace ho := ho.trans ho2
      refine wX4_readContract_99 ?_
      refine wX4_readContract_101 ?_
      refine wX4_readContract_102 ?_
      refine wX4_readContract_103 ?_
      refine wX4_readContract_105 hQ.1 (bX4_takeNumber hG hQ (y := rd_c8 f r T B) rfl fun h2 hQ2 ho2 => ?_)
      replace hQ := hQ2
      replace ho := ho.trans ho2
      refine wX4_readContract_108 ?_
      refine wX4_readContract_110 ?_
      refine wX4_readContract_111 ?_
      refine wX4_readContract_112 ?_
      refine wX4_readContract_114 hQ.1 (bX4_takeNumber hG hQ (y := rd_c9 f r T B) rfl fun h2 hQ2 ho2 => ?_)
      replace hQ := hQ2
      replace ho := ho.trans ho2
      refine wX4_readContract_117 ?_
      refine wX4_readContract_119 ?_
      refine wX4_readContract_120 hQ.1 (bX4_takeSemicolon hG hQ (r2 := rd_ca f r T B) rfl fun h2 hQ2 ho2 => ?_)
      replace hQ := hQ2
      replace ho := ho.trans ho2
      refine wX4_readContract_123 ?_
      refine wX4_readContract_124 hQ.1 (mX4_failed hQ.1 ?_)
      refine wX4_readContract_127 (fun c127 => ?_) (fun c127 => ?_)
      · skip
        refine wX4_readContract_173  ?_
        first
          | (have e3 : rd_bad (rd_ca f r T B) = true := q_b1 c127
             rw [rd_cr, rd_cB, if_pos e3, if_pos e3] at hk
             exact hk _ hQ ho)
          | (have e3 := q_b0 c127
             rw [rd_cr, rd_cB, if_neg (by rw [e3]; decide), if_neg (by rw [e3]; decide), hcp] at hk
             obtain ⟨hQ2, ho2⟩ := hQ.sI hG
             exact hk _ hQ2 (ho.trans ho2))
      · obtain ⟨d, hd⟩ := hQ.2.1
        refine wX4_readContract_130 ?_
        refine wX4_readContract_131 hQ.1 ?_
        refine wX4_readContract_134 ?_
        refine wX4_readContract_136 ?_
        refine wX4_readContract_138 ?_
        refine wX4_readContract_140 ?_
        refine wX4_readContract_142 ?_
        refine wX4_readContract_144 hd (mX1_agree hd ?_)
        obtain ⟨hQ2, ho2⟩ := hQ.sd hG ((rd_c5 f r T B).1, (rd_c6 f r T B).1, (rd_c7 f r T B).1, (rd_c8 f r T B).1, (rd_c9 f r T B).1)
        have hd2 := q_up_s (h := h2) (a := a + 2) (e := dealE ((rd_c5 f r T B).1, (rd_c6 f r T B).1, (rd_c7 f r T B).1, (rd_c8 f r T B).1, (rd_c9 f r T B).1))
        replace ho := ho.trans ho2
        replace hQ := hQ2
        clear hQ2 ho2
        refine wX4_readContract_147 ?_
        refine wX4_readContract_148 hQ.bk.1 ?_
        refine wX4_readContract_151 ?_
        refine wX4_readContract_152 (t := 4) rfl hQ.bk.2.1 hjq hj24 (by decide) (if_pos hj24) ?_
        refine wX4_readContract_153 ?_
        refine wX4_readContract_155 ?_
        refine wX4_readContract_156 ?_
        refine wX4_readContract_157 hQ.1 ?_
        refine wX4_readContract_160 (hQ.bk.P hj24).1 (mX3_begin (by omega) (hQ.bk.P hj24) hd2 fun h2 hP2 ho2 => ?_)
        obtain ⟨hQ2, ho3⟩ := hQ.sB hG (hQ.bk.sP hj24 hP2 ho2) (ho2.in (by omega) (by omega))
        replace ho := ho.trans ho3
        replace hQ := hQ2
        clear hQ2 ho3 ho2
        refine wX4_readContract_163 ?_
        refine wX4_readContract_164 ?_
        refine wX4_readContract_165 hQ.1 ?_
        refine wX4_readContract_168 ?_
        refine wX4_readContract_169 ?_
        refine wX4_readContract_170 hQ.1 ?_
        skip
        refine wX4_readContract_173  ?_
        first
          | (have e3 : rd_bad (rd_ca f r T B) = true := q_b1 c127
             rw [rd_cr, rd_cB, if_pos e3, if_pos e3] at hk
             exact hk _ hQ ho)
          | (have e3 := q_b0 c127
             rw [rd_cr, rd_cB, if_neg (by rw [e3]; decide), if_neg (by rw [e3]; decide), hcp] at hk
             obtain ⟨hQ2, ho2⟩ := hQ.sI hG
             exact hk _ hQ2 (ho.trans ho2))
    · refine wX4_readContract_66 ?_
      refine wX4_readContract_67 ?_
      refine wX4_readContract_68 ?_
      refine wX4_readContract_69 hQ.1 ?_
      refine wX4_readContract_72 hQ.1 (bX4_fail hG hQ (r2 := rd_c4 f r T B) (by rw [rd_c4, if_neg c63]) fun h2 hQ2 ho2 => ?_)
      replace hQ := hQ2
      replace ho := ho.trans ho2
      first
        | (have e2 : rd_c4 f r T B = (rd_c3 f r T B).2 := by rw [rd_c4, if_pos c63]
           rw [← e2] at hQ)
        | skip
      refine wX4_readContract_75 ?_
      refine wX4_readContract_76 ?_
      refine wX4_readContract_77 ?_
      refine wX4_readContract_79 hQ.1 (bX4_takeNumber hG hQ (y := rd_c5 f r T B) rfl fun h2 hQ2 ho2 => ?_)
      replace hQ := hQ2
      replace ho := ho.trans ho2
      refine wX4_readContract_82 ?_
      refine wX4_readContract_84 ?_
      refine wX4_readContract_85 ?_
      refine wX4_readContract_86 ?_
      refine wX4_readContract_88 hQ.1 (bX4_takeNumber hG hQ (y := rd_c6 f r T B) rfl fun h2 hQ2 ho2 => ?_)
      replace hQ := hQ2
      replace ho := ho.trans ho2
      refine wX4_readContract_91 ?_
      refine wX4_readContract_93 ?_
      refine wX4_readContract_94 ?_
      refine wX4_readContract_95 ?_
      refine wX4_readContract_96 hQ.1 (bX4_takeNumber hG hQ (y := rd_c7 f r T B) rfl fun h2 hQ2 ho2 => ?_)
      replace hQ := hQ2
      replace ho := ho.trans ho2
      refine wX4_readContract_99 ?_
      refine wX4_readContract_101 ?_
      refine wX4_readContract_102 ?_
      refine wX4_readContract_103 ?_
      refine wX4_readContract_105 hQ.1 (bX4_takeNumber hG hQ (y := rd_c8 f r T B) rfl fun h2 hQ2 ho2 => ?_)
      replace hQ := hQ2
      replace ho := ho.trans ho2
      refine wX4_readContract_108 ?_
      refine wX4_readContract_110 ?_
      refine wX4_readContract_111 ?_
      refine wX4_readContract_112 ?_
      refine wX4_readContract_114 hQ.1 (bX4_takeNumber hG hQ (y := rd_c9 f r T B) rfl fun h2 hQ2 ho2 => ?_)
      replace hQ := hQ2
      replace ho := ho.trans ho2
      refine wX4_readContract_117 ?_
      refine wX4_readContract_119 ?_
      refine wX4_readContract_120 hQ.1 (bX4_takeSemicolon hG hQ (r2 := rd_ca f r T B) rfl fun h2 hQ2 ho2 => ?_)
      replace hQ := hQ2
      replace ho := ho.trans ho2
      refine wX4_readContract_123 ?_
      refine wX4_readContract_124 hQ.1 (mX4_failed hQ.1 ?_)
      refine wX4_readContract_127 (fun c127 => ?_) (fun c127 => ?_)
      · skip
        refine wX4_readContract_173  ?_
        first
          | (have e3 : rd_bad (rd_ca f r T B) = true := q_b1 c127
             rw [rd_cr, rd_cB, if_pos e3, if_pos e3] at hk
             exact hk _ hQ ho)
          | (have e3 := q_b0 c127
             rw [rd_cr, rd_cB, if_neg (by rw [e3]; decide), if_neg (by rw [e3]; decide), hcp] at hk
             obtain ⟨hQ2, ho2⟩ := hQ.sI hG
             exact hk _ hQ2 (ho.trans ho2))
      · obtain ⟨d, hd⟩ := hQ.2.1
        refine wX4_readContract_130 ?_
        refine wX4_readContract_131 hQ.1 ?_
        refine wX4_readContract_134 ?_
        refine wX4_readContract_136 ?_
        refine wX4_readContract_138 ?_
        refine wX4_readContract_140 ?_
        refine wX4_readContract_142 ?_
        refine wX4_readContract_144 hd (mX1_agree hd ?_)
        obtain ⟨hQ2, ho2⟩ := hQ.sd hG ((rd_c5 f r T B).1, (rd_c6 f r T B).1, (rd_c7 f r T B).1, (rd_c8 f r T B).1, (rd_c9 f r T B).1)
        have hd2 := q_up_s (h := h2) (a := a + 2) (e := dealE ((rd_c5 f r T B).1, (rd_c6 f r T B).1, (rd_c7 f r T B).1, (rd_c8 f r T B).1, (rd_c9 f r T B).1))
        replace ho := ho.trans ho2
        replace hQ := hQ2
        clear hQ2 ho2
        refine wX4_readContract_147 ?_
        refine wX4_readContract_148 hQ.bk.1 ?_
        refine wX4_readContract_151 ?_
        refine wX4_readContract_152 (t := 4) rfl hQ.bk.2.1 hjq hj24 (by decide) (if_pos hj24) ?_
        refine wX4_readContract_153 ?_
        refine wX4_readContract_155 ?_
        refine wX4_readContract_156 ?_
        refine wX4_readContract_157 hQ.1 ?_
        refine wX4_readContract_160 (hQ.bk.P hj24).1 (mX3_begin (by omega) (hQ.bk.P hj24) hd2 fun h2 hP2 ho2 => ?_)
        obtain ⟨hQ2, ho3⟩ := hQ.sB hG (hQ.bk.sP hj24 hP2 ho2) (ho2.in (by omega) (by omega))
        replace ho := ho.trans ho3
        replace hQ := hQ2
        clear hQ2 ho3 ho2
        refine wX4_readContract_163 ?_
        refine wX4_readContract_164 ?_
        refine wX4_readContract_165 hQ.1 ?_
        refine wX4_readContract_168 ?_
        refine wX4_readContract_169 ?_
        refine wX4_readContract_170 hQ.1 ?_
        skip
        refine wX4_readContract_173  ?_
        first
          | (have e3 : rd_bad (rd_ca f r T B) = true := q_b1 c127
             rw [rd_cr, rd_cB, if_pos e3, if_pos e3] at hk
             exact hk _ hQ ho)
          | (have e3 := q_b0 c127
             rw [rd_cr, rd_cB, if_neg (by rw [e3]; decide), if_neg (by rw [e3]; decide), hcp] at hk
             obtain ⟨hQ2, ho2⟩ := hQ.sI hG
             exact hk _ hQ2 (ho.trans ho2))
theorem mX4_ct_lp {a td N L e b np : Nat} {f : Nat → Int32} {T : q_Te} {Kr : q_KR} (hG : rd_G a td e b N L) (hp1 : 1 ≤ np) (hp24 : np ≤ 24) (hp : te_p T = nI np) : ∀ n k (hh : q_H) (r : q_Rd) (B : q_Bk), k + n = L + 1 → rd_Q hh a td N L f e b r T B → (∀ h3, rd_Q h3 a td N L f e b (rd_cl f T n r B).1 T (rd_cl f T n r B).2 → q_fr (rd_A a e b) hh h3 → QW V iX4_readText 134 [some (.ref a), some (.ref td), some (.int (nI L)), some (.ref e), some (.ref b), none] [] h3 z 0 0 Kr Kx) → QW V iX4_readText 98 [some (.ref a), some (.ref td), some (.int (nI L)), some (.ref e), some (.ref b), some (.int (nI k))] [] hh z 0 0 Kr Kx := by
  intro n
  induction n with
  | zero =>
    intro k hh r B hkn hQ kk
    have hl := hQ.2.2.2.2.2.2
    have h5 := hG.2.2.2.1
    have h6 := hG.2.2.2.2.2
    refine wX4_readText_98 ?_
    refine wX4_readText_100 ?_
    refine wX4_readText_101 hQ.1 ?_
    refine wX4_readText_104 (fun c104 => ?_) (fun c104 => absurd (by rw [hl, ← Int32.not_le]; exact nI_ge (by omega) (by omega)) c104)
    exact q_drp 5 (kk hh hQ q_fr.refl)
  | succ n ih =>
    intro k hh r B hkn hQ kk
    have ho : q_fr (rd_A a e b) hh hh := q_fr.refl
    have hl := hQ.2.2.2.2.2.2
    have h5 := hG.2.2.2.1
    have h6 := hG.2.2.2.2.2
    refine wX4_readText_98 ?_
    refine wX4_readText_100 ?_
    refine wX4_readText_101 hQ.1 ?_
    refine wX4_readText_104 (fun c104 => absurd c104 (by rw [hl, Int32.not_lt]; exact nI_le (by omega) (by omega))) (fun c104 => ?_)
    refine wX4_readText_107 ?_
    refine wX4_readText_108 hQ.1 (mX4_failed hQ.1 ?_)
    refine wX4_readText_111 (fun c111 => ?_) (fun c111 => ?_)
    · first
        | (rw [rd_cl, if_pos (Or.inl (q_b1 c111))] at kk; exact q_drp 5 (kk _ hQ ho))
        | (rw [rd_cl, if_pos (Or.inr c118)] at kk; exact q_drp 5 (kk _ hQ ho))
    · refine wX4_readText_114 ?_
      refine wX4_readText_115 hQ.1 ?_
      refine wX4_readText_118 (fun c118 => ?_) (fun c118 => ?_)
      · first
          | (rw [rd_cl, if_pos (Or.inl (q_b1 c111))] at kk; exact q_drp 5 (kk _ hQ ho))
          | (rw [rd_cl, if_pos (Or.inr c118)] at kk; exact q_drp 5 (kk _ hQ ho))
      · refine wX4_readText_121 ?_
        refine wX4_readText_122 ?_
        refine wX4_readText_123 ?_
        refine wX4_readText_125 hQ.1 (mX4_readContract hG hQ hp1 hp24 hp fun h2 hQ2 ho2 => ?_)
        replace hQ := hQ2
        replace ho := ho.trans ho2
        refine wX4_readText_128 ?_
        refine wX4_readText_131 ?_
        rw [rd_cl, if_neg (fun q => q.elim (fun q => by rw [q_b0 c111] at q; cases q) c118)] at kk
        exact q_ls (by rw [nI_1]) (ih (k + 1) _ _ _ (by omega) hQ fun h3 hQ3 ho3 => kk h3 hQ3 (ho.trans ho3))
theorem te_sP_p (T : q_Te) (x : Int32) : te_p (te_sP T x) = x := rfl
theorem rd_t4_j {f : Nat → Int32} {L : Nat} {r : q_Rd} {T : q_Te} : ∃ np, 1 ≤ np ∧ np ≤ 24 ∧ te_p (rd_tT f L r T) = nI np := by
  have hin : 1 ≤ (rd_t4 f L r T).1 ∧ (rd_t4 f L r T).1 ≤ 24 := rd_nb_in (by decide)
  have e : te_p (rd_tT f L r T) = (rd_t4 f L r T).1 := by rw [rd_tT, te_sP_p]
  rw [e]
  generalize (rd_t4 f L r T).1 = x at *
  obtain ⟨j, hj, hx⟩ := q_of (N := 25) (n := 25) rfl (by decide) (x := x) (by rw [Int32.not_lt]; exact Int32.le_trans (by decide) hin.1) (fun q => absurd (Int32.le_trans q hin.2) (by decide))
  subst hx
  refine ⟨j, ?_, by omega, rfl⟩
  by_cases q : j = 0
  · subst q; exact absurd hin.1 (by decide)
  · omega
theorem mX4_readText {a td0 td N L e b : Nat} {f : Nat → Int32} {r : q_Rd} {T : q_Te} {B : q_Bk} {P : q_H → Option Nat → Prop} (hG : rd_G a td e b N L) (hr : h a = some (readE a td0 r)) (hd : ∃ d, h (a + 2) = some (dealE d)) (hY : isY h td N f) (hE : isE h e T) (hB : isB h b B) (hk : ∀ h', rd_Q h' a td N L f e b (rd_tR f L r T B) (rd_tT f L r T) (rd_tB f L r T B) → q_fr (rd_A a e b) h h' → P h' z) : QMv V iX4_readText [.ref a, .ref td, .int (nI L), .ref e, .ref b] h z P Kx := by
  obtain ⟨g1, g2, g3, g4, g5, g6⟩ := id hG
  obtain ⟨d, hd⟩ := hd
  obtain ⟨g, hg, eg⟩ := id hY
  refine eX4_readText ?_
  refine wX4_readText_0 ?_
  refine wX4_readText_1 ?_
  refine wX4_readText_2 hr ?_
  refine wX4_readText_5 ?_
  refine wX4_readText_6 ?_
  refine wX4_readText_7 ?_
  refine wX4_readText_8 (by rw [q_up_n (by omega)]; exact hg) ?_
  refine wX4_readText_9 ?_
  rw [if_neg (by rw [Int32.not_lt]; exact nI_le (by omega) (by omega))]
  refine wX4_readText_12u ?_
  refine wX4_readText_15 ?_
  refine wX4_readText_16 ?_
  refine wX4_readText_17u ?_
  refine wX4_readText_20 ?_
  refine wX4_readText_21 ?_
  refine wX4_readText_22u ?_
  refine wX4_readText_25 ?_
  refine wX4_readText_26 ?_
  refine wX4_readText_27u ?_
  refine wX4_readText_30 ?_
  refine wX4_readText_31 ?_
  refine wX4_readText_32u ?_
  have hB1 : isB (q_up h a (readE a td (0, -1, 0, L, 0, r.kd, r.st, r.vl, r.na))) b B := hB.o (q_out.up (a := a) (n := 1) (by omega) (by omega)) (by omega)
  show QW V iX4_readText 35 _ _ (q_up h a (readE a td (0, -1, 0, L, 0, r.kd, r.st, r.vl, r.na))) _ _ _ _ _
  refine wX4_readText_35 ?_
  refine wX4_readText_37 hB1.1 (mX0_clear hB1 fun h1 hB2 ho1 => ?_)
  refine wX4_readText_40 ?_
  refine wX4_readText_41 (by rw [ho1 a (by omega)]; exact q_up_s) (mX4_findToken (td := td) (N := N) (f := f) (r := (0, -1, 0, L, 0, r.kd, r.st, r.vl, r.na)) (by rw [ho1 a (by omega)]; exact q_up_s) ((hY.n (by omega)).o ho1 (by omega)) (by omega) g4 (Nat.zero_le _) g5 ?_)
  have hoo : q_out a 1 h1 (q_up h1 a (readE a td (rd_t0 f L r))) := q_out.up (by omega) (by omega)
  have hok := rd_tok_ok (f := f) (r := (0, -1, 0, L, 0, r.kd, r.st, r.vl, r.na)) (Nat.zero_le _)
  have hQ : rd_Q (q_up h1 a (readE a td (rd_t0 f L r))) a td N L f e b (rd_t0 f L r) T (b_clr B) := ⟨q_up_s, ⟨d, by rw [q_up_n (by omega), ho1 _ (by omega), q_up_n (by omega)]; exact hd⟩, ((hY.n (by omega)).o ho1 (by omega)).n (by omega), ((hE.o (q_out.up (a := a) (n := 1) (by omega) (by omega)) (by omega)).o ho1 (by omega)).o hoo (by omega), hB2.o hoo (by omega), hok.1, hok.2⟩
  have ho : q_fr (rd_A a e b) h (q_up h1 a (readE a td (rd_t0 f L r))) := fun q hq => by
    unfold rd_A at hq
    rw [q_up_n (by omega), ho1 _ (by omega), q_up_n (by omega)]
  show QW V iX4_readText 44 _ _ (q_up h1 a (readE a td (rd_t0 f L r))) _ _ _ _ _
  generalize q_up h1 a (readE a td (rd_t0 f L r)) = h4 at *
  refine wX4_readText_44 ?_
  refine wX4_readText_45 ?_
  refine wX4_readText_46 hQ.1 (mX4_readLeague hG hQ fun h2 hQ2 ho2 => ?_)
  replace hQ : rd_Q h2 a td N L f e b (rd_t1 f L r) (rd_T1 f L r T) (b_clr B) := hQ2
  replace ho := ho.trans ho2
  clear hQ2 ho2
  refine wX4_readText_49 ?_
  refine wX4_readText_50 ?_
  refine wX4_readText_51 hQ.1 (mX4_readBrackets hG hQ fun h2 hQ2 ho2 => ?_)
  replace hQ : rd_Q h2 a td N L f e b (rd_t2r f L r T) (rd_t2 f L r T).2 (b_clr B) := hQ2
  replace ho := ho.trans ho2
  clear hQ2 ho2
  refine wX4_readText_54 ?_
  refine wX4_readText_55 ?_
  refine wX4_readText_57 hQ.1 (bX4_takeWord hG (i := 2) (by decide) hQ (r2 := _) rfl fun h2 hQ2 ho2 => ?_)
  replace hQ := hQ2
  replace ho := ho.trans ho2
  refine wX4_readText_60 ?_
  refine wX4_readText_61 ?_
  refine wX4_readText_62 ?_
  refine wX4_readText_63 ?_
  refine wX4_readText_64 hQ.1 (bX4_takeNumber hG hQ (y := rd_t3 f L r T) rfl fun h2 hQ2 ho2 => ?_)
  replace hQ := hQ2
  replace ho := ho.trans ho2
  refine wX4_readText_67 hQ.E.1 ?_
  obtain ⟨hQ2, ho2⟩ := hQ.sT hG ((rd_t3 f L r T).1)
  replace ho := ho.trans ho2
  replace hQ := hQ2
  clear hQ2 ho2
  refine wX4_readText_70 ?_
  refine wX4_readText_71 hQ.1 (bX4_takeSemicolon hG hQ (r2 := _) rfl fun h2 hQ2 ho2 => ?_)
  replace hQ := hQ2
  replace ho := ho.trans ho2
  refine wX4_readText_74 ?_
  refine wX4_readText_75 ?_
  refine wX4_readText_77 hQ.1 (bX4_takeWord hG (i := 3) (by decide) hQ (r2 := _) rfl fun h2 hQ2 ho2 => ?_)
  replace hQ := hQ2
  replace ho := ho.trans ho2
  refine wX4_readText_80 ?_
  refine wX4_readText_81 ?_
  refine wX4_readText_82 ?_
  refine wX4_readText_83 ?_
  refine wX4_readText_85 hQ.1 (bX4_takeNumber hG hQ (y := rd_t4 f L r T) rfl fun h2 hQ2 ho2 => ?_)
  replace hQ := hQ2
  replace ho := ho.trans ho2
  refine wX4_readText_88 hQ.E.1 ?_
  obtain ⟨hQ2, ho2⟩ := hQ.sP hG ((rd_t4 f L r T).1)
  replace ho := ho.trans ho2
  replace hQ := hQ2
  clear hQ2 ho2
  refine wX4_readText_91 ?_
  refine wX4_readText_92 hQ.1 (bX4_takeSemicolon hG hQ (r2 := rd_t5 f L r T) rfl fun h2 hQ2 ho2 => ?_)
  replace hQ := hQ2
  replace ho := ho.trans ho2
  refine wX4_readText_95 ?_
  refine wX4_readText_96 ?_
  obtain ⟨np, hp1, hp24, hp⟩ : ∃ np, 1 ≤ np ∧ np ≤ 24 ∧ te_p (rd_tT f L r T) = nI np := rd_t4_j
  replace hQ : rd_Q _ a td N L f e b (rd_t5 f L r T) (rd_tT f L r T) (b_clr B) := hQ
  refine mX4_ct_lp hG hp1 hp24 hp (L + 1) 0 _ _ _ (by omega) hQ fun h2 hQ2 ho2 => ?_
  replace hQ : rd_Q h2 a td N L f e b (rd_tR f L r T B) (rd_tT f L r T) (rd_cl f (rd_tT f L r T) (L + 1) (rd_t5 f L r T) (b_clr B)).2 := hQ2
  replace ho := ho.trans ho2
  clear hQ2 ho2
  refine wX4_readText_134 ?_
  refine wX4_readText_136 ?_
  refine wX4_readText_137 hQ.E.1 ?_
  refine wX4_readText_140 hQ.bk.1 (mX0_refillMidLevel hQ.bk fun h2 hB2 ho2 => ?_)
  obtain ⟨hQ2, ho3⟩ := hQ.sB hG hB2 ho2
  replace ho := ho.trans ho3
  replace hQ : rd_Q h2 a td N L f e b (rd_tR f L r T B) (rd_tT f L r T) (rd_tB f L r T B) := hQ2
  refine wX4_readText_143  ?_
  exact hk _ hQ ho
end CX4b
