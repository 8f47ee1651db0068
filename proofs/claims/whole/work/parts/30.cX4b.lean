/-! SalaryCapLedger$Reader: the text -/
section CX4b
variable {V : q_En} {h : q_H} {z : Option Nat} {Kx : q_KX}
/-- nothing else changes -/
def q_fr (A : Nat → Prop) (h h' : q_H) : Prop := ∀ q, ¬ A q → h' q = h q
theorem q_fr.trans {A : Nat → Prop} {h h1 h2 : q_H} (x : q_fr A h h1) (y : q_fr A h1 h2) : q_fr A h h2 := fun q hq => (y q hq).trans (x q hq)
theorem q_fr.refl {A : Nat → Prop} : q_fr A h h := fun _ _ => rfl
def rd_inc (r : q_Rd) : q_Rd := (r.ec, r.ea, r.ct + 1, r.ln, r.en, r.kd, r.st, r.vl, r.na)
def rd_A (a e b : Nat) : Nat → Prop := fun q => q = a ∨ q = a + 2 ∨ (e ≤ q ∧ q < e + 5) ∨ (b ≤ q ∧ q < b + 60)
theorem rd_A.out {a e b c m : Nat} {h' : q_H} (ho : q_out c m h h') (hc : (c = a ∧ m = 1) ∨ (c = a + 2 ∧ m = 1) ∨ (e ≤ c ∧ c + m ≤ e + 5) ∨ (b ≤ c ∧ c + m ≤ b + 60)) : q_fr (rd_A a e b) h h' := fun q hq => ho q (by unfold rd_A at hq; omega)
def rd_Q (h : q_H) (a td N L : Nat) (f : Nat → Int32) (e b : Nat) (r : q_Rd) (T : q_Te) (B : q_Bk) : Prop :=
  h a = some (readE a td r) ∧ (∃ d, h (a + 2) = some (dealE d)) ∧ isY h td N f ∧ isE h e T ∧ isB h b B ∧ rd_ok r ∧ r.ln = L
def rd_G (a td e b N L : Nat) : Prop := td < a ∧ a + 3 ≤ e ∧ e + 5 ≤ b ∧ N < 2147483648 ∧ L ≤ N ∧ L + 1 < 2147483648
section
variable {a td N L e b : Nat} {f : Nat → Int32} {r r' : q_Rd} {T T' : q_Te} {B B' : q_Bk}
theorem rd_Q.Y (hQ : rd_Q h a td N L f e b r T B) : isY h td N f := hQ.2.2.1
theorem rd_Q.E (hQ : rd_Q h a td N L f e b r T B) : isE h e T := hQ.2.2.2.1
theorem rd_Q.bk (hQ : rd_Q h a td N L f e b r T B) : isB h b B := hQ.2.2.2.2.1
theorem rd_Q.k (hQ : rd_Q h a td N L f e b r T B) : rd_ok r := hQ.2.2.2.2.2.1
theorem rd_Q.l (hQ : rd_Q h a td N L f e b r T B) (hG : rd_G a td e b N L) : r.ln ≤ N := by rw [hQ.2.2.2.2.2.2]; exact hG.2.2.2.2.1
theorem rd_Q.sr (hG : rd_G a td e b N L) (hQ : rd_Q h a td N L f e b r T B) (hr : rd_ok r' ∧ r'.ln = r.ln) : rd_Q (q_up h a (readE a td r')) a td N L f e b r' T B ∧ q_fr (rd_A a e b) h (q_up h a (readE a td r')) := by
  obtain ⟨g1, g2, g3, g4, -⟩ := hG
  obtain ⟨q1, ⟨d, q2⟩, q3, q4, q5, q6, q7⟩ := hQ
  have ho : q_out a 1 h (q_up h a (readE a td r')) := q_out.up (by omega) (by omega)
  exact ⟨⟨q_up_s, ⟨d, by rw [q_up_n (by omega)]; exact q2⟩, q3.n (by omega), q4.o ho (by omega), q5.o ho (by omega), hr.1, by rw [hr.2]; exact q7⟩, rd_A.out ho (Or.inl ⟨rfl, rfl⟩)⟩
theorem rd_Q.sd (hG : rd_G a td e b N L) (hQ : rd_Q h a td N L f e b r T B) (d : q_Dl) : rd_Q (q_up h (a + 2) (dealE d)) a td N L f e b r T B ∧ q_fr (rd_A a e b) h (q_up h (a + 2) (dealE d)) := by
  obtain ⟨g1, g2, g3, g4, -⟩ := hG
  obtain ⟨q1, -, q3, q4, q5, q6, q7⟩ := hQ
  have ho : q_out (a + 2) 1 h (q_up h (a + 2) (dealE d)) := q_out.up (by omega) (by omega)
  exact ⟨⟨by rw [q_up_n (by omega)]; exact q1, ⟨d, q_up_s⟩, q3.n (by omega), q4.o ho (by omega), q5.o ho (by omega), q6, q7⟩, rd_A.out ho (Or.inr (Or.inl ⟨rfl, rfl⟩))⟩
theorem rd_Q.sE {h' : q_H} (hG : rd_G a td e b N L) (hQ : rd_Q h a td N L f e b r T B) (hE : isE h' e T') (ho : q_out e 5 h h') : rd_Q h' a td N L f e b r T' B ∧ q_fr (rd_A a e b) h h' := by
  obtain ⟨g1, g2, g3, g4, -⟩ := hG
  obtain ⟨q1, ⟨d, q2⟩, q3, q4, q5, q6, q7⟩ := hQ
  exact ⟨⟨by rw [ho a (by omega)]; exact q1, ⟨d, by rw [ho (a + 2) (by omega)]; exact q2⟩, q3.o ho (by omega), hE, q5.o ho (by omega), q6, q7⟩, rd_A.out ho (Or.inr (Or.inr (Or.inl ⟨Nat.le_refl _, Nat.le_refl _⟩)))⟩
theorem rd_Q.sB {h' : q_H} (hG : rd_G a td e b N L) (hQ : rd_Q h a td N L f e b r T B) (hB : isB h' b B') (ho : q_out b 60 h h') : rd_Q h' a td N L f e b r T B' ∧ q_fr (rd_A a e b) h h' := by
  obtain ⟨g1, g2, g3, g4, -⟩ := hG
  obtain ⟨q1, ⟨d, q2⟩, q3, q4, q5, q6, q7⟩ := hQ
  exact ⟨⟨by rw [ho a (by omega)]; exact q1, ⟨d, by rw [ho (a + 2) (by omega)]; exact q2⟩, q3.o ho (by omega), q4.o ho (by omega), hB, q6, q7⟩, rd_A.out ho (Or.inr (Or.inr (Or.inr ⟨Nat.le_refl _, Nat.le_refl _⟩)))⟩
/-- a field of the terms -/
theorem rd_Q.sF (hG : rd_G a td e b N L) (hQ : rd_Q h a td N L f e b r T B) (T' : q_Te) (e1 : te_c T' = te_c T) (e2 : te_l T' = te_l T) (e3 : te_s T' = te_s T) (e4 : te_r T' = te_r T) : rd_Q (q_up h e (termE e T')) a td N L f e b r T' B ∧ q_fr (rd_A a e b) h (q_up h e (termE e T')) := by
  have hE := hQ.E
  refine hQ.sE hG ⟨q_up_s, ?_, ?_, ?_, ?_⟩ (q_out.up (by omega) (by omega))
  · rw [e1]; exact hE.2.1.n (by omega)
  · rw [e2]; exact hE.2.2.1.n (by omega)
  · rw [e3]; exact hE.2.2.2.1.n (by omega)
  · rw [e4]; exact hE.2.2.2.2.n (by omega)
theorem bX4_takeWord {i : Nat} {r2 : q_Rd} {P : q_H → Option Nat → Prop} (hG : rd_G a td e b N L) (hi : i < 5) (hQ : rd_Q h a td N L f e b r T B) (hy : rd_word f r i = r2) (hk : ∀ h', rd_Q h' a td N L f e b r2 T B → q_fr (rd_A a e b) h h' → P h' z) : QMv V iX4_takeWord [.ref a, .ref (e_K V i)] h z P Kx := by
  subst hy
  exact mX4_takeWord hi hQ.1 hQ.Y (Nat.ne_of_lt hG.1) hG.2.2.2.1 hQ.k (hQ.l hG) (hk _ (hQ.sr hG (rd_word_ok hQ.k)).1 (hQ.sr hG (rd_word_ok hQ.k)).2)
theorem bX4_takeSemicolon {r2 : q_Rd} {P : q_H → Option Nat → Prop} (hG : rd_G a td e b N L) (hQ : rd_Q h a td N L f e b r T B) (hy : rd_semi f r = r2) (hk : ∀ h', rd_Q h' a td N L f e b r2 T B → q_fr (rd_A a e b) h h' → P h' z) : QMv V iX4_takeSemicolon [.ref a] h z P Kx := by
  subst hy
  exact mX4_takeSemicolon hQ.1 hQ.Y (Nat.ne_of_lt hG.1) hG.2.2.2.1 hQ.k (hQ.l hG) (hk _ (hQ.sr hG (rd_semi_ok hQ.k)).1 (hQ.sr hG (rd_semi_ok hQ.k)).2)
theorem bX4_fail {c p : Int32} {r2 : q_Rd} {P : q_H → Option Nat → Prop} (hG : rd_G a td e b N L) (hQ : rd_Q h a td N L f e b r T B) (hy : rd_fail r c p = r2) (hk : ∀ h', rd_Q h' a td N L f e b r2 T B → q_fr (rd_A a e b) h h' → P h' z) : QMv V iX4_fail [.ref a, .int c, .int p] h z P Kx := by
  subst hy
  exact mX4_fail hQ.1 (hk _ (hQ.sr hG (rd_fail_ok hQ.k)).1 (hQ.sr hG (rd_fail_ok hQ.k)).2)
theorem bX4_takeNumber {lo hi : Int32} {y : Int32 × q_Rd} {P : Int32 → q_H → Option Nat → Prop} (hG : rd_G a td e b N L) (hQ : rd_Q h a td N L f e b r T B) (hy : rd_nb f r lo hi = y) (hk : ∀ h', rd_Q h' a td N L f e b y.2 T B → q_fr (rd_A a e b) h h' → P y.1 h' z) : QMi V iX4_takeNumber [.ref a, .int lo, .int hi] h z P Kx := by
  subst hy
  exact mX4_takeNumber hQ.1 hQ.Y (Nat.ne_of_lt hG.1) hG.2.2.2.1 hQ.k (hQ.l hG) (hk _ (hQ.sr hG (rd_nb_ok hQ.k)).1 (hQ.sr hG (rd_nb_ok hQ.k)).2)
theorem bX4_isWord {i : Nat} {P : Int32 → q_H → Option Nat → Prop} (hG : rd_G a td e b N L) (hi : i < 5) (hQ : rd_Q h a td N L f e b r T B) (hk : P (q_b (rd_is f r i)) h z) : QMi V iX4_isWord [.ref a, .ref (e_K V i)] h z P Kx :=
  mX4_isWord hi hQ.1 hQ.Y (Nat.ne_of_lt hG.1) hG.2.2.2.1 hQ.k (hQ.l hG) hk
end
theorem rd_Q.sI {a td N L e b : Nat} {f : Nat → Int32} {r : q_Rd} {T : q_Te} {B : q_Bk} (hG : rd_G a td e b N L) (hQ : rd_Q h a td N L f e b r T B) : rd_Q (q_up h a (.inr (5, [.int r.ec, .int r.ea, .int (r.ct + 1), .ref td, .int (nI r.ln), .int (nI r.en), .int r.kd, .int (nI r.st), .int r.vl, .int r.na, .ref (a + 2)]))) a td N L f e b (rd_inc r) T B ∧ q_fr (rd_A a e b) h (q_up h a (.inr (5, [.int r.ec, .int r.ea, .int (r.ct + 1), .ref td, .int (nI r.ln), .int (nI r.en), .int r.kd, .int (nI r.st), .int r.vl, .int r.na, .ref (a + 2)]))) := hQ.sr hG (r' := rd_inc r) ⟨hQ.k, rfl⟩
def te_sM (T : q_Te) (x : Int32) : q_Te := (te_c T, te_l T, te_s T, te_r T, te_n T, x, te_u T, te_t T, te_p T)
def te_sU (T : q_Te) (x : Int32) : q_Te := (te_c T, te_l T, te_s T, te_r T, te_n T, te_m T, x, te_t T, te_p T)
def te_sN (T : q_Te) (x : Int32) : q_Te := (te_c T, te_l T, te_s T, te_r T, x, te_m T, te_u T, te_t T, te_p T)
def te_sT (T : q_Te) (x : Int32) : q_Te := (te_c T, te_l T, te_s T, te_r T, te_n T, te_m T, te_u T, x, te_p T)
def te_sP (T : q_Te) (x : Int32) : q_Te := (te_c T, te_l T, te_s T, te_r T, te_n T, te_m T, te_u T, te_t T, x)
def te_gl (T : q_Te) (x y g : Int32) : q_Te := (fun k => (te_g x g k).toInt32, fun k => (te_g y g k).toInt32, T.2.2)
def te_ab (T : q_Te) (n : Nat) (x y : Int32) : q_Te := (te_c T, te_l T, upd (te_s T) n x, upd (te_r T) n y, te_n T + 1, T.2.2.2.2.2)
section
variable (f : Nat → Int32) (r : q_Rd) (T : q_Te) (B : q_Bk)
def rd_l1 : Int32 × q_Rd := rd_nb f (rd_word f r 0) 1 999999
def rd_l2 : Int32 × q_Rd := rd_nb f (rd_l1 f r).2 1 999999
def rd_l3 : Int32 × q_Rd := rd_nb f (rd_l2 f r).2 0 200
def rd_l4 : Int32 × q_Rd := rd_nb f (rd_l3 f r).2 0 99999
def rd_l5 : Int32 × q_Rd := rd_nb f (rd_l4 f r).2 1 99999
def rd_l6 : q_Rd := rd_semi f (rd_l5 f r).2
def rd_lT : q_Te := te_sU (te_sM (te_gl T (rd_l1 f r).1 (rd_l2 f r).1 (rd_l3 f r).1) (rd_l4 f r).1) (rd_l5 f r).1
def rd_b1 : Int32 × q_Rd := rd_nb f (rd_word f r 1) 1 99999
def rd_b2 : Int32 × q_Rd := rd_nb f (rd_b1 f r).2 0 900
def rd_b3 : q_Rd := rd_semi f (rd_b2 f r).2
end
def rd_bl (f : Nat → Int32) : Nat → Nat → q_Rd → q_Te → q_Rd × q_Te
  | 0, _, r, T => (r, T)
  | n + 1, k, r, T => if k = 0 ∨ rd_is f r 1 = true then rd_bl f n (k + 1) (rd_b3 f r) (te_ab T k (rd_b1 f r).1 (rd_b2 f r).1) else (r, T)
def rd_bf (f : Nat → Int32) (r : q_Rd) : q_Rd := if rd_is f r 1 = true then rd_fail r 3 (nI r.st) else r
def rd_b5 (f : Nat → Int32) (r : q_Rd) (T : q_Te) : q_Rd × q_Te := rd_bl f 4 0 r (te_sN T 0)
section
variable (f : Nat → Int32) (r : q_Rd) (T : q_Te) (B : q_Bk)
def rd_c1 : Int32 × q_Rd := rd_nb f (rd_word f r 4) 0 (te_p T - 1)
def rd_cp : Nat := (rd_c1 f r T).1.toNatClampNeg
def rd_c2 : q_Rd := if pl_has (b_p B (rd_cp f r T)) = true then rd_fail (rd_c1 f r T).2 4 (rd_c1 f r T).2.na else (rd_c1 f r T).2
def rd_c3 : Int32 × q_Rd := rd_nb f (rd_c2 f r T B) 0 (te_t T - 1)
def rd_c4 : q_Rd := if q_bc (b_set B (rd_c3 f r T B).1 24) < 12 then (rd_c3 f r T B).2 else rd_fail (rd_c3 f r T B).2 4 (rd_c3 f r T B).2.na
def rd_c5 : Int32 × q_Rd := rd_nb f (rd_c4 f r T B) 1 99999
def rd_c6 : Int32 × q_Rd := rd_nb f (rd_c5 f r T B).2 0 20
def rd_c7 : Int32 × q_Rd := rd_nb f (rd_c6 f r T B).2 1 5
def rd_c8 : Int32 × q_Rd := rd_nb f (rd_c7 f r T B).2 0 99999
def rd_c9 : Int32 × q_Rd := rd_nb f (rd_c8 f r T B).2 0 (rd_c7 f r T B).1
def rd_ca : q_Rd := rd_semi f (rd_c9 f r T B).2
def rd_cr : q_Rd := if rd_bad (rd_ca f r T B) = true then rd_ca f r T B else rd_inc (rd_ca f r T B)
def rd_cB : q_Bk := if rd_bad (rd_ca f r T B) = true then B else b_sP B (rd_cp f r T) (pl_begin (b_p B (rd_cp f r T)) (rd_c3 f r T B).1 0 ((rd_c5 f r T B).1, (rd_c6 f r T B).1, (rd_c7 f r T B).1, (rd_c8 f r T B).1, (rd_c9 f r T B).1))
end
def rd_cl (f : Nat → Int32) (T : q_Te) : Nat → q_Rd → q_Bk → q_Rd × q_Bk
  | 0, r, B => (r, B)
  | n + 1, r, B => if rd_bad r = true ∨ r.kd = 0 then (r, B) else rd_cl f T n (rd_cr f r T B) (rd_cB f r T B)
section
variable (f : Nat → Int32) (L : Nat) (r : q_Rd) (T : q_Te) (B : q_Bk)
def rd_t0 : q_Rd := rd_tok f (0, -1, 0, L, 0, r.kd, r.st, r.vl, r.na)
def rd_t1 : q_Rd := rd_l6 f (rd_t0 f L r)
def rd_T1 : q_Te := rd_lT f (rd_t0 f L r) T
def rd_t2 : q_Rd × q_Te := rd_b5 f (rd_t1 f L r) (rd_T1 f L r T)
def rd_t2r : q_Rd := rd_bf f (rd_t2 f L r T).1
def rd_t3 : Int32 × q_Rd := rd_nb f (rd_word f (rd_t2r f L r T) 2) 1 4
def rd_t4 : Int32 × q_Rd := rd_nb f (rd_word f (rd_semi f (rd_t3 f L r T).2) 3) 1 24
def rd_t5 : q_Rd := rd_semi f (rd_t4 f L r T).2
def rd_tT : q_Te := te_sP (te_sT (rd_t2 f L r T).2 (rd_t3 f L r T).1) (rd_t4 f L r T).1
def rd_tR : q_Rd := (rd_cl f (rd_tT f L r T) (L + 1) (rd_t5 f L r T) (b_clr B)).1
def rd_tB : q_Bk := b_ref (rd_cl f (rd_tT f L r T) (L + 1) (rd_t5 f L r T) (b_clr B)).2 (te_m (rd_tT f L r T))
end
theorem rd_Q.sN {a td N L e b : Nat} {f : Nat → Int32} {r : q_Rd} {T : q_Te} {B : q_Bk} (hG : rd_G a td e b N L) (hQ : rd_Q h a td N L f e b r T B) (x : Int32) : rd_Q (q_up h e (.inr (8, [.ref (e + 1), .ref (e + 2), .ref (e + 3), .ref (e + 4), .int x, .int (te_m T), .int (te_u T), .int (te_t T), .int (te_p T)]))) a td N L f e b r (te_sN T x) B ∧ q_fr (rd_A a e b) h (q_up h e (.inr (8, [.ref (e + 1), .ref (e + 2), .ref (e + 3), .ref (e + 4), .int x, .int (te_m T), .int (te_u T), .int (te_t T), .int (te_p T)]))) := hQ.sF hG (te_sN T x) rfl rfl rfl rfl
theorem rd_Q.sM {a td N L e b : Nat} {f : Nat → Int32} {r : q_Rd} {T : q_Te} {B : q_Bk} (hG : rd_G a td e b N L) (hQ : rd_Q h a td N L f e b r T B) (x : Int32) : rd_Q (q_up h e (.inr (8, [.ref (e + 1), .ref (e + 2), .ref (e + 3), .ref (e + 4), .int (te_n T), .int x, .int (te_u T), .int (te_t T), .int (te_p T)]))) a td N L f e b r (te_sM T x) B ∧ q_fr (rd_A a e b) h (q_up h e (.inr (8, [.ref (e + 1), .ref (e + 2), .ref (e + 3), .ref (e + 4), .int (te_n T), .int x, .int (te_u T), .int (te_t T), .int (te_p T)]))) := hQ.sF hG (te_sM T x) rfl rfl rfl rfl
theorem rd_Q.sU {a td N L e b : Nat} {f : Nat → Int32} {r : q_Rd} {T : q_Te} {B : q_Bk} (hG : rd_G a td e b N L) (hQ : rd_Q h a td N L f e b r T B) (x : Int32) : rd_Q (q_up h e (.inr (8, [.ref (e + 1), .ref (e + 2), .ref (e + 3), .ref (e + 4), .int (te_n T), .int (te_m T), .int x, .int (te_t T), .int (te_p T)]))) a td N L f e b r (te_sU T x) B ∧ q_fr (rd_A a e b) h (q_up h e (.inr (8, [.ref (e + 1), .ref (e + 2), .ref (e + 3), .ref (e + 4), .int (te_n T), .int (te_m T), .int x, .int (te_t T), .int (te_p T)]))) := hQ.sF hG (te_sU T x) rfl rfl rfl rfl
theorem rd_Q.sT {a td N L e b : Nat} {f : Nat → Int32} {r : q_Rd} {T : q_Te} {B : q_Bk} (hG : rd_G a td e b N L) (hQ : rd_Q h a td N L f e b r T B) (x : Int32) : rd_Q (q_up h e (.inr (8, [.ref (e + 1), .ref (e + 2), .ref (e + 3), .ref (e + 4), .int (te_n T), .int (te_m T), .int (te_u T), .int x, .int (te_p T)]))) a td N L f e b r (te_sT T x) B ∧ q_fr (rd_A a e b) h (q_up h e (.inr (8, [.ref (e + 1), .ref (e + 2), .ref (e + 3), .ref (e + 4), .int (te_n T), .int (te_m T), .int (te_u T), .int x, .int (te_p T)]))) := hQ.sF hG (te_sT T x) rfl rfl rfl rfl
theorem rd_Q.sP {a td N L e b : Nat} {f : Nat → Int32} {r : q_Rd} {T : q_Te} {B : q_Bk} (hG : rd_G a td e b N L) (hQ : rd_Q h a td N L f e b r T B) (x : Int32) : rd_Q (q_up h e (.inr (8, [.ref (e + 1), .ref (e + 2), .ref (e + 3), .ref (e + 4), .int (te_n T), .int (te_m T), .int (te_u T), .int (te_t T), .int x]))) a td N L f e b r (te_sP T x) B ∧ q_fr (rd_A a e b) h (q_up h e (.inr (8, [.ref (e + 1), .ref (e + 2), .ref (e + 3), .ref (e + 4), .int (te_n T), .int (te_m T), .int (te_u T), .int (te_t T), .int x]))) := hQ.sF hG (te_sP T x) rfl rfl rfl rfl
end CX4b
