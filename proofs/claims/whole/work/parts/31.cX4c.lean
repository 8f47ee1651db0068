/-! readLeague -/
section CX4b
variable {V : q_En} {h : q_H} {z : Option Nat} {Kx : q_KX}
theorem mX4_readLeague {a td N L e b : Nat} {f : Nat → Int32} {r : q_Rd} {T : q_Te} {B : q_Bk} {P : q_H → Option Nat → Prop} (hG : rd_G a td e b N L) (hQ : rd_Q h a td N L f e b r T B) (hk : ∀ h', rd_Q h' a td N L f e b (rd_l6 f r) (rd_lT f r T) B → q_fr (rd_A a e b) h h' → P h' z) : QMv V iX4_readLeague [.ref a, .ref e] h z P Kx := by
  have ho : q_fr (rd_A a e b) h h := q_fr.refl
  refine eX4_readLeague ?_
  refine wX4_readLeague_0 ?_
  refine wX4_readLeague_1 ?_
  refine wX4_readLeague_3 hQ.1 (bX4_takeWord hG (i := 0) (by decide) hQ (r2 := _) rfl fun h2 hQ2 ho2 => ?_)
  replace hQ := hQ2
  replace ho := ho.trans ho2
  refine wX4_readLeague_6 ?_
  refine wX4_readLeague_7 ?_
  refine wX4_readLeague_8 ?_
  refine wX4_readLeague_10 hQ.1 (bX4_takeNumber hG hQ (y := rd_l1 f r) rfl fun h2 hQ2 ho2 => ?_)
  replace hQ := hQ2
  replace ho := ho.trans ho2
  refine wX4_readLeague_13 ?_
  refine wX4_readLeague_14 ?_
  refine wX4_readLeague_15 ?_
  refine wX4_readLeague_16 ?_
  refine wX4_readLeague_18 hQ.1 (bX4_takeNumber hG hQ (y := rd_l2 f r) rfl fun h2 hQ2 ho2 => ?_)
  replace hQ := hQ2
  replace ho := ho.trans ho2
  refine wX4_readLeague_21 ?_
  refine wX4_readLeague_22 ?_
  refine wX4_readLeague_23 ?_
  refine wX4_readLeague_24 ?_
  refine wX4_readLeague_27 hQ.1 (bX4_takeNumber hG hQ (y := rd_l3 f r) rfl fun h2 hQ2 ho2 => ?_)
  replace hQ := hQ2
  replace ho := ho.trans ho2
  refine wX4_readLeague_30 ?_
  refine wX4_readLeague_32 ?_
  refine wX4_readLeague_33 ?_
  refine wX4_readLeague_34 ?_
  refine wX4_readLeague_35 ?_
  refine wX4_readLeague_37 hQ.E.1 (mX7_growLines hQ.E fun h2 hE2 ho2 => ?_)
  obtain ⟨hQ2, ho3⟩ := hQ.sE hG (T' := te_gl T (rd_l1 f r).1 (rd_l2 f r).1 (rd_l3 f r).1) hE2 ho2
  replace ho := ho.trans ho3
  replace hQ := hQ2
  clear ho2
  refine wX4_readLeague_40 ?_
  refine wX4_readLeague_41 ?_
  refine wX4_readLeague_42 ?_
  refine wX4_readLeague_43 ?_
  refine wX4_readLeague_45 hQ.1 (bX4_takeNumber hG hQ (y := rd_l4 f r) rfl fun h2 hQ2 ho2 => ?_)
  replace hQ := hQ2
  replace ho := ho.trans ho2
  refine wX4_readLeague_48 hQ.E.1 ?_
  obtain ⟨hQ2, ho2⟩ := hQ.sM hG ((rd_l4 f r).1)
  replace ho := ho.trans ho2
  replace hQ := hQ2
  clear hQ2 ho2
  refine wX4_readLeague_51 ?_
  refine wX4_readLeague_52 ?_
  refine wX4_readLeague_53 ?_
  refine wX4_readLeague_54 ?_
  refine wX4_readLeague_56 hQ.1 (bX4_takeNumber hG hQ (y := rd_l5 f r) rfl fun h2 hQ2 ho2 => ?_)
  replace hQ := hQ2
  replace ho := ho.trans ho2
  refine wX4_readLeague_59 hQ.E.1 ?_
  obtain ⟨hQ2, ho2⟩ := hQ.sU hG ((rd_l5 f r).1)
  replace ho := ho.trans ho2
  replace hQ := hQ2
  clear hQ2 ho2
  refine wX4_readLeague_62 ?_
  refine wX4_readLeague_63 hQ.1 (bX4_takeSemicolon hG hQ (r2 := rd_l6 f r) rfl fun h2 hQ2 ho2 => ?_)
  replace hQ := hQ2
  replace ho := ho.trans ho2
  refine wX4_readLeague_66  ?_
  exact hk _ hQ ho
end CX4b
