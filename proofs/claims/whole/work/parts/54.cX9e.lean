/-! SalaryCapLedgerModel: dead money of a release, releases, the end of a year -/
section CX9e
variable {V : q_En} {h : q_H} {z : Option Nat} {Kx : q_KX}
/-- a player with a contract: team, year's number, guaranteed years, length -/
def okP (r : Nat → Int64) (p : Nat) : Prop := ∃ j c g l : Nat, j < 4 ∧ c < l ∧ l ≤ 5 ∧ g ≤ l ∧ r_op r p 0 = nI j ∧ r_yn r p 0 = nI c ∧ r_op r p 7 = nI g ∧ r_op r p 5 = nI l
/-- the guaranteed salaries' sum; dead money by years ahead, in its three steps -/
def r_su (r : Nat → Int64) (p e : Nat) : Int32 := q_ac 0 (fun q => r_sl r p (nI q)) e
def r_d1 (r : Nat → Int64) (p : Nat) (st : Int32) (e q : Nat) : Int32 := if q < e then 0 + (if st = 0 then r_sl r p (nI q) else 0) else 0
def r_d2 (r : Nat → Int64) (p : Nat) (st : Int32) (e y k q : Nat) : Int32 := if q < k ∧ ¬ st = 0 then r_d1 r p st e q + (r_su r p e / nI y + (if nI q < r_su r p e - r_su r p e / nI y * nI y then 1 else 0)) else r_d1 r p st e q
def r_d3 (r : Nat → Int64) (p : Nat) (st : Int32) (e y q : Nat) : Int32 := if q = 0 then r_d2 r p st e y y 0 + r_sf r p else r_d2 r p st e y y q
def r_le (r : Nat → Int64) (p : Nat) : Nat := (r_op r p 7).toNatClampNeg - (r_yn r p 0).toNatClampNeg
def r_ly (r : Nat → Int64) (p : Nat) : Nat := 2 * ((r_op r p 5).toNatClampNeg - (r_yn r p 0).toNatClampNeg) + 1
def r_ld (r : Nat → Int64) (p : Nat) (st : Int32) (q : Nat) : Int32 := r_d3 r p st (r_le r p) (r_ly r p) q
def r_lt (r : Nat → Int64) (p : Nat) (st : Int32) : Int32 := q_ac 0 (r_ld r p st) 12
theorem r_d1_n {r : Nat → Int64} {p k q : Nat} {st : Int32} (h : ¬ q = k) : r_d1 r p st (k + 1) q = r_d1 r p st k q := by
  unfold r_d1
  by_cases e : q < k
  · rw [if_pos e, if_pos (show q < k + 1 by omega)]
  · rw [if_neg e, if_neg (show ¬ q < k + 1 by omega)]
theorem r_d2_n {r : Nat → Int64} {p e y k q : Nat} {st : Int32} (h : ¬ q = k) : r_d2 r p st e y (k + 1) q = r_d2 r p st e y k q := by
  unfold r_d2
  by_cases e1 : q < k ∧ ¬ st = 0
  · rw [if_pos e1, if_pos (show q < k + 1 ∧ ¬ st = 0 from ⟨by omega, e1.2⟩)]
  · rw [if_neg e1, if_neg (show ¬ (q < k + 1 ∧ ¬ st = 0) from fun z => e1 ⟨by omega, z.2⟩)]
theorem upd_at {f : Nat → Int32} {k q : Nat} {x : Int32} : upd f k x q = if q = k then x else f q := rfl
theorem q_sb2 (k c : Nat) : nI (c + k) - nI c = nI k := by rw [nI_sb (by omega)]; congr 1; omega
theorem nI_ne0' {n : Nat} (h0 : 0 < n) (h : n < 2147483648) : ¬ nI n = 0 := fun e => by have := nI_inj h (by decide) (e.trans (q_nI_lit 0).symm); omega
theorem mX9_layDead {a : Nat} {M : q_Mo} {p : Nat} {st : Int32} {P : Int32 → q_H → Option Nat → Prop} (hM : isM h a M) (hp : p < 24) (hP : okP (m_r M) p) (hk : ∀ h2 f, (∀ q, q < 12 → f q = r_ld (m_r M) p st q) → isM h2 a (mIr M 10 f) → q_out a 13 h h2 → P (r_lt (m_r M) p st) h2 z) : QMi V iX9_layDead [.ref a, .int (nI p), .int st] h z P Kx := by
  have ho : q_out a 13 h h := q_out.refl
  obtain ⟨j, c, g, l, hj, hcl, hl5, hgl, e0, ec, eg, el⟩ := hP
  have hR5 : r_le (m_r M) p = g - c := by unfold r_le; rw [eg, ec, nI_clamp (by omega), nI_clamp (by omega)]
  have hRy : r_ly (m_r M) p = 2 * (l - c) + 1 := by unfold r_ly; rw [el, ec, nI_clamp (by omega), nI_clamp (by omega)]
  have hn5 : r_has (m_r M) p = true → ¬ r_op (m_r M) p 5 = 0 := fun _ => by rw [el]; exact nI_ne0' (by omega) (by omega)
  obtain ⟨e, he⟩ : ∃ e, e = g - c := ⟨_, rfl⟩
  obtain ⟨y, hy⟩ : ∃ y, y = 2 * (l - c) + 1 := ⟨_, rfl⟩
  have hte : r_ld (m_r M) p st = fun q => r_d3 (m_r M) p st e y q := by funext q; unfold r_ld; rw [hR5, hRy, he, hy]
  have hj180 : ∀ hh f, (∀ q, q < 12 → f q = r_d3 (m_r M) p st e y q) → isM hh a (mIr M 10 f) → q_out a 13 h hh → QW V iX9_layDead 180 [some (.ref a), some (.int (nI p)), some (.int st), some (.int (nI c)), some (.int (r_su (m_r M) p e)), some (.int (nI y)), some (.int (q_ac 0 (r_d3 (m_r M) p st e y) 0)), some (.int (nI 0))] [] hh z 0 0 (q_Ki P) Kx := by
    intro hh f hf hM ho
    refine q_for (P := fun k => QW V iX9_layDead 180 [some (.ref a), some (.int (nI p)), some (.int st), some (.int (nI c)), some (.int (r_su (m_r M) p e)), some (.int (nI y)), some (.int (q_ac 0 (r_d3 (m_r M) p st e y) k)), some (.int (nI k))] [] hh z 0 0 (q_Ki P) Kx) 12 ?_ (fun k hkn ih => ?_)
    · refine wX9_layDead_180 ?_
      refine wX9_layDead_182 ?_
      refine wX9_layDead_184 (fun c184 => ?_) (fun c184 => absurd (by decide) c184)
      refine wX9_layDead_205 ?_
      refine wX9_layDead_207  ?_
      refine q_cv ?_ (hk _ f (fun q hq => (hf q hq).trans (by rw [hte])) hM ho)
      unfold r_lt; rw [hte]
    · refine wX9_layDead_180 ?_
      refine wX9_layDead_182 ?_
      refine wX9_layDead_184 (fun c184 => absurd c184 (nI_ge (b := 12) hkn (by decide))) (fun c184 => ?_)
      refine wX9_layDead_187 ?_
      refine wX9_layDead_189 ?_
      refine wX9_layDead_190 hM.c ?_
      refine wX9_layDead_193 ?_
      refine wX9_layDead_195 hM.a10 rfl (show k < 12 from hkn) (by decide) ?_
      refine wX9_layDead_196 ?_
      refine wX9_layDead_197 ?_
      refine wX9_layDead_199 ?_
      refine wX9_layDead_202 ?_
      refine q_ls ?_ ih
      rw [nI_1, show (mIr M 10 f).2.2 10 k = r_d3 (m_r M) p st e y k from hf k hkn]; try rfl
  have hj160 : ∀ hh f (x6 : Int32), (∀ q, q < 12 → f q = r_d2 (m_r M) p st e y y q) → isM hh a (mIr M 10 f) → q_out a 13 h hh → QW V iX9_layDead 160 [some (.ref a), some (.int (nI p)), some (.int st), some (.int (nI c)), some (.int (r_su (m_r M) p e)), some (.int (nI y)), some (.int x6), none] [] hh z 0 0 (q_Ki P) Kx := by
    intro hh f x6 hf hM ho
    refine wX9_layDead_160 ?_
    refine wX9_layDead_161 hM.c ?_
    refine wX9_layDead_164 ?_
    refine wX9_layDead_165 ?_
    refine wX9_layDead_166 hM.a10 (j := 0) rfl (by decide) (by decide) ?_
    refine wX9_layDead_167 ?_
    refine wX9_layDead_168 ?_
    refine wX9_layDead_169 hM.c (mX9_sharesFrom hM hp hn5 ?_)
    refine wX9_layDead_172 ?_
    refine wX9_layDead_173 hM.a10 (j := 0) rfl (by decide) (by decide) ?_
    refine q_nI (k := 10) (by decide) hM ho (fun h2 hM ho => ?_)
    refine wX9_layDead_174 ?_
    refine wX9_layDead_175 ?_
    refine wX9_layDead_177 ?_
    refine wX9_layDead_178 ?_
    refine hj180 _ (upd f 0 (f 0 + r_sf (m_r M) p)) (fun q hq => ?_) (hM.e mIr_2) ho
    rw [upd_at, r_d3]
    by_cases e0 : q = 0
    · rw [if_pos e0, if_pos e0, hf 0 (by decide)]
    · rw [if_neg e0, if_neg e0, hf q hq]
  have hj112 : ∀ hh f, (∀ q, q < 12 → f q = r_d1 (m_r M) p st e q) → isM hh a (mIr M 10 f) → q_out a 13 h hh → QW V iX9_layDead 112 [some (.ref a), some (.int (nI p)), some (.int st), some (.int (nI c)), some (.int (r_su (m_r M) p e)), some (.int (nI y)), some (.int (nI 0)), none] [] hh z 0 0 (q_Ki P) Kx := by
    intro hh f hf hM ho
    by_cases hst : st = 0
    · refine wX9_layDead_112 ?_
      refine wX9_layDead_114 ?_
      refine wX9_layDead_116 (fun c116 => absurd c116 (nI_ge (show 0 < y by omega) (by omega))) (fun c116 => ?_)
      refine wX9_layDead_119 ?_
      refine wX9_layDead_120 (fun c120 => ?_) (fun c120 => absurd hst c120)
      exact hj160 _ f _ (fun q hq => (hf q hq).trans (by rw [r_d2, if_neg (fun z => z.2 hst)])) hM ho
    · refine q_for (P := fun k => ∀ hh f, (∀ q, q < 12 → f q = r_d2 (m_r M) p st e y k q) → isM hh a (mIr M 10 f) → q_out a 13 h hh →  QW V iX9_layDead 112 [some (.ref a), some (.int (nI p)), some (.int st), some (.int (nI c)), some (.int (r_su (m_r M) p e)), some (.int (nI y)), some (.int (nI k)), none] [] hh z 0 0 (q_Ki P) Kx) y ?_ ?_ _ f (fun q hq => (hf q hq).trans (by rw [r_d2, if_neg (by omega)])) hM ho
      · intro hh f hf hM ho
        refine wX9_layDead_112 ?_
        refine wX9_layDead_114 ?_
        refine wX9_layDead_116 (fun c116 => ?_) (fun c116 => absurd (nI_le (Nat.le_refl _) (by omega)) c116)
        exact hj160 _ f _ hf hM ho
      · intro k hkn ih hh f hf hM ho
        refine wX9_layDead_112 ?_
        refine wX9_layDead_114 ?_
        refine wX9_layDead_116 (fun c116 => absurd c116 (nI_ge hkn (by omega))) (fun c116 => ?_)
        refine wX9_layDead_119 ?_
        refine wX9_layDead_120 (fun c120 => absurd c120 hst) (fun c120 => ?_)
        refine wX9_layDead_123 ?_
        refine wX9_layDead_124 hM.c ?_
        refine wX9_layDead_127 ?_
        refine wX9_layDead_129 ?_
        refine wX9_layDead_130 hM.a10 rfl (show k < 12 by omega) (by decide) ?_
        refine wX9_layDead_131 ?_
        refine wX9_layDead_133 ?_
        refine wX9_layDead_135 (nI_ne0 (by omega) (by omega)) ?_
        refine wX9_layDead_136 ?_
        refine wX9_layDead_138 ?_
        refine wX9_layDead_140 ?_
        refine wX9_layDead_142 (nI_ne0 (by omega) (by omega)) ?_
        refine wX9_layDead_143 (fun c143 => ?_) (fun c143 => ?_)
        · refine wX9_layDead_150 ?_
          refine wX9_layDead_151 ?_
          refine wX9_layDead_152 ?_
          refine wX9_layDead_153 hM.a10 rfl (show k < 12 by omega) (by decide) ?_
          refine q_nI (k := 10) (by decide) hM ho (fun h2 hM ho => ?_)
          refine wX9_layDead_154 ?_
          refine wX9_layDead_157 ?_
          first
            | (have q9 : nI k < r_su (m_r M) p e - r_su (m_r M) p e / nI y * nI y := Int32.not_le.mp c143
               refine q_ls ?_ (ih _ (upd f k (f k + (r_su (m_r M) p e / nI y + 1))) (fun q hq => ?_) (hM.e mIr_2) ho)
               · rw [nI_1]
               · rw [upd_at]
                 by_cases e0 : q = k
                 · subst e0; rw [if_pos rfl, r_d2, if_pos ⟨by omega, hst⟩, hf q hq, r_d2, if_neg (by omega), if_pos q9]
                 · rw [if_neg e0, hf q hq]; exact (r_d2_n e0).symm)
            | (have q9 : ¬ nI k < r_su (m_r M) p e - r_su (m_r M) p e / nI y * nI y := Int32.not_lt.mpr c143
               refine q_ls ?_ (ih _ (upd f k (f k + (r_su (m_r M) p e / nI y + 0))) (fun q hq => ?_) (hM.e mIr_2) ho)
               · rw [nI_1]
               · rw [upd_at]
                 by_cases e0 : q = k
                 · subst e0; rw [if_pos rfl, r_d2, if_pos ⟨by omega, hst⟩, hf q hq, r_d2, if_neg (by omega), if_neg q9]
                 · rw [if_neg e0, hf q hq]; exact (r_d2_n e0).symm)
        · refine wX9_layDead_146 ?_
          refine wX9_layDead_147 ?_
          refine wX9_layDead_151 ?_
          refine wX9_layDead_152 ?_
          refine wX9_layDead_153 hM.a10 rfl (show k < 12 by omega) (by decide) ?_
          refine q_nI (k := 10) (by decide) hM ho (fun h2 hM ho => ?_)
          refine wX9_layDead_154 ?_
          refine wX9_layDead_157 ?_
          first
            | (have q9 : nI k < r_su (m_r M) p e - r_su (m_r M) p e / nI y * nI y := Int32.not_le.mp c143
               refine q_ls ?_ (ih _ (upd f k (f k + (r_su (m_r M) p e / nI y + 1))) (fun q hq => ?_) (hM.e mIr_2) ho)
               · rw [nI_1]
               · rw [upd_at]
                 by_cases e0 : q = k
                 · subst e0; rw [if_pos rfl, r_d2, if_pos ⟨by omega, hst⟩, hf q hq, r_d2, if_neg (by omega), if_pos q9]
                 · rw [if_neg e0, hf q hq]; exact (r_d2_n e0).symm)
            | (have q9 : ¬ nI k < r_su (m_r M) p e - r_su (m_r M) p e / nI y * nI y := Int32.not_lt.mpr c143
               refine q_ls ?_ (ih _ (upd f k (f k + (r_su (m_r M) p e / nI y + 0))) (fun q hq => ?_) (hM.e mIr_2) ho)
               · rw [nI_1]
               · rw [upd_at]
                 by_cases e0 : q = k
                 · subst e0; rw [if_pos rfl, r_d2, if_pos ⟨by omega, hst⟩, hf q hq, r_d2, if_neg (by omega), if_neg q9]
                 · rw [if_neg e0, hf q hq]; exact (r_d2_n e0).symm)
  have hj34 : ∀ hh f, (∀ q, q < 12 → f q = 0) → isM hh a (mIr M 10 f) → q_out a 13 h hh → QW V iX9_layDead 34 [some (.ref a), some (.int (nI p)), some (.int st), some (.int (nI c)), some (.int (r_su (m_r M) p 0)), some (.int (nI (c + 0))), none, none] [] hh z 0 0 (q_Ki P) Kx := by
    intro hh f hf hM ho
    refine q_for (P := fun k => ∀ hh f, (∀ q, q < 12 → f q = r_d1 (m_r M) p st k q) → isM hh a (mIr M 10 f) → q_out a 13 h hh →  QW V iX9_layDead 34 [some (.ref a), some (.int (nI p)), some (.int st), some (.int (nI c)), some (.int (r_su (m_r M) p k)), some (.int (nI (c + k))), none, none] [] hh z 0 0 (q_Ki P) Kx) e ?_ ?_ _ f (fun q hq => (hf q hq).trans (by rw [r_d1, if_neg (by omega)])) hM ho
    · intro hh f hf hM ho
      refine wX9_layDead_34 ?_
      refine wX9_layDead_36 ?_
      refine wX9_layDead_37 ?_
      refine wX9_layDead_38 ?_
      refine wX9_layDead_40 hM.c (mX9_ofPlayer (w := 7) hM hp (by decide) ?_)
      rw [show r_op (m_r (mIr M 10 f)) p 7 = nI g from eg]
      refine wX9_layDead_43 (fun c43 => ?_) (fun c43 => absurd (nI_le (by omega) (by omega)) c43)
      refine wX9_layDead_95 ?_
      refine wX9_layDead_96 ?_
      refine wX9_layDead_97 ?_
      refine wX9_layDead_98 ?_
      refine wX9_layDead_99 hM.c (mX9_ofPlayer (w := 5) hM hp (by decide) ?_)
      rw [show r_op (m_r (mIr M 10 f)) p 5 = nI l from el]
      refine wX9_layDead_102 ?_
      refine wX9_layDead_103 ?_
      refine wX9_layDead_104 ?_
      refine wX9_layDead_105 ?_
      refine wX9_layDead_106 ?_
      rw [show (2 : Int32) * (nI l - nI c) + 1 = nI y from by
        rw [nI_sb (by omega), show (2 : Int32) = nI 2 from rfl, nI_mul, nI_1, hy]]
      refine wX9_layDead_107 ?_
      refine wX9_layDead_109 ?_
      refine wX9_layDead_110 ?_
      exact hj112 _ f hf hM ho
    · intro k hkn ih hh f hf hM ho
      refine wX9_layDead_34 ?_
      refine wX9_layDead_36 ?_
      refine wX9_layDead_37 ?_
      refine wX9_layDead_38 ?_
      refine wX9_layDead_40 hM.c (mX9_ofPlayer (w := 7) hM hp (by decide) ?_)
      rw [show r_op (m_r (mIr M 10 f)) p 7 = nI g from eg]
      refine wX9_layDead_43 (fun c43 => absurd c43 (nI_ge (show c + k < g by omega) (by omega))) (fun c43 => ?_)
      refine wX9_layDead_46 ?_
      refine wX9_layDead_47 hM.c ?_
      refine wX9_layDead_50 ?_
      refine wX9_layDead_52 ?_
      refine wX9_layDead_53 ?_
      refine wX9_layDead_54 ?_
      refine wX9_layDead_55 hM.a10 (q_sb2 k c) (show k < 12 by omega) (by decide) ?_
      refine wX9_layDead_56 ?_
      refine wX9_layDead_57 (fun c57 => ?_) (fun c57 => ?_)
      · refine wX9_layDead_64 ?_
        refine wX9_layDead_65 ?_
        refine wX9_layDead_66 ?_
        refine wX9_layDead_68 ?_
        refine wX9_layDead_69 ?_
        rw [q_sb2]
        refine wX9_layDead_70 hM.c (mX9_salaryIn hM hp ?_)
        refine wX9_layDead_73 ?_
        refine wX9_layDead_74 hM.a10 (j := k) (by first | exact q_sb2 k c | rfl) (show k < 12 by omega) (by decide) ?_
        refine q_nI (k := 10) (by decide) hM ho (fun h2 hM ho => ?_)
        refine wX9_layDead_75 ?_
        refine wX9_layDead_77 ?_
        refine wX9_layDead_78 ?_
        refine wX9_layDead_79 ?_
        refine wX9_layDead_81 ?_
        refine wX9_layDead_82 ?_
        rw [q_sb2]
        refine wX9_layDead_83 hM.c (mX9_salaryIn hM hp ?_)
        refine wX9_layDead_86 ?_
        refine wX9_layDead_87 ?_
        refine wX9_layDead_89 ?_
        refine wX9_layDead_92 ?_
        first
          | (have q9 : st = 0 := c57
             refine q_ls ?_ (ih _ (upd f k (f k + r_sl (m_r M) p (nI k))) (fun q hq => ?_) (hM.e mIr_2) ho)
             · rw [nI_1]; try rfl
             · rw [upd_at]
               by_cases e0 : q = k
               · subst e0; rw [if_pos rfl, hf q hq, r_d1, if_neg (by omega), r_d1, if_pos (by omega), if_pos q9]
               · rw [if_neg e0, hf q hq]; exact (r_d1_n e0).symm)
          | (have q9 : ¬ st = 0 := c57
             refine q_ls ?_ (ih _ (upd f k (f k + 0)) (fun q hq => ?_) (hM.e mIr_2) ho)
             · rw [nI_1]; try rfl
             · rw [upd_at]
               by_cases e0 : q = k
               · subst e0; rw [if_pos rfl, hf q hq, r_d1, if_neg (by omega), r_d1, if_pos (by omega), if_neg q9]
               · rw [if_neg e0, hf q hq]; exact (r_d1_n e0).symm)
      · refine wX9_layDead_60 ?_
        refine wX9_layDead_61 ?_
        refine wX9_layDead_73 ?_
        refine wX9_layDead_74 hM.a10 (j := k) (by first | exact q_sb2 k c | rfl) (show k < 12 by omega) (by decide) ?_
        refine q_nI (k := 10) (by decide) hM ho (fun h2 hM ho => ?_)
        refine wX9_layDead_75 ?_
        refine wX9_layDead_77 ?_
        refine wX9_layDead_78 ?_
        refine wX9_layDead_79 ?_
        refine wX9_layDead_81 ?_
        refine wX9_layDead_82 ?_
        rw [q_sb2]
        refine wX9_layDead_83 hM.c (mX9_salaryIn hM hp ?_)
        refine wX9_layDead_86 ?_
        refine wX9_layDead_87 ?_
        refine wX9_layDead_89 ?_
        refine wX9_layDead_92 ?_
        first
          | (have q9 : st = 0 := c57
             refine q_ls ?_ (ih _ (upd f k (f k + r_sl (m_r M) p (nI k))) (fun q hq => ?_) (hM.e mIr_2) ho)
             · rw [nI_1]; try rfl
             · rw [upd_at]
               by_cases e0 : q = k
               · subst e0; rw [if_pos rfl, hf q hq, r_d1, if_neg (by omega), r_d1, if_pos (by omega), if_pos q9]
               · rw [if_neg e0, hf q hq]; exact (r_d1_n e0).symm)
          | (have q9 : ¬ st = 0 := c57
             refine q_ls ?_ (ih _ (upd f k (f k + 0)) (fun q hq => ?_) (hM.e mIr_2) ho)
             · rw [nI_1]; try rfl
             · rw [upd_at]
               by_cases e0 : q = k
               · subst e0; rw [if_pos rfl, hf q hq, r_d1, if_neg (by omega), r_d1, if_pos (by omega), if_neg q9]
               · rw [if_neg e0, hf q hq]; exact (r_d1_n e0).symm)
  refine eX9_layDead ?_
  refine wX9_layDead_0 ?_
  refine wX9_layDead_1 ?_
  refine q_for (P := fun k => ∀ hh f, (∀ q, q < k → f q = 0) → isM hh a (mIr M 10 f) → q_out a 13 h hh → QW V iX9_layDead 2 [some (.ref a), some (.int (nI p)), some (.int st), some (.int (nI k)), none, none, none, none] [] hh z 0 0 (q_Ki P) Kx) 12 ?_ ?_ _ (M.2.2 10) (fun q hq => absurd hq (by omega)) (hM.e mIr_i.symm) ho
  · intro hh f hf hM ho
    refine wX9_layDead_2 ?_
    refine wX9_layDead_3 ?_
    refine wX9_layDead_5 (fun c5 => ?_) (fun c5 => absurd (by decide) c5)
    refine wX9_layDead_21 ?_
    refine wX9_layDead_22 ?_
    refine wX9_layDead_23 ?_
    refine wX9_layDead_24 hM.c (mX9_yearNumber hM hp ?_)
    rw [show r_yn (m_r (mIr M 10 f)) p 0 = nI c from ec]
    refine wX9_layDead_27 ?_
    refine wX9_layDead_28 ?_
    refine wX9_layDead_29 ?_
    refine wX9_layDead_31 ?_
    refine wX9_layDead_32 ?_
    exact hj34 _ f hf hM ho
  · intro k hkn ih hh f hf hM ho
    refine wX9_layDead_2 ?_
    refine wX9_layDead_3 ?_
    refine wX9_layDead_5 (fun c5 => absurd c5 (nI_ge (b := 12) hkn (by decide))) (fun c5 => ?_)
    refine wX9_layDead_8 ?_
    refine wX9_layDead_9 hM.c ?_
    refine wX9_layDead_12 ?_
    refine wX9_layDead_13 ?_
    refine wX9_layDead_14 hM.a10 rfl (show k < 12 from hkn) (by decide) ?_
    refine q_nI (k := 10) (by decide) hM ho (fun h2 hM ho => ?_)
    refine wX9_layDead_15 ?_
    refine wX9_layDead_18 ?_
    refine q_ls ?_ (ih _ (upd f k 0) (fun q hq => ?_) (hM.e mIr_2) ho)
    · rw [nI_1]
    · rw [upd_at]
      by_cases e0 : q = k
      · rw [if_pos e0]
      · rw [if_neg e0, hf q (by omega)]
def r_rla (r : Nat → Int64) (j w : Nat) (d : Nat → Int32) : Nat → Nat → Int64
  | 0 => r
  | k + 1 => ra (r_rla r j w d k) j (3 + w + k) (d k).toInt64
def r_rel (r : Nat → Int64) (j w p : Nat) (st : Int32) : Nat → Int64 := rp (rp (rp (r_rla r j w (r_ld r p st) 12) p 0 (-1)) p 1 (-1)) p 2 0
theorem r_rla_nw {r : Nat → Int64} {j w : Nat} {d : Nat → Int32} (k : Nat) : r_nw (r_rla r j w d k) = r_nw r := by
  induction k with
  | zero => rfl
  | succ k ih => rw [r_rla, ra_nw, ih]
theorem mX9_release {a : Nat} {M : q_Mo} {p st : Int32} {n : Nat} {w nt np nb : Nat} {P : Int32 → q_H → Option Nat → Prop} (hM : isM h a M) (hO : ¬ M.1 3 = 0 → okM M w nt np nb) (hP : ¬ M.1 3 = 0 → ∀ i, i < 24 → r_has (m_r M) i = true → okP (m_r M) i) (hn : M.1 2 = nI n) (hn10 : n ≤ 10) (hw : M.1 3 = 0 ∨ (mgP M p) = false → ∀ h2, isM h2 a (mS M 4 (mo_th M (mgP M p))) → q_out a 13 h h2 → P 0 h2 z) (hk1 : ¬ M.1 3 = 0 → mgP M p = true → ∀ i, i < 24 → p = nI i → r_has (m_r M) i = false → ∀ h2, isM h2 a (mS M 4 0) → q_out a 13 h h2 → P (-2) h2 z) (hk2 : ¬ M.1 3 = 0 → mgP M p = true → ∀ i, i < 24 → p = nI i → r_has (m_r M) i = true → ∀ j, j < 4 → r_op (m_r M) i 0 = nI j → ∀ h2 f, (∀ q, q < 12 → f q = r_ld (m_r M) i st q) → isM h2 a (mLr (mIr (mo_rem (mS M 4 0) n) 10 f) 1 (r_rel (m_r M) j w i st)) → q_out a 13 h h2 → P (r_lt (m_r M) i st) h2 z) : QMi V iX9_release [.ref a, .int p, .int st] h z P Kx := by
  have ho : q_out a 13 h h := q_out.refl
  refine eX9_release ?_
  refine wX9_release_0 ?_
  refine wX9_release_1 ?_
  refine wX9_release_2 ?_
  refine wX9_release_3 hM.c (mX9_isPlayer hM ?_)
  refine wX9_release_6 hM.c (mX9_isWrong hM rfl (fun hc h2 hM ho2 => ?_) (fun hl hg h2 hM ho2 => ?_))
  · refine wX9_release_9 (fun c => absurd c (by decide)) (fun _ => ?_)
    refine wX9_release_12 ?_
    refine wX9_release_13  ?_
    exact hw hc _ hM ho2
  · refine wX9_release_9 (fun _ => ?_) (fun c => absurd rfl c)
    have ho := ho.trans ho2
    have hO := hO hl
    have hP := hP hl
    obtain ⟨i, hi, rfl⟩ := mgP_of hO hg
    refine wX9_release_14 ?_
    refine wX9_release_15 ?_
    refine wX9_release_16 hM.c (mX9_hasContract hM hi ?_)
    refine wX9_release_19 (fun c19 => ?_) (fun c19 => ?_)
    · have hh1 : r_has (m_r M) i = true := q_b1 c19
      have hPi := hP i hi hh1
      obtain ⟨j, hj, ej⟩ : ∃ j, j < 4 ∧ r_op (m_r M) i 0 = nI j := by
        obtain ⟨j, c, g, l, hj, _, _, _, e0, _⟩ := hPi
        exact ⟨j, hj, e0⟩
      have hnw := hO.1.2
      have hw15 := hO.1.1
      refine wX9_release_25 ?_
      refine wX9_release_26 hM.c (mX9_remember hM hn hn10 (fun h2 hM ho2 => ?_))
      have ho := ho.trans ho2
      refine wX9_release_29 ?_
      refine wX9_release_30 ?_
      refine wX9_release_31 ?_
      refine wX9_release_32 hM.c (mX9_ofPlayer (w := 0) hM hi (by decide) ?_)
      rw [mo_rem_r, show r_op (m_r (mS M 4 0)) i 0 = nI j from ej]
      refine wX9_release_35 ?_
      refine wX9_release_36 ?_
      refine wX9_release_37 ?_
      refine wX9_release_38 ?_
      refine wX9_release_39 hM.c (mX9_layDead hM hi hPi (fun h2 f hf hM ho2 => ?_))
      have ho := ho.trans ho2
      refine wX9_release_42 ?_
      refine wX9_release_44 ?_
      refine wX9_release_45 ?_
      have hM : isM h2 a (mLr (mIr (mo_rem (mS M 4 0) n) 10 f) 1 (m_r M)) := hM.rr (mo_rem_r (M := mS M 4 0) (n := n))
      refine q_for (P := fun k => ∀ hh, isM hh a (mLr (mIr (mo_rem (mS M 4 0) n) 10 f) 1 (r_rla (m_r M) j w (r_ld (m_r M) i st) k)) → q_out a 13 h hh → QW V iX9_release 47 [some (.ref a), some (.int (nI i)), some (.int st), some (.int (nI j)), some (.int (r_lt (m_r M) i st)), some (.int (nI k))] [] hh z 0 0 (q_Ki P) Kx) 12 ?_ ?_ _ hM ho
      · intro hh hM ho
        refine wX9_release_47 ?_
        refine wX9_release_49 ?_
        refine wX9_release_51 (fun c51 => ?_) (fun c51 => absurd (by decide) c51)
        refine wX9_release_82 ?_
        refine wX9_release_83 ?_
        refine wX9_release_84 ?_
        refine wX9_release_85 ?_
        refine wX9_release_86 hM.c (mX9_putPlayer (w := 0) hM hi (by decide) (fun h2 hM ho2 => ?_))
        have ho := ho.trans ho2
        refine wX9_release_89 ?_
        refine wX9_release_90 ?_
        refine wX9_release_91 ?_
        refine wX9_release_92 ?_
        refine wX9_release_93 hM.c (mX9_putPlayer (w := 1) hM hi (by decide) (fun h2 hM ho2 => ?_))
        have ho := ho.trans ho2
        refine wX9_release_96 ?_
        refine wX9_release_97 ?_
        refine wX9_release_98 ?_
        refine wX9_release_99 ?_
        refine wX9_release_100 hM.c (mX9_putPlayer (w := 2) hM hi (by decide) (fun h2 hM ho2 => ?_))
        have ho := ho.trans ho2
        refine wX9_release_103 ?_
        refine wX9_release_105  ?_
        exact hk2 hl hg i hi rfl hh1 j hj ej _ f hf hM ho
      · intro k hkn ih hh hM ho
        refine wX9_release_47 ?_
        refine wX9_release_49 ?_
        refine wX9_release_51 (fun c51 => absurd c51 (nI_ge (b := 12) hkn (by decide))) (fun c51 => ?_)
        refine wX9_release_54 ?_
        refine wX9_release_55 ?_
        refine wX9_release_56 ?_
        refine wX9_release_57 ?_
        refine wX9_release_58 hM.c (mX9_now hM ?_)
        rw [show r_nw (m_r (mLr (mIr (mo_rem (mS M 4 0) n) 10 f) 1 (r_rla (m_r M) j w (r_ld (m_r M) i st) k))) = nI w from (r_rla_nw k).trans hnw]
        refine wX9_release_61 ?_
        refine wX9_release_62 ?_
        refine wX9_release_64 ?_
        rw [show (3 : Int32) + nI w + nI k = nI (3 + w + k) from by rw [show (3 : Int32) = nI 3 from rfl, nI_add, nI_add]]
        refine wX9_release_65 ?_
        refine wX9_release_66 hM.c ?_
        refine wX9_release_69 ?_
        refine wX9_release_71 hM.a10 rfl (show k < 12 from hkn) (by decide) ?_
        rw [show (mLr (mIr (mo_rem (mS M 4 0) n) 10 f) 1 (r_rla (m_r M) j w (r_ld (m_r M) i st) k)).2.2 10 k = r_ld (m_r M) i st k from hf k hkn]
        refine wX9_release_72 ?_
        refine wX9_release_73 hM.c (mX9_addTeam (w := 3 + w + k) hM hj (by omega) (fun h2 hM ho2 => ?_))
        have ho := ho.trans ho2
        refine wX9_release_76 ?_
        refine wX9_release_79 ?_
        refine q_ls ?_ (ih _ hM ho)
        rw [nI_1]
    · refine wX9_release_22 ?_
      refine wX9_release_24  ?_
      exact hk1 hl hg i hi rfl (q_b0 c19) _ hM ho
def r_nyt (M : q_Mo) (nb np w : Nat) (r : Nat → Int64) (k : Nat) : Int64 := r_tax (mLr M 1 r) nb np w k
def r_ny2 (r : Nat → Int64) (k : Nat) (x : Int64) : Nat → Int64 := ra r k 2 x
def r_ny3 (m : Nat → Int32) (r : Nat → Int64) (np w k : Nat) : Nat → Int64 := ra r k 1 (if r_ab m r np w k 0 ≤ 0 then 0 else (1 : Int64) <<< ((nI w).toInt64 &&& 63))
def r_ny4 (m : Nat → Int32) (r : Nat → Int64) (k : Nat) : Nat → Int64 := ra r k 0 ((m 11).toInt64 - r_ot r k 0)
def r_ny (M : q_Mo) (nb np w : Nat) : Nat → (Nat → Int64) × Int64
  | 0 => (m_r M, 0)
  | k + 1 => (r_ny4 M.1 (r_ny3 M.1 (r_ny2 (r_ny M nb np w k).1 k (r_nyt M nb np w (r_ny M nb np w k).1 k)) np w k) k, (r_ny M nb np w k).2 + r_nyt M nb np w (r_ny M nb np w k).1 k)
def r_w1 (r : Nat → Int64) : Nat → Int64 := vp_updL r 0 (r 0 + 1)
def r_eyp (r : Nat → Int64) (k : Nat) : Nat → Int64 := if r_yn (rp r k 2 (r_op r k 2 + 1)) k 0 = -1 then rp (rp r k 2 (r_op r k 2 + 1)) k 0 (-1) else rp r k 2 (r_op r k 2 + 1)
def r_ey (r : Nat → Int64) : Nat → Nat → Int64
  | 0 => r
  | k + 1 => if r_has (r_ey r k) k = true then r_eyp (r_ey r k) k else r_ey r k
theorem okM_ra {M : q_Mo} {r : Nat → Int64} {w nt np nb t u : Nat} {x : Int64} (hO : okM (mLr M 1 r) w nt np nb) : okM (mLr M 1 (ra r t u x)) w nt np nb :=
  okM_row hO ra_nw (ra_oo (by decide)) (fun p hp hh => by
    rw [ra_op hp (by decide)]
    refine hO.2.2.2.2.2 p hp ?_
    have h1 := of_decide_eq_true hh
    rw [ra_op hp (by decide)] at h1
    exact decide_eq_true h1)
theorem mX9_nextYear {a : Nat} {M : q_Mo} {n : Nat} {w nt np nb : Nat} {P : Int64 → q_H → Option Nat → Prop} (hM : isM h a M) (hO : ¬ M.1 3 = 0 → okM M w nt np nb) (hn : M.1 2 = nI n) (hn10 : n ≤ 10) (hw : M.1 3 = 0 ∨ (true) = false → ∀ h2, isM h2 a (mS M 4 (mo_th M (true))) → q_out a 13 h h2 → P 0 h2 z) (hk1 : ¬ M.1 3 = 0 → r_nw (m_r M) = 15 → ∀ h2, isM h2 a (mS M 4 0) → q_out a 13 h h2 → P (-2) h2 z) (hk2 : ¬ M.1 3 = 0 → ¬ r_nw (m_r M) = 15 → ∀ h2, isM h2 a (mLr (mo_rem (mS M 4 0) n) 1 (r_ey (r_w1 (r_ny (mo_rem (mS M 4 0) n) nb np w nt).1) np)) → q_out a 13 h h2 → P (r_ny (mo_rem (mS M 4 0) n) nb np w nt).2 h2 z) : QMl V iX9_nextYear [.ref a] h z P Kx := by
  have ho : q_out a 13 h h := q_out.refl
  by_cases hl0 : M.1 3 = 0
  · refine eX9_nextYear ?_
    refine wX9_nextYear_0 ?_
    refine wX9_nextYear_1 ?_
    refine wX9_nextYear_2 hM.c (mX9_isWrong (g := true) hM rfl (fun hc h2 hM ho2 => ?_) (fun hl hg h2 hM ho2 => absurd hl0 hl))
    refine wX9_nextYear_5 (fun c => absurd c (by decide)) (fun _ => ?_)
    refine wX9_nextYear_8 ?_
    refine wX9_nextYear_9  ?_
    exact hw hc _ hM ho2
  · have hO := hO hl0
    have hnt := hO.2.1.1
    have hnnt := hO.2.1.2
    have hnp := hO.2.2.1.1
    have hnnp := hO.2.2.1.2
    have hw15 := hO.1.1
    have hOn : ∀ k, okM (mLr (mo_rem (mS M 4 0) n) 1 (r_ny (mo_rem (mS M 4 0) n) nb np w k).1) w nt np nb := by
      intro k
      induction k with
      | zero => exact okM_i (okM_rem (okM_4 hO)) rfl
      | succ k ih =>
        rw [r_ny]
        exact okM_ra (okM_ra (okM_ra ih))
    refine eX9_nextYear ?_
    refine wX9_nextYear_0 ?_
    refine wX9_nextYear_1 ?_
    refine wX9_nextYear_2 hM.c (mX9_isWrong (g := true) hM rfl (fun hc h2 hM ho2 => ?_) (fun hl hg h2 hM ho2 => ?_))
    · refine wX9_nextYear_5 (fun c => absurd c (by decide)) (fun _ => ?_)
      refine wX9_nextYear_8 ?_
      refine wX9_nextYear_9  ?_
      exact hw hc _ hM ho2
    · refine wX9_nextYear_5 (fun _ => ?_) (fun c => absurd rfl c)
      have ho := ho.trans ho2
      have hj120 : ∀ hh, isM hh a (mLr (mo_rem (mS M 4 0) n) 1 (r_w1 (r_ny (mo_rem (mS M 4 0) n) nb np w nt).1)) → q_out a 13 h hh → ¬ r_nw (m_r M) = 15 → QW V iX9_nextYear 120 [some (.ref a), some (.long (r_ny (mo_rem (mS M 4 0) n) nb np w nt).2), none, some (.int (nI 0)), none, none] [] hh z 0 0 (q_Kl P) Kx := by
        intro hh hM ho h15
        refine q_for (P := fun k => ∀ hh, isM hh a (mLr (mo_rem (mS M 4 0) n) 1 (r_ey (r_w1 (r_ny (mo_rem (mS M 4 0) n) nb np w nt).1) k)) → q_out a 13 h hh → QW V iX9_nextYear 120 [some (.ref a), some (.long (r_ny (mo_rem (mS M 4 0) n) nb np w nt).2), none, some (.int (nI k)), none, none] [] hh z 0 0 (q_Kl P) Kx) np ?_ ?_ _ hM ho
        · intro hh hM ho
          refine wX9_nextYear_120 ?_
          refine wX9_nextYear_121 ?_
          refine wX9_nextYear_122 hM.c ?_
          refine wX9_nextYear_125 (fun c125 => ?_) (fun c125 => absurd (nI_leq hnnp (Nat.le_refl _) (by omega)) c125)
          refine wX9_nextYear_173 ?_
          refine wX9_nextYear_174  ?_
          exact hk2 hl h15 _ hM ho
        · intro k hkn ih hh hM ho
          have hk24 : k < 24 := by omega
          refine wX9_nextYear_120 ?_
          refine wX9_nextYear_121 ?_
          refine wX9_nextYear_122 hM.c ?_
          refine wX9_nextYear_125 (fun c125 => absurd c125 (nI_geq hnnp hkn (by omega))) (fun c125 => ?_)
          refine wX9_nextYear_128 ?_
          refine wX9_nextYear_129 ?_
          refine wX9_nextYear_130 hM.c (mX9_hasContract hM hk24 ?_)
          refine wX9_nextYear_133 (fun c133 => ?_) (fun c133 => ?_)
          · refine wX9_nextYear_167 ?_
            refine wX9_nextYear_170 ?_
            first
              | (have q9 : r_yn (rp (r_ey (r_w1 (r_ny (mo_rem (mS M 4 0) n) nb np w nt).1) k) k 2 (r_op (r_ey (r_w1 (r_ny (mo_rem (mS M 4 0) n) nb np w nt).1) k) k 2 + 1)) k 0 = -1 := c157; have q8 : r_has (r_ey (r_w1 (r_ny (mo_rem (mS M 4 0) n) nb np w nt).1) k) k = true := q_b1 c133
                 refine q_ls ?_ (ih _ (hM.e (congrArg (mLr _ 1) (show _ = r_ey (r_w1 (r_ny (mo_rem (mS M 4 0) n) nb np w nt).1) (k + 1) by rw [r_ey, if_pos q8, r_eyp, if_pos q9]; try rfl))) ho)
                 rw [nI_1])
              | (have q9 : ¬ r_yn (rp (r_ey (r_w1 (r_ny (mo_rem (mS M 4 0) n) nb np w nt).1) k) k 2 (r_op (r_ey (r_w1 (r_ny (mo_rem (mS M 4 0) n) nb np w nt).1) k) k 2 + 1)) k 0 = -1 := c157; have q8 : r_has (r_ey (r_w1 (r_ny (mo_rem (mS M 4 0) n) nb np w nt).1) k) k = true := q_b1 c133
                 refine q_ls ?_ (ih _ (hM.e (congrArg (mLr _ 1) (show _ = r_ey (r_w1 (r_ny (mo_rem (mS M 4 0) n) nb np w nt).1) (k + 1) by rw [r_ey, if_pos q8, r_eyp, if_neg q9]; try rfl))) ho)
                 rw [nI_1])
              | (have q8 : r_has (r_ey (r_w1 (r_ny (mo_rem (mS M 4 0) n) nb np w nt).1) k) k = false := q_b0 c133
                 refine q_ls ?_ (ih _ (hM.e (congrArg (mLr _ 1) (show _ = r_ey (r_w1 (r_ny (mo_rem (mS M 4 0) n) nb np w nt).1) (k + 1) by rw [r_ey, if_neg (by rw [q8]; decide)]))) ho)
                 rw [nI_1])
          · refine wX9_nextYear_136 ?_
            refine wX9_nextYear_137 ?_
            refine wX9_nextYear_138 ?_
            refine wX9_nextYear_139 ?_
            refine wX9_nextYear_140 ?_
            refine wX9_nextYear_141 ?_
            refine wX9_nextYear_142 hM.c (mX9_ofPlayer (w := 2) hM hk24 (by decide) ?_)
            refine wX9_nextYear_145 ?_
            refine wX9_nextYear_146 ?_
            refine wX9_nextYear_147 hM.c (mX9_putPlayer (w := 2) hM hk24 (by decide) (fun h2 hM ho2 => ?_))
            have ho := ho.trans ho2
            refine wX9_nextYear_150 ?_
            refine wX9_nextYear_151 ?_
            refine wX9_nextYear_152 ?_
            refine wX9_nextYear_153 hM.c (mX9_yearNumber hM hk24 ?_)
            refine wX9_nextYear_156 ?_
            refine wX9_nextYear_157 (fun c157 => ?_) (fun c157 => ?_)
            · refine wX9_nextYear_167 ?_
              refine wX9_nextYear_170 ?_
              first
                | (have q9 : r_yn (rp (r_ey (r_w1 (r_ny (mo_rem (mS M 4 0) n) nb np w nt).1) k) k 2 (r_op (r_ey (r_w1 (r_ny (mo_rem (mS M 4 0) n) nb np w nt).1) k) k 2 + 1)) k 0 = -1 := c157; have q8 : r_has (r_ey (r_w1 (r_ny (mo_rem (mS M 4 0) n) nb np w nt).1) k) k = true := q_b1 c133
                   refine q_ls ?_ (ih _ (hM.e (congrArg (mLr _ 1) (show _ = r_ey (r_w1 (r_ny (mo_rem (mS M 4 0) n) nb np w nt).1) (k + 1) by rw [r_ey, if_pos q8, r_eyp, if_pos q9]; try rfl))) ho)
                   rw [nI_1])
                | (have q9 : ¬ r_yn (rp (r_ey (r_w1 (r_ny (mo_rem (mS M 4 0) n) nb np w nt).1) k) k 2 (r_op (r_ey (r_w1 (r_ny (mo_rem (mS M 4 0) n) nb np w nt).1) k) k 2 + 1)) k 0 = -1 := c157; have q8 : r_has (r_ey (r_w1 (r_ny (mo_rem (mS M 4 0) n) nb np w nt).1) k) k = true := q_b1 c133
                   refine q_ls ?_ (ih _ (hM.e (congrArg (mLr _ 1) (show _ = r_ey (r_w1 (r_ny (mo_rem (mS M 4 0) n) nb np w nt).1) (k + 1) by rw [r_ey, if_pos q8, r_eyp, if_neg q9]; try rfl))) ho)
                   rw [nI_1])
                | (have q8 : r_has (r_ey (r_w1 (r_ny (mo_rem (mS M 4 0) n) nb np w nt).1) k) k = false := q_b0 c133
                   refine q_ls ?_ (ih _ (hM.e (congrArg (mLr _ 1) (show _ = r_ey (r_w1 (r_ny (mo_rem (mS M 4 0) n) nb np w nt).1) (k + 1) by rw [r_ey, if_neg (by rw [q8]; decide)]))) ho)
                   rw [nI_1])
            · refine wX9_nextYear_160 ?_
              refine wX9_nextYear_161 ?_
              refine wX9_nextYear_162 ?_
              refine wX9_nextYear_163 ?_
              refine wX9_nextYear_164 hM.c (mX9_putPlayer (w := 0) hM hk24 (by decide) (fun h2 hM ho2 => ?_))
              have ho := ho.trans ho2
              refine wX9_nextYear_167 ?_
              refine wX9_nextYear_170 ?_
              first
                | (have q9 : r_yn (rp (r_ey (r_w1 (r_ny (mo_rem (mS M 4 0) n) nb np w nt).1) k) k 2 (r_op (r_ey (r_w1 (r_ny (mo_rem (mS M 4 0) n) nb np w nt).1) k) k 2 + 1)) k 0 = -1 := c157; have q8 : r_has (r_ey (r_w1 (r_ny (mo_rem (mS M 4 0) n) nb np w nt).1) k) k = true := q_b1 c133
                   refine q_ls ?_ (ih _ (hM.e (congrArg (mLr _ 1) (show _ = r_ey (r_w1 (r_ny (mo_rem (mS M 4 0) n) nb np w nt).1) (k + 1) by rw [r_ey, if_pos q8, r_eyp, if_pos q9]; try rfl))) ho)
                   rw [nI_1])
                | (have q9 : ¬ r_yn (rp (r_ey (r_w1 (r_ny (mo_rem (mS M 4 0) n) nb np w nt).1) k) k 2 (r_op (r_ey (r_w1 (r_ny (mo_rem (mS M 4 0) n) nb np w nt).1) k) k 2 + 1)) k 0 = -1 := c157; have q8 : r_has (r_ey (r_w1 (r_ny (mo_rem (mS M 4 0) n) nb np w nt).1) k) k = true := q_b1 c133
                   refine q_ls ?_ (ih _ (hM.e (congrArg (mLr _ 1) (show _ = r_ey (r_w1 (r_ny (mo_rem (mS M 4 0) n) nb np w nt).1) (k + 1) by rw [r_ey, if_pos q8, r_eyp, if_neg q9]; try rfl))) ho)
                   rw [nI_1])
                | (have q8 : r_has (r_ey (r_w1 (r_ny (mo_rem (mS M 4 0) n) nb np w nt).1) k) k = false := q_b0 c133
                   refine q_ls ?_ (ih _ (hM.e (congrArg (mLr _ 1) (show _ = r_ey (r_w1 (r_ny (mo_rem (mS M 4 0) n) nb np w nt).1) (k + 1) by rw [r_ey, if_neg (by rw [q8]; decide)]))) ho)
                   rw [nI_1])
      refine wX9_nextYear_10 ?_
      refine wX9_nextYear_11 hM.c (mX9_now hM ?_)
      refine wX9_nextYear_14 ?_
      refine wX9_nextYear_16 (fun c16 => ?_) (fun c16 => ?_)
      · refine wX9_nextYear_23 ?_
        refine wX9_nextYear_24 hM.c (mX9_remember hM hn hn10 (fun h2 hM ho2 => ?_))
        have ho := ho.trans ho2
        have hM : isM h2 a (mLr (mo_rem (mS M 4 0) n) 1 (r_ny (mo_rem (mS M 4 0) n) nb np w 0).1) := hM.rr rfl
        refine wX9_nextYear_27 ?_
        refine wX9_nextYear_28 ?_
        refine wX9_nextYear_29 ?_
        refine wX9_nextYear_30 ?_
        refine q_for (P := fun k => ∀ hh, isM hh a (mLr (mo_rem (mS M 4 0) n) 1 (r_ny (mo_rem (mS M 4 0) n) nb np w k).1) → q_out a 13 h hh → QW V iX9_nextYear 31 [some (.ref a), some (.long (r_ny (mo_rem (mS M 4 0) n) nb np w k).2), none, some (.int (nI k)), none, none] [] hh z 0 0 (q_Kl P) Kx) nt ?_ ?_ _ hM ho
        · intro hh hM ho
          refine wX9_nextYear_31 ?_
          refine wX9_nextYear_32 ?_
          refine wX9_nextYear_33 hM.c ?_
          refine wX9_nextYear_36 (fun c36 => ?_) (fun c36 => absurd (nI_leq hnnt (Nat.le_refl _) (by omega)) c36)
          refine wX9_nextYear_108 ?_
          refine wX9_nextYear_109 hM.c ?_
          refine wX9_nextYear_112 ?_
          refine wX9_nextYear_113 ?_
          refine wX9_nextYear_114 hM.a1 (j := 0) rfl (by decide) (by decide) ?_
          refine wX9_nextYear_115 ?_
          refine wX9_nextYear_116 ?_
          refine wX9_nextYear_117 hM.a1 (j := 0) rfl (by decide) (by decide) ?_
          refine q_nL (k := 1) (by decide) hM ho (fun h2 hM ho => ?_)
          have hM := hM.e mLr_2
          refine wX9_nextYear_118 ?_
          refine wX9_nextYear_119 ?_
          exact hj120 _ hM ho c16
        · intro k hkn ih hh hM ho
          have hk4 : k < 4 := by omega
          have hOk := hOn k
          have hO2 : okM (mLr (mo_rem (mS M 4 0) n) 1 (r_ny2 (r_ny (mo_rem (mS M 4 0) n) nb np w k).1 k (r_nyt (mo_rem (mS M 4 0) n) nb np w (r_ny (mo_rem (mS M 4 0) n) nb np w k).1 k))) w nt np nb := okM_ra hOk
          have hj81 : ∀ hh, isM hh a (mLr (mo_rem (mS M 4 0) n) 1 (r_ny2 (r_ny (mo_rem (mS M 4 0) n) nb np w k).1 k (r_nyt (mo_rem (mS M 4 0) n) nb np w (r_ny (mo_rem (mS M 4 0) n) nb np w k).1 k))) → q_out a 13 h hh → ∀ xv : Int64, xv = (if r_ab (mo_rem (mS M 4 0) n).1 (r_ny2 (r_ny (mo_rem (mS M 4 0) n) nb np w k).1 k (r_nyt (mo_rem (mS M 4 0) n) nb np w (r_ny (mo_rem (mS M 4 0) n) nb np w k).1 k)) np w k 0 ≤ 0 then 0 else (1 : Int64) <<< ((nI w).toInt64 &&& 63)) → ∀ x4 : Int64, QW V iX9_nextYear 81 [some (.ref a), some (.long (r_ny (mo_rem (mS M 4 0) n) nb np w (k + 1)).2), none, some (.int (nI k)), some (.long x4), none] [.long xv, .int 1, .int (nI k), .ref a] hh z 0 0 (q_Kl P) Kx := by
            intro hh hM ho xv hxv x4
            subst hxv
            refine wX9_nextYear_81 hM.c (mX9_addTeam (w := 1) hM hk4 (by decide) (fun h2 hM ho2 => ?_))
            have ho := ho.trans ho2
            refine wX9_nextYear_84 ?_
            refine wX9_nextYear_85 ?_
            refine wX9_nextYear_86 ?_
            refine wX9_nextYear_87 ?_
            refine wX9_nextYear_88 hM.c ?_
            refine wX9_nextYear_91 ?_
            refine wX9_nextYear_92 ?_
            refine wX9_nextYear_93 ?_
            refine wX9_nextYear_94 ?_
            refine wX9_nextYear_95 hM.c (mX9_ofTeam (w := 0) hM hk4 (by decide) ?_)
            refine wX9_nextYear_98 ?_
            refine wX9_nextYear_99 hM.c (mX9_addTeam (w := 0) hM hk4 (by decide) (fun h2 hM ho2 => ?_))
            have ho := ho.trans ho2
            refine wX9_nextYear_102 ?_
            refine wX9_nextYear_105 ?_
            refine q_drp 4 (q_ls ?_ (ih _ hM ho))
            rw [nI_1]; try rfl
          refine wX9_nextYear_31 ?_
          refine wX9_nextYear_32 ?_
          refine wX9_nextYear_33 hM.c ?_
          refine wX9_nextYear_36 (fun c36 => absurd c36 (nI_geq hnnt hkn (by omega))) (fun c36 => ?_)
          refine wX9_nextYear_39 ?_
          refine wX9_nextYear_40 ?_
          refine wX9_nextYear_41 hM.c (mX9_taxOf hM hOk hk4 ?_)
          refine wX9_nextYear_44 ?_
          refine wX9_nextYear_46 ?_
          refine wX9_nextYear_47 ?_
          refine wX9_nextYear_48 ?_
          refine wX9_nextYear_49 ?_
          refine wX9_nextYear_51 hM.c (mX9_addTeam (w := 2) hM hk4 (by decide) (fun h2 hM ho2 => ?_))
          have ho := ho.trans ho2
          refine wX9_nextYear_54 ?_
          refine wX9_nextYear_55 ?_
          refine wX9_nextYear_57 ?_
          refine wX9_nextYear_58 ?_
          refine wX9_nextYear_59 ?_
          refine wX9_nextYear_60 ?_
          refine wX9_nextYear_61 ?_
          refine wX9_nextYear_62 ?_
          refine wX9_nextYear_63 ?_
          refine wX9_nextYear_64 ?_
          refine wX9_nextYear_65 hM.c (mX9_aboveLine (x := 0) hM hO2 hk4 (by decide) ?_)
          refine wX9_nextYear_68 (fun c68 => ?_) (fun c68 => ?_)
          · refine wX9_nextYear_80 ?_
            first
              | (have q9 : r_ab (mo_rem (mS M 4 0) n).1 (r_ny2 (r_ny (mo_rem (mS M 4 0) n) nb np w k).1 k (r_nyt (mo_rem (mS M 4 0) n) nb np w (r_ny (mo_rem (mS M 4 0) n) nb np w k).1 k)) np w k 0 ≤ 0 := c68; exact hj81 _ hM ho _ (by rw [if_pos q9]) _)
              | (have q9 : ¬ r_ab (mo_rem (mS M 4 0) n).1 (r_ny2 (r_ny (mo_rem (mS M 4 0) n) nb np w k).1 k (r_nyt (mo_rem (mS M 4 0) n) nb np w (r_ny (mo_rem (mS M 4 0) n) nb np w k).1 k)) np w k 0 ≤ 0 := c68; exact hj81 _ hM ho _ (by rw [if_neg q9]) _)
          · refine wX9_nextYear_71 ?_
            refine wX9_nextYear_72 ?_
            refine wX9_nextYear_73 hM.c (mX9_now hM ?_)
            rw [show r_nw (m_r (mLr (mo_rem (mS M 4 0) n) 1 (ra (r_ny (mo_rem (mS M 4 0) n) nb np w k).1 k 2 (r_tax (mLr (mo_rem (mS M 4 0) n) 1 (r_ny (mo_rem (mS M 4 0) n) nb np w k).1) nb np w k)))) = nI w from hO2.1.2]
            refine wX9_nextYear_76 ?_
            refine wX9_nextYear_77 ?_
            first
              | (have q9 : r_ab (mo_rem (mS M 4 0) n).1 (r_ny2 (r_ny (mo_rem (mS M 4 0) n) nb np w k).1 k (r_nyt (mo_rem (mS M 4 0) n) nb np w (r_ny (mo_rem (mS M 4 0) n) nb np w k).1 k)) np w k 0 ≤ 0 := c68; exact hj81 _ hM ho _ (by rw [if_pos q9]) _)
              | (have q9 : ¬ r_ab (mo_rem (mS M 4 0) n).1 (r_ny2 (r_ny (mo_rem (mS M 4 0) n) nb np w k).1 k (r_nyt (mo_rem (mS M 4 0) n) nb np w (r_ny (mo_rem (mS M 4 0) n) nb np w k).1 k)) np w k 0 ≤ 0 := c68; exact hj81 _ hM ho _ (by rw [if_neg q9]) _)
      · refine wX9_nextYear_19 ?_
        refine wX9_nextYear_22  ?_
        exact hk1 hl c16 _ hM ho
end CX9e
