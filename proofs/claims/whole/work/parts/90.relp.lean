/-! The law's wrappers: how the class answers, as an outcome -/
section RELP
variable {V : q_En} {h : q_H} {z : Option Nat} {Kx : q_KX}
theorem s_ok {h1 : q_H} {L o : Nat} {S' : q_Ls} {v : Int64} {f0 : Nat → Int64} {O : Int32 → Int64 → q_Ls → Prop} {P : Int32 → q_H → Option Nat → Prop} (hk : ∀ k v S' h2 f2 z2, O k v S' → isL h2 L S' → h2 o = some (.inl (2, 1, .inr (.inl f2))) → (k = 0 → f2 0 = v) → (∀ q, (q < L ∨ L + 741 ≤ q) → ¬ q = o → h2 q = h q) → P k h2 z2) (hO : O 0 v S') (hL : isL h1 L S') (hq : q_out L 741 h h1) (hoL : L + 741 ≤ o) : P 0 (q_up h1 o (.inl (2, 1, .inr (.inl (vp_updL f0 0 v))))) z :=
  hk 0 v S' _ (vp_updL f0 0 v) z hO (hL.o (q_out.up (a := o) (n := 1) (by omega) (by omega)) (Or.inl hoL)) q_up_s (fun _ => if_pos rfl) (fun q a1 a2 => (q_up_n a2).trans (hq q a1))
theorem s_no {L o : Nat} {S : q_Ls} {k : Int32} {f0 : Nat → Int64} {O : Int32 → Int64 → q_Ls → Prop} {P : Int32 → q_H → Option Nat → Prop} (hk : ∀ k v S' h2 f2 z2, O k v S' → isL h2 L S' → h2 o = some (.inl (2, 1, .inr (.inl f2))) → (k = 0 → f2 0 = v) → (∀ q, (q < L ∨ L + 741 ≤ q) → ¬ q = o → h2 q = h q) → P k h2 z2) (hO : O k 0 S) (h0 : ¬ k = 0) (hL : isL h L S) (ho : h o = some (.inl (2, 1, .inr (.inl f0)))) : P k h none :=
  hk k 0 S h f0 none hO hL ho (fun e => absurd e h0) (fun _ _ _ => rfl)
theorem sL_append {L o : Nat} {S : q_Ls} {b q1 l s g : Int32} {f0 : Nat → Int64} {P : Int32 → q_H → Option Nat → Prop} (hL : isL h L S) (hS : okL S) (ho : h o = some (.inl (2, 1, .inr (.inl f0)))) (hoL : L + 741 ≤ o) (hk : ∀ k v S' h2 f2 z2, o_append S b q1 l s g k v S' → isL h2 L S' → h2 o = some (.inl (2, 1, .inr (.inl f2))) → (k = 0 → f2 0 = v) → (∀ q, (q < L ∨ L + 741 ≤ q) → ¬ q = o → h2 q = h q) → P k h2 z2) : QMi V iL_append [.ref L, .int b, .int q1, .int l, .int s, .int g, .ref o] h z P Kx := by
  obtain ⟨X, hX⟩ := hL
  refine eL_append ?_
  refine wL_append_0 ?_
  refine wL_append_2 ?_
  refine wL_append_3 ?_
  refine wL_append_4 ?_
  refine wL_append_5 ?_
  refine wL_append_6 ?_
  refine wL_append_7 ?_
  refine wL_append_9 ?_
  refine wL_append_11 hX.c (mX8_append hX hS (fun g0 h1 hL1 hq1 => ?_) (fun g0 => ⟨rfl, fun q => ?_⟩))
  · refine wL_append_14 ?_
    refine wL_append_15 ((hq1 o (Or.inr hoL)).trans ho) (j := 0) rfl (by decide) (by decide) ?_
    refine wL_append_16 ?_
    refine wL_append_23 ?_
    refine wL_append_24  ?_
    exact s_ok hk (Or.inl ⟨g0, rfl, rfl, rfl⟩) (hL1) (hq1) hoL
  · refine wL_append_19 ?_
    refine wL_append_21 ?_
    refine wL_append_22  ?_
    exact s_no hk (Or.inr ⟨g0, rfl, rfl⟩) (by decide) ⟨X, hX⟩ ho
theorem sL_truncate {L o : Nat} {S : q_Ls} {x : Int32} {f0 : Nat → Int64} {P : Int32 → q_H → Option Nat → Prop} (hL : isL h L S) (hS : okL S) (ho : h o = some (.inl (2, 1, .inr (.inl f0)))) (hoL : L + 741 ≤ o) (hk : ∀ k v S' h2 f2 z2, o_truncate S x k v S' → isL h2 L S' → h2 o = some (.inl (2, 1, .inr (.inl f2))) → (k = 0 → f2 0 = v) → (∀ q, (q < L ∨ L + 741 ≤ q) → ¬ q = o → h2 q = h q) → P k h2 z2) : QMi V iL_truncate [.ref L, .int x, .ref o] h z P Kx := by
  obtain ⟨X, hX⟩ := hL
  refine eL_truncate ?_
  refine wL_truncate_0 ?_
  refine wL_truncate_1 ?_
  refine wL_truncate_2 ?_
  refine wL_truncate_3 ?_
  refine wL_truncate_4 hX.c (mX8_truncate hX hS (fun n hn e g0 h1 hL1 hq1 => ?_) (fun g0 => ⟨rfl, fun q => ?_⟩))
  · refine wL_truncate_7 ?_
    refine wL_truncate_8 ((hq1 o (Or.inr hoL)).trans ho) (j := 0) rfl (by decide) (by decide) ?_
    refine wL_truncate_9 ?_
    refine wL_truncate_15 ?_
    refine wL_truncate_16  ?_
    exact s_ok hk (Or.inl ⟨g0, n, hn, e, rfl, rfl, rfl⟩) (hL1) (hq1) hoL
  · refine wL_truncate_12 ?_
    refine wL_truncate_13 ?_
    refine wL_truncate_14  ?_
    exact s_no hk (Or.inr ⟨g0, rfl, rfl⟩) (by decide) ⟨X, hX⟩ ho
theorem sL_makeOffer {L o : Nat} {S : q_Ls} {b q1 l s g1 : Int32} {f0 : Nat → Int64} {P : Int32 → q_H → Option Nat → Prop} (hL : isL h L S) (hS : okL S) (ho : h o = some (.inl (2, 1, .inr (.inl f0)))) (hoL : L + 741 ≤ o) (hk : ∀ k v S' h2 f2 z2, o_makeOffer S b q1 l s g1 k v S' → isL h2 L S' → h2 o = some (.inl (2, 1, .inr (.inl f2))) → (k = 0 → f2 0 = v) → (∀ q, (q < L ∨ L + 741 ≤ q) → ¬ q = o → h2 q = h q) → P k h2 z2) : QMi V iL_makeOffer [.ref L, .int b, .int q1, .int l, .int s, .int g1, .ref o] h z P Kx := by
  obtain ⟨X, hX⟩ := hL
  refine eL_makeOffer ?_
  refine wL_makeOffer_0 ?_
  refine wL_makeOffer_2 ?_
  refine wL_makeOffer_3 ?_
  refine wL_makeOffer_4 ?_
  refine wL_makeOffer_5 ?_
  refine wL_makeOffer_6 ?_
  refine wL_makeOffer_7 ?_
  refine wL_makeOffer_9 ?_
  refine wL_makeOffer_11 hX.c (mX8_makeOffer hX hS (fun hl g h1 hL1 hq1 => ?_) (fun hl => Or.inl ⟨rfl, fun q => ?_⟩) (fun hl g => Or.inr ⟨rfl, fun q => ?_⟩))
  · refine wL_makeOffer_14 ?_
    refine wL_makeOffer_15 ((hq1 o (Or.inr hoL)).trans ho) (j := 0) rfl (by decide) (by decide) ?_
    refine wL_makeOffer_16 ?_
    refine wL_makeOffer_27 ?_
    refine wL_makeOffer_28  ?_
    exact s_ok hk (Or.inr (Or.inr ⟨hl, g, rfl, rfl, rfl⟩)) (hL1) (hq1) hoL
  · refine wL_makeOffer_19 ?_
    refine wL_makeOffer_21 ?_
    refine wL_makeOffer_22  ?_
    exact s_no hk (Or.inl ⟨hl, rfl, rfl⟩) (by decide) ⟨X, hX⟩ ho
  · refine wL_makeOffer_23 ?_
    refine wL_makeOffer_25 ?_
    refine wL_makeOffer_26  ?_
    exact s_no hk (Or.inr (Or.inl ⟨hl, g, rfl, rfl⟩)) (by decide) ⟨X, hX⟩ ho
theorem sL_sign {L o : Nat} {S : q_Ls} {t p x : Int32} {f0 : Nat → Int64} {P : Int32 → q_H → Option Nat → Prop} (hL : isL h L S) (hS : okL S) (ho : h o = some (.inl (2, 1, .inr (.inl f0)))) (hoL : L + 741 ≤ o) (hk : ∀ k v S' h2 f2 z2, o_sign S t p x k v S' → isL h2 L S' → h2 o = some (.inl (2, 1, .inr (.inl f2))) → (k = 0 → f2 0 = v) → (∀ q, (q < L ∨ L + 741 ≤ q) → ¬ q = o → h2 q = h q) → P k h2 z2) : QMi V iL_sign [.ref L, .int t, .int p, .int x, .ref o] h z P Kx := by
  obtain ⟨X, hX⟩ := hL
  refine eL_sign ?_
  refine wL_sign_0 ?_
  refine wL_sign_2 ?_
  refine wL_sign_3 ?_
  refine wL_sign_4 ?_
  refine wL_sign_5 ?_
  refine wL_sign_6 ?_
  refine wL_sign_7 hX.c (mX8_sign hX hS (fun hl g j i hj hi e e3 q0 => ?_) (fun hl g j i hj hi e e3 q0 h1 hL1 hq1 => ?_) (fun hl => Or.inl ⟨rfl, fun q => ?_⟩) (fun hl g => Or.inr ⟨rfl, fun q => ?_⟩))
  · refine wL_sign_10 ?_
    refine wL_sign_11 ho (j := 0) rfl (by decide) (by decide) ?_
    refine wL_sign_12 ?_
    refine wL_sign_23 ?_
    refine wL_sign_24  ?_
    exact s_ok hk (Or.inr (Or.inr ⟨hl, g, j, i, hj, hi, e, e3, rfl, Or.inl ⟨q0, rfl, rfl⟩⟩)) (⟨X, hX⟩) (q_out.refl) hoL
  · refine wL_sign_10 ?_
    refine wL_sign_11 ((hq1 o (Or.inr hoL)).trans ho) (j := 0) rfl (by decide) (by decide) ?_
    refine wL_sign_12 ?_
    refine wL_sign_23 ?_
    refine wL_sign_24  ?_
    exact s_ok hk (Or.inr (Or.inr ⟨hl, g, j, i, hj, hi, e, e3, rfl, Or.inr ⟨q0, rfl, rfl⟩⟩)) (hL1) (hq1) hoL
  · refine wL_sign_15 ?_
    refine wL_sign_17 ?_
    refine wL_sign_18  ?_
    exact s_no hk (Or.inl ⟨hl, rfl, rfl⟩) (by decide) ⟨X, hX⟩ ho
  · refine wL_sign_19 ?_
    refine wL_sign_21 ?_
    refine wL_sign_22  ?_
    exact s_no hk (Or.inr (Or.inl ⟨hl, g, rfl, rfl⟩)) (by decide) ⟨X, hX⟩ ho
theorem sL_release {L o : Nat} {S : q_Ls} {p st : Int32} {f0 : Nat → Int64} {P : Int32 → q_H → Option Nat → Prop} (hL : isL h L S) (hS : okL S) (htm : ∀ i, i < 24 → pl_has (b_p (ls_B S) i) = true → ∃ j, j < 4 ∧ p_t (b_p (ls_B S) i) = nI j) (ho : h o = some (.inl (2, 1, .inr (.inl f0)))) (hoL : L + 741 ≤ o) (hk : ∀ k v S' h2 f2 z2, o_release S p st k v S' → isL h2 L S' → h2 o = some (.inl (2, 1, .inr (.inl f2))) → (k = 0 → f2 0 = v) → (∀ q, (q < L ∨ L + 741 ≤ q) → ¬ q = o → h2 q = h q) → P k h2 z2) : QMi V iL_release [.ref L, .int p, .int st, .ref o] h z P Kx := by
  obtain ⟨X, hX⟩ := hL
  refine eL_release ?_
  refine wL_release_0 ?_
  refine wL_release_1 ?_
  refine wL_release_2 ?_
  refine wL_release_3 ?_
  refine wL_release_4 ?_
  refine wL_release_5 hX.c (mX8_release hX hS htm (fun hl g i hi e q0 => ?_) (fun hl g i j hi hj e q0 e3 h1 hL1 hq1 => ?_) (fun hl => Or.inl ⟨rfl, fun q => ?_⟩) (fun hl g => Or.inr ⟨rfl, fun q => ?_⟩))
  · refine wL_release_8 ?_
    refine wL_release_9 ho (j := 0) rfl (by decide) (by decide) ?_
    refine wL_release_10 ?_
    refine wL_release_21 ?_
    refine wL_release_22  ?_
    exact s_ok hk (Or.inr (Or.inr ⟨hl, g, i, hi, e, rfl, Or.inl ⟨q0, rfl, rfl⟩⟩)) (⟨X, hX⟩) (q_out.refl) hoL
  · refine wL_release_8 ?_
    refine wL_release_9 ((hq1 o (Or.inr hoL)).trans ho) (j := 0) rfl (by decide) (by decide) ?_
    refine wL_release_10 ?_
    refine wL_release_21 ?_
    refine wL_release_22  ?_
    exact s_ok hk (Or.inr (Or.inr ⟨hl, g, i, hi, e, rfl, Or.inr ⟨j, hj, q0, e3, rfl, rfl⟩⟩)) (hL1) (hq1) hoL
  · refine wL_release_13 ?_
    refine wL_release_15 ?_
    refine wL_release_16  ?_
    exact s_no hk (Or.inl ⟨hl, rfl, rfl⟩) (by decide) ⟨X, hX⟩ ho
  · refine wL_release_17 ?_
    refine wL_release_19 ?_
    refine wL_release_20  ?_
    exact s_no hk (Or.inr (Or.inl ⟨hl, g, rfl, rfl⟩)) (by decide) ⟨X, hX⟩ ho
theorem sL_trade {L o : Nat} {S : q_Ls} {t s u y : Int32} {f0 : Nat → Int64} {P : Int32 → q_H → Option Nat → Prop} (hL : isL h L S) (hS : okL S) (ho : h o = some (.inl (2, 1, .inr (.inl f0)))) (hoL : L + 741 ≤ o) (hk : ∀ k v S' h2 f2 z2, o_trade S t s u y k v S' → isL h2 L S' → h2 o = some (.inl (2, 1, .inr (.inl f2))) → (k = 0 → f2 0 = v) → (∀ q, (q < L ∨ L + 741 ≤ q) → ¬ q = o → h2 q = h q) → P k h2 z2) : QMi V iL_trade [.ref L, .int t, .int s, .int u, .int y, .ref o] h z P Kx := by
  obtain ⟨X, hX⟩ := hL
  refine eL_trade ?_
  refine wL_trade_0 ?_
  refine wL_trade_2 ?_
  refine wL_trade_3 ?_
  refine wL_trade_4 ?_
  refine wL_trade_5 ?_
  refine wL_trade_6 ?_
  refine wL_trade_7 ?_
  refine wL_trade_9 hX.c (mX8_trade hX hS (fun hl g j m hj hm e e3 q0 => ?_) (fun hl g j m hj hm e e3 q0 h1 hL1 hq1 => ?_) (fun hl => Or.inl ⟨rfl, fun q => ?_⟩) (fun hl g => Or.inr ⟨rfl, fun q => ?_⟩))
  · refine wL_trade_12 ?_
    refine wL_trade_13 ho (j := 0) rfl (by decide) (by decide) ?_
    refine wL_trade_14 ?_
    refine wL_trade_25 ?_
    refine wL_trade_26  ?_
    exact s_ok hk (Or.inr (Or.inr ⟨hl, g, j, m, hj, hm, e, e3, rfl, Or.inl ⟨q0, rfl, rfl⟩⟩)) (⟨X, hX⟩) (q_out.refl) hoL
  · refine wL_trade_12 ?_
    refine wL_trade_13 ((hq1 o (Or.inr hoL)).trans ho) (j := 0) rfl (by decide) (by decide) ?_
    refine wL_trade_14 ?_
    refine wL_trade_25 ?_
    refine wL_trade_26  ?_
    exact s_ok hk (Or.inr (Or.inr ⟨hl, g, j, m, hj, hm, e, e3, rfl, Or.inr ⟨q0, rfl, rfl⟩⟩)) (hL1) (hq1) hoL
  · refine wL_trade_17 ?_
    refine wL_trade_19 ?_
    refine wL_trade_20  ?_
    exact s_no hk (Or.inl ⟨hl, rfl, rfl⟩) (by decide) ⟨X, hX⟩ ho
  · refine wL_trade_21 ?_
    refine wL_trade_23 ?_
    refine wL_trade_24  ?_
    exact s_no hk (Or.inr (Or.inl ⟨hl, g, rfl, rfl⟩)) (by decide) ⟨X, hX⟩ ho
theorem sL_nextYear {L o : Nat} {S : q_Ls} {f0 : Nat → Int64} {P : Int32 → q_H → Option Nat → Prop} (hL : isL h L S) (hS : okL S) (ho : h o = some (.inl (2, 1, .inr (.inl f0)))) (hoL : L + 741 ≤ o) (hk : ∀ k v S' h2 f2 z2, o_nextYear S k v S' → isL h2 L S' → h2 o = some (.inl (2, 1, .inr (.inl f2))) → (k = 0 → f2 0 = v) → (∀ q, (q < L ∨ L + 741 ≤ q) → ¬ q = o → h2 q = h q) → P k h2 z2) : QMi V iL_nextYear [.ref L, .ref o] h z P Kx := by
  obtain ⟨X, hX⟩ := hL
  refine eL_nextYear ?_
  refine wL_nextYear_0 ?_
  refine wL_nextYear_1 ?_
  refine wL_nextYear_2 ?_
  refine wL_nextYear_3 hX.c (mX8_nextYear hX hS (fun hl q0 => ?_) (fun hl q0 n hn en h1 hL1 hq1 => ?_) (fun hl => ⟨rfl, fun q => ?_⟩))
  · refine wL_nextYear_6 ho (j := 0) rfl (by decide) (by decide) ?_
    refine wL_nextYear_7 ?_
    refine wL_nextYear_13 ?_
    refine wL_nextYear_14  ?_
    exact s_ok hk (Or.inr (Or.inr ⟨hl, rfl, rfl, Or.inl ⟨q0, rfl, rfl⟩⟩)) (⟨X, hX⟩) (q_out.refl) hoL
  · refine wL_nextYear_6 ((hq1 o (Or.inr hoL)).trans ho) (j := 0) rfl (by decide) (by decide) ?_
    refine wL_nextYear_7 ?_
    refine wL_nextYear_13 ?_
    refine wL_nextYear_14  ?_
    exact s_ok hk (Or.inr (Or.inr ⟨hl, rfl, rfl, Or.inr ⟨q0, n, hn, en, rfl, rfl⟩⟩)) (hL1) (hq1) hoL
  · refine wL_nextYear_10 ?_
    refine wL_nextYear_11 ?_
    refine wL_nextYear_12  ?_
    exact s_no hk (Or.inl ⟨hl, rfl, rfl⟩) (by decide) ⟨X, hX⟩ ho
theorem sL_undo {L o : Nat} {S : q_Ls} {f0 : Nat → Int64} {P : Int32 → q_H → Option Nat → Prop} (hL : isL h L S) (hS : okL S) (ho : h o = some (.inl (2, 1, .inr (.inl f0)))) (hoL : L + 741 ≤ o) (hk : ∀ k v S' h2 f2 z2, o_undo S k v S' → isL h2 L S' → h2 o = some (.inl (2, 1, .inr (.inl f2))) → (k = 0 → f2 0 = v) → (∀ q, (q < L ∨ L + 741 ≤ q) → ¬ q = o → h2 q = h q) → P k h2 z2) : QMi V iL_undo [.ref L, .ref o] h z P Kx := by
  obtain ⟨X, hX⟩ := hL
  refine eL_undo ?_
  refine wL_undo_0 ?_
  refine wL_undo_1 ?_
  refine wL_undo_2 ?_
  refine wL_undo_3 hX.c (mX8_undo hX hS (fun hl q0 => ?_) (fun hl q0 h1 hL1 hq1 => ?_) (fun hl => ⟨rfl, fun q => ?_⟩))
  · refine wL_undo_6 ?_
    refine wL_undo_7 ho (j := 0) rfl (by decide) (by decide) ?_
    refine wL_undo_8 ?_
    refine wL_undo_14 ?_
    refine wL_undo_15  ?_
    exact s_ok hk (Or.inr (Or.inr ⟨hl, rfl, rfl, Or.inl ⟨q0, rfl, rfl⟩⟩)) (⟨X, hX⟩) (q_out.refl) hoL
  · refine wL_undo_6 ?_
    refine wL_undo_7 ((hq1 o (Or.inr hoL)).trans ho) (j := 0) rfl (by decide) (by decide) ?_
    refine wL_undo_8 ?_
    refine wL_undo_14 ?_
    refine wL_undo_15  ?_
    exact s_ok hk (Or.inr (Or.inr ⟨hl, rfl, rfl, Or.inr ⟨q0, rfl, rfl⟩⟩)) (hL1) (hq1) hoL
  · refine wL_undo_11 ?_
    refine wL_undo_12 ?_
    refine wL_undo_13  ?_
    exact s_no hk (Or.inl ⟨hl, rfl, rfl⟩) (by decide) ⟨X, hX⟩ ho
theorem sL_year {L o : Nat} {S : q_Ls} {f0 : Nat → Int64} {P : Int32 → q_H → Option Nat → Prop} (hL : isL h L S) (hS : okL S) (ho : h o = some (.inl (2, 1, .inr (.inl f0)))) (hoL : L + 741 ≤ o) (hk : ∀ k v S' h2 f2 z2, o_year S k v S' → isL h2 L S' → h2 o = some (.inl (2, 1, .inr (.inl f2))) → (k = 0 → f2 0 = v) → (∀ q, (q < L ∨ L + 741 ≤ q) → ¬ q = o → h2 q = h q) → P k h2 z2) : QMi V iL_year [.ref L, .ref o] h z P Kx := by
  obtain ⟨X, hX⟩ := hL
  refine eL_year ?_
  refine wL_year_0 ?_
  refine wL_year_1 ?_
  refine wL_year_2 ?_
  refine wL_year_3 hX.c (mX8_year hX hS (fun hl => ?_) (fun hl => ⟨rfl, fun q => ?_⟩))
  · refine wL_year_6 ?_
    refine wL_year_7 ho (j := 0) rfl (by decide) (by decide) ?_
    refine wL_year_8 ?_
    refine wL_year_14 ?_
    refine wL_year_15  ?_
    exact s_ok hk (Or.inr (Or.inr ⟨hl, rfl, rfl, rfl, rfl⟩)) (⟨X, hX⟩) (q_out.refl) hoL
  · refine wL_year_11 ?_
    refine wL_year_12 ?_
    refine wL_year_13  ?_
    exact s_no hk (Or.inl ⟨hl, rfl, rfl⟩) (by decide) ⟨X, hX⟩ ho
theorem sL_cap {L o : Nat} {S : q_Ls} {x : Int32} {f0 : Nat → Int64} {P : Int32 → q_H → Option Nat → Prop} (hL : isL h L S) (hS : okL S) (ho : h o = some (.inl (2, 1, .inr (.inl f0)))) (hoL : L + 741 ≤ o) (hk : ∀ k v S' h2 f2 z2, o_cap S x k v S' → isL h2 L S' → h2 o = some (.inl (2, 1, .inr (.inl f2))) → (k = 0 → f2 0 = v) → (∀ q, (q < L ∨ L + 741 ≤ q) → ¬ q = o → h2 q = h q) → P k h2 z2) : QMi V iL_cap [.ref L, .int x, .ref o] h z P Kx := by
  obtain ⟨X, hX⟩ := hL
  refine eL_cap ?_
  refine wL_cap_0 ?_
  refine wL_cap_1 ?_
  refine wL_cap_2 ?_
  refine wL_cap_3 ?_
  refine wL_cap_4 hX.c (mX8_cap hX hS (fun hl g => ?_) (fun hl => Or.inl ⟨rfl, fun q => ?_⟩) (fun hl g => Or.inr ⟨rfl, fun q => ?_⟩))
  · refine wL_cap_7 ?_
    refine wL_cap_8 ho (j := 0) rfl (by decide) (by decide) ?_
    refine wL_cap_9 ?_
    refine wL_cap_18 ?_
    refine wL_cap_19  ?_
    exact s_ok hk (Or.inr (Or.inr ⟨hl, g, rfl, rfl, rfl⟩)) (⟨X, hX⟩) (q_out.refl) hoL
  · refine wL_cap_12 ?_
    refine wL_cap_13 ?_
    refine wL_cap_14  ?_
    exact s_no hk (Or.inl ⟨hl, rfl, rfl⟩) (by decide) ⟨X, hX⟩ ho
  · refine wL_cap_15 ?_
    refine wL_cap_16 ?_
    refine wL_cap_17  ?_
    exact s_no hk (Or.inr (Or.inl ⟨hl, g, rfl, rfl⟩)) (by decide) ⟨X, hX⟩ ho
theorem sL_taxLine {L o : Nat} {S : q_Ls} {x : Int32} {f0 : Nat → Int64} {P : Int32 → q_H → Option Nat → Prop} (hL : isL h L S) (hS : okL S) (ho : h o = some (.inl (2, 1, .inr (.inl f0)))) (hoL : L + 741 ≤ o) (hk : ∀ k v S' h2 f2 z2, o_taxLine S x k v S' → isL h2 L S' → h2 o = some (.inl (2, 1, .inr (.inl f2))) → (k = 0 → f2 0 = v) → (∀ q, (q < L ∨ L + 741 ≤ q) → ¬ q = o → h2 q = h q) → P k h2 z2) : QMi V iL_taxLine [.ref L, .int x, .ref o] h z P Kx := by
  obtain ⟨X, hX⟩ := hL
  refine eL_taxLine ?_
  refine wL_taxLine_0 ?_
  refine wL_taxLine_1 ?_
  refine wL_taxLine_2 ?_
  refine wL_taxLine_3 ?_
  refine wL_taxLine_4 hX.c (mX8_taxLine hX hS (fun hl g => ?_) (fun hl => Or.inl ⟨rfl, fun q => ?_⟩) (fun hl g => Or.inr ⟨rfl, fun q => ?_⟩))
  · refine wL_taxLine_7 ?_
    refine wL_taxLine_8 ho (j := 0) rfl (by decide) (by decide) ?_
    refine wL_taxLine_9 ?_
    refine wL_taxLine_18 ?_
    refine wL_taxLine_19  ?_
    exact s_ok hk (Or.inr (Or.inr ⟨hl, g, rfl, rfl, rfl⟩)) (⟨X, hX⟩) (q_out.refl) hoL
  · refine wL_taxLine_12 ?_
    refine wL_taxLine_13 ?_
    refine wL_taxLine_14  ?_
    exact s_no hk (Or.inl ⟨hl, rfl, rfl⟩) (by decide) ⟨X, hX⟩ ho
  · refine wL_taxLine_15 ?_
    refine wL_taxLine_16 ?_
    refine wL_taxLine_17  ?_
    exact s_no hk (Or.inr (Or.inl ⟨hl, g, rfl, rfl⟩)) (by decide) ⟨X, hX⟩ ho
theorem sL_offer {L o : Nat} {S : q_Ls} {x : Int32} {f0 : Nat → Int64} {P : Int32 → q_H → Option Nat → Prop} (hL : isL h L S) (hS : okL S) (ho : h o = some (.inl (2, 1, .inr (.inl f0)))) (hoL : L + 741 ≤ o) (hk : ∀ k v S' h2 f2 z2, o_offer S x k v S' → isL h2 L S' → h2 o = some (.inl (2, 1, .inr (.inl f2))) → (k = 0 → f2 0 = v) → (∀ q, (q < L ∨ L + 741 ≤ q) → ¬ q = o → h2 q = h q) → P k h2 z2) : QMi V iL_offer [.ref L, .int x, .ref o] h z P Kx := by
  obtain ⟨X, hX⟩ := hL
  refine eL_offer ?_
  refine wL_offer_0 ?_
  refine wL_offer_1 ?_
  refine wL_offer_2 ?_
  refine wL_offer_3 ?_
  refine wL_offer_4 hX.c (mX8_offer hX hS (fun hl g => ?_) (fun hl => Or.inl ⟨rfl, fun q => ?_⟩) (fun hl g => Or.inr ⟨rfl, fun q => ?_⟩))
  · refine wL_offer_7 ?_
    refine wL_offer_8 ho (j := 0) rfl (by decide) (by decide) ?_
    refine wL_offer_9 ?_
    refine wL_offer_18 ?_
    refine wL_offer_19  ?_
    exact s_ok hk (Or.inr (Or.inr ⟨hl, g, rfl, rfl, rfl⟩)) (⟨X, hX⟩) (q_out.refl) hoL
  · refine wL_offer_12 ?_
    refine wL_offer_13 ?_
    refine wL_offer_14  ?_
    exact s_no hk (Or.inl ⟨hl, rfl, rfl⟩) (by decide) ⟨X, hX⟩ ho
  · refine wL_offer_15 ?_
    refine wL_offer_16 ?_
    refine wL_offer_17  ?_
    exact s_no hk (Or.inr (Or.inl ⟨hl, g, rfl, rfl⟩)) (by decide) ⟨X, hX⟩ ho
theorem sL_charge {L o : Nat} {S : q_Ls} {t x : Int32} {f0 : Nat → Int64} {P : Int32 → q_H → Option Nat → Prop} (hL : isL h L S) (hS : okL S) (ho : h o = some (.inl (2, 1, .inr (.inl f0)))) (hoL : L + 741 ≤ o) (hk : ∀ k v S' h2 f2 z2, o_charge S t x k v S' → isL h2 L S' → h2 o = some (.inl (2, 1, .inr (.inl f2))) → (k = 0 → f2 0 = v) → (∀ q, (q < L ∨ L + 741 ≤ q) → ¬ q = o → h2 q = h q) → P k h2 z2) : QMi V iL_charge [.ref L, .int t, .int x, .ref o] h z P Kx := by
  obtain ⟨X, hX⟩ := hL
  refine eL_charge ?_
  refine wL_charge_0 ?_
  refine wL_charge_1 ?_
  refine wL_charge_2 ?_
  refine wL_charge_3 ?_
  refine wL_charge_4 ?_
  refine wL_charge_5 hX.c (mX8_charge hX hS (fun hl g j hj e => ?_) (fun hl => Or.inl ⟨rfl, fun q => ?_⟩) (fun hl g => Or.inr ⟨rfl, fun q => ?_⟩))
  · refine wL_charge_8 ?_
    refine wL_charge_9 ho (j := 0) rfl (by decide) (by decide) ?_
    refine wL_charge_10 ?_
    refine wL_charge_21 ?_
    refine wL_charge_22  ?_
    exact s_ok hk (Or.inr (Or.inr ⟨hl, g, rfl, rfl, j, hj, e, rfl⟩)) (⟨X, hX⟩) (q_out.refl) hoL
  · refine wL_charge_13 ?_
    refine wL_charge_15 ?_
    refine wL_charge_16  ?_
    exact s_no hk (Or.inl ⟨hl, rfl, rfl⟩) (by decide) ⟨X, hX⟩ ho
  · refine wL_charge_17 ?_
    refine wL_charge_19 ?_
    refine wL_charge_20  ?_
    exact s_no hk (Or.inr (Or.inl ⟨hl, g, rfl, rfl⟩)) (by decide) ⟨X, hX⟩ ho
theorem sL_deadMoney {L o : Nat} {S : q_Ls} {t x : Int32} {f0 : Nat → Int64} {P : Int32 → q_H → Option Nat → Prop} (hL : isL h L S) (hS : okL S) (ho : h o = some (.inl (2, 1, .inr (.inl f0)))) (hoL : L + 741 ≤ o) (hk : ∀ k v S' h2 f2 z2, o_deadMoney S t x k v S' → isL h2 L S' → h2 o = some (.inl (2, 1, .inr (.inl f2))) → (k = 0 → f2 0 = v) → (∀ q, (q < L ∨ L + 741 ≤ q) → ¬ q = o → h2 q = h q) → P k h2 z2) : QMi V iL_deadMoney [.ref L, .int t, .int x, .ref o] h z P Kx := by
  obtain ⟨X, hX⟩ := hL
  refine eL_deadMoney ?_
  refine wL_deadMoney_0 ?_
  refine wL_deadMoney_1 ?_
  refine wL_deadMoney_2 ?_
  refine wL_deadMoney_3 ?_
  refine wL_deadMoney_4 ?_
  refine wL_deadMoney_5 hX.c (mX8_deadMoney hX hS (fun hl g j hj e => ?_) (fun hl => Or.inl ⟨rfl, fun q => ?_⟩) (fun hl g => Or.inr ⟨rfl, fun q => ?_⟩))
  · refine wL_deadMoney_8 ?_
    refine wL_deadMoney_9 ho (j := 0) rfl (by decide) (by decide) ?_
    refine wL_deadMoney_10 ?_
    refine wL_deadMoney_21 ?_
    refine wL_deadMoney_22  ?_
    exact s_ok hk (Or.inr (Or.inr ⟨hl, g, rfl, rfl, j, hj, e, rfl⟩)) (⟨X, hX⟩) (q_out.refl) hoL
  · refine wL_deadMoney_13 ?_
    refine wL_deadMoney_15 ?_
    refine wL_deadMoney_16  ?_
    exact s_no hk (Or.inl ⟨hl, rfl, rfl⟩) (by decide) ⟨X, hX⟩ ho
  · refine wL_deadMoney_17 ?_
    refine wL_deadMoney_19 ?_
    refine wL_deadMoney_20  ?_
    exact s_no hk (Or.inr (Or.inl ⟨hl, g, rfl, rfl⟩)) (by decide) ⟨X, hX⟩ ho
theorem sL_room {L o : Nat} {S : q_Ls} {t : Int32} {f0 : Nat → Int64} {P : Int32 → q_H → Option Nat → Prop} (hL : isL h L S) (hS : okL S) (ho : h o = some (.inl (2, 1, .inr (.inl f0)))) (hoL : L + 741 ≤ o) (hk : ∀ k v S' h2 f2 z2, o_room S t k v S' → isL h2 L S' → h2 o = some (.inl (2, 1, .inr (.inl f2))) → (k = 0 → f2 0 = v) → (∀ q, (q < L ∨ L + 741 ≤ q) → ¬ q = o → h2 q = h q) → P k h2 z2) : QMi V iL_room [.ref L, .int t, .ref o] h z P Kx := by
  obtain ⟨X, hX⟩ := hL
  refine eL_room ?_
  refine wL_room_0 ?_
  refine wL_room_1 ?_
  refine wL_room_2 ?_
  refine wL_room_3 ?_
  refine wL_room_4 hX.c (mX8_room hX hS (fun hl g j hj e => ?_) (fun hl => Or.inl ⟨rfl, fun q => ?_⟩) (fun hl g => Or.inr ⟨rfl, fun q => ?_⟩))
  · refine wL_room_7 ?_
    refine wL_room_8 ho (j := 0) rfl (by decide) (by decide) ?_
    refine wL_room_9 ?_
    refine wL_room_18 ?_
    refine wL_room_19  ?_
    exact s_ok hk (Or.inr (Or.inr ⟨hl, g, rfl, rfl, j, hj, e, rfl⟩)) (⟨X, hX⟩) (q_out.refl) hoL
  · refine wL_room_12 ?_
    refine wL_room_13 ?_
    refine wL_room_14  ?_
    exact s_no hk (Or.inl ⟨hl, rfl, rfl⟩) (by decide) ⟨X, hX⟩ ho
  · refine wL_room_15 ?_
    refine wL_room_16 ?_
    refine wL_room_17  ?_
    exact s_no hk (Or.inr (Or.inl ⟨hl, g, rfl, rfl⟩)) (by decide) ⟨X, hX⟩ ho
theorem sL_tax {L o : Nat} {S : q_Ls} {t : Int32} {f0 : Nat → Int64} {P : Int32 → q_H → Option Nat → Prop} (hL : isL h L S) (hS : okL S) (ho : h o = some (.inl (2, 1, .inr (.inl f0)))) (hoL : L + 741 ≤ o) (hk : ∀ k v S' h2 f2 z2, o_tax S t k v S' → isL h2 L S' → h2 o = some (.inl (2, 1, .inr (.inl f2))) → (k = 0 → f2 0 = v) → (∀ q, (q < L ∨ L + 741 ≤ q) → ¬ q = o → h2 q = h q) → P k h2 z2) : QMi V iL_tax [.ref L, .int t, .ref o] h z P Kx := by
  obtain ⟨X, hX⟩ := hL
  refine eL_tax ?_
  refine wL_tax_0 ?_
  refine wL_tax_1 ?_
  refine wL_tax_2 ?_
  refine wL_tax_3 ?_
  refine wL_tax_4 hX.c (mX8_tax hX hS (fun hl g j hj e => ?_) (fun hl => Or.inl ⟨rfl, fun q => ?_⟩) (fun hl g => Or.inr ⟨rfl, fun q => ?_⟩))
  · refine wL_tax_7 ho (j := 0) rfl (by decide) (by decide) ?_
    refine wL_tax_8 ?_
    refine wL_tax_17 ?_
    refine wL_tax_18  ?_
    exact s_ok hk (Or.inr (Or.inr ⟨hl, g, rfl, rfl, j, hj, e, rfl⟩)) (⟨X, hX⟩) (q_out.refl) hoL
  · refine wL_tax_11 ?_
    refine wL_tax_12 ?_
    refine wL_tax_13  ?_
    exact s_no hk (Or.inl ⟨hl, rfl, rfl⟩) (by decide) ⟨X, hX⟩ ho
  · refine wL_tax_14 ?_
    refine wL_tax_15 ?_
    refine wL_tax_16  ?_
    exact s_no hk (Or.inr (Or.inl ⟨hl, g, rfl, rfl⟩)) (by decide) ⟨X, hX⟩ ho
theorem sL_paid {L o : Nat} {S : q_Ls} {t : Int32} {f0 : Nat → Int64} {P : Int32 → q_H → Option Nat → Prop} (hL : isL h L S) (hS : okL S) (ho : h o = some (.inl (2, 1, .inr (.inl f0)))) (hoL : L + 741 ≤ o) (hk : ∀ k v S' h2 f2 z2, o_paid S t k v S' → isL h2 L S' → h2 o = some (.inl (2, 1, .inr (.inl f2))) → (k = 0 → f2 0 = v) → (∀ q, (q < L ∨ L + 741 ≤ q) → ¬ q = o → h2 q = h q) → P k h2 z2) : QMi V iL_paid [.ref L, .int t, .ref o] h z P Kx := by
  obtain ⟨X, hX⟩ := hL
  refine eL_paid ?_
  refine wL_paid_0 ?_
  refine wL_paid_1 ?_
  refine wL_paid_2 ?_
  refine wL_paid_3 ?_
  refine wL_paid_4 hX.c (mX8_paid hX hS (fun hl g j hj e => ?_) (fun hl => Or.inl ⟨rfl, fun q => ?_⟩) (fun hl g => Or.inr ⟨rfl, fun q => ?_⟩))
  · refine wL_paid_7 ho (j := 0) rfl (by decide) (by decide) ?_
    refine wL_paid_8 ?_
    refine wL_paid_17 ?_
    refine wL_paid_18  ?_
    exact s_ok hk (Or.inr (Or.inr ⟨hl, g, rfl, rfl, j, hj, e, rfl⟩)) (⟨X, hX⟩) (q_out.refl) hoL
  · refine wL_paid_11 ?_
    refine wL_paid_12 ?_
    refine wL_paid_13  ?_
    exact s_no hk (Or.inl ⟨hl, rfl, rfl⟩) (by decide) ⟨X, hX⟩ ho
  · refine wL_paid_14 ?_
    refine wL_paid_15 ?_
    refine wL_paid_16  ?_
    exact s_no hk (Or.inr (Or.inl ⟨hl, g, rfl, rfl⟩)) (by decide) ⟨X, hX⟩ ho
theorem sL_taxedYears {L o : Nat} {S : q_Ls} {t : Int32} {f0 : Nat → Int64} {P : Int32 → q_H → Option Nat → Prop} (hL : isL h L S) (hS : okL S) (ho : h o = some (.inl (2, 1, .inr (.inl f0)))) (hoL : L + 741 ≤ o) (hk : ∀ k v S' h2 f2 z2, o_taxedYears S t k v S' → isL h2 L S' → h2 o = some (.inl (2, 1, .inr (.inl f2))) → (k = 0 → f2 0 = v) → (∀ q, (q < L ∨ L + 741 ≤ q) → ¬ q = o → h2 q = h q) → P k h2 z2) : QMi V iL_taxedYears [.ref L, .int t, .ref o] h z P Kx := by
  obtain ⟨X, hX⟩ := hL
  refine eL_taxedYears ?_
  refine wL_taxedYears_0 ?_
  refine wL_taxedYears_1 ?_
  refine wL_taxedYears_2 ?_
  refine wL_taxedYears_3 ?_
  refine wL_taxedYears_4 hX.c (mX8_taxedYears hX hS (fun hl g j hj e => ?_) (fun hl => Or.inl ⟨rfl, fun q => ?_⟩) (fun hl g => Or.inr ⟨rfl, fun q => ?_⟩))
  · refine wL_taxedYears_7 ?_
    refine wL_taxedYears_8 ho (j := 0) rfl (by decide) (by decide) ?_
    refine wL_taxedYears_9 ?_
    refine wL_taxedYears_18 ?_
    refine wL_taxedYears_19  ?_
    exact s_ok hk (Or.inr (Or.inr ⟨hl, g, rfl, rfl, j, hj, e, rfl⟩)) (⟨X, hX⟩) (q_out.refl) hoL
  · refine wL_taxedYears_12 ?_
    refine wL_taxedYears_13 ?_
    refine wL_taxedYears_14  ?_
    exact s_no hk (Or.inl ⟨hl, rfl, rfl⟩) (by decide) ⟨X, hX⟩ ho
  · refine wL_taxedYears_15 ?_
    refine wL_taxedYears_16 ?_
    refine wL_taxedYears_17  ?_
    exact s_no hk (Or.inr (Or.inl ⟨hl, g, rfl, rfl⟩)) (by decide) ⟨X, hX⟩ ho
theorem sL_midLevel {L o : Nat} {S : q_Ls} {t : Int32} {f0 : Nat → Int64} {P : Int32 → q_H → Option Nat → Prop} (hL : isL h L S) (hS : okL S) (ho : h o = some (.inl (2, 1, .inr (.inl f0)))) (hoL : L + 741 ≤ o) (hk : ∀ k v S' h2 f2 z2, o_midLevel S t k v S' → isL h2 L S' → h2 o = some (.inl (2, 1, .inr (.inl f2))) → (k = 0 → f2 0 = v) → (∀ q, (q < L ∨ L + 741 ≤ q) → ¬ q = o → h2 q = h q) → P k h2 z2) : QMi V iL_midLevel [.ref L, .int t, .ref o] h z P Kx := by
  obtain ⟨X, hX⟩ := hL
  refine eL_midLevel ?_
  refine wL_midLevel_0 ?_
  refine wL_midLevel_1 ?_
  refine wL_midLevel_2 ?_
  refine wL_midLevel_3 ?_
  refine wL_midLevel_4 hX.c (mX8_midLevel hX hS (fun hl g j hj e => ?_) (fun hl => Or.inl ⟨rfl, fun q => ?_⟩) (fun hl g => Or.inr ⟨rfl, fun q => ?_⟩))
  · refine wL_midLevel_7 ?_
    refine wL_midLevel_8 ho (j := 0) rfl (by decide) (by decide) ?_
    refine wL_midLevel_9 ?_
    refine wL_midLevel_18 ?_
    refine wL_midLevel_19  ?_
    exact s_ok hk (Or.inr (Or.inr ⟨hl, g, rfl, rfl, j, hj, e, rfl⟩)) (⟨X, hX⟩) (q_out.refl) hoL
  · refine wL_midLevel_12 ?_
    refine wL_midLevel_13 ?_
    refine wL_midLevel_14  ?_
    exact s_no hk (Or.inl ⟨hl, rfl, rfl⟩) (by decide) ⟨X, hX⟩ ho
  · refine wL_midLevel_15 ?_
    refine wL_midLevel_16 ?_
    refine wL_midLevel_17  ?_
    exact s_no hk (Or.inr (Or.inl ⟨hl, g, rfl, rfl⟩)) (by decide) ⟨X, hX⟩ ho
theorem sL_roster {L o : Nat} {S : q_Ls} {t : Int32} {f0 : Nat → Int64} {P : Int32 → q_H → Option Nat → Prop} (hL : isL h L S) (hS : okL S) (ho : h o = some (.inl (2, 1, .inr (.inl f0)))) (hoL : L + 741 ≤ o) (hk : ∀ k v S' h2 f2 z2, o_roster S t k v S' → isL h2 L S' → h2 o = some (.inl (2, 1, .inr (.inl f2))) → (k = 0 → f2 0 = v) → (∀ q, (q < L ∨ L + 741 ≤ q) → ¬ q = o → h2 q = h q) → P k h2 z2) : QMi V iL_roster [.ref L, .int t, .ref o] h z P Kx := by
  obtain ⟨X, hX⟩ := hL
  refine eL_roster ?_
  refine wL_roster_0 ?_
  refine wL_roster_1 ?_
  refine wL_roster_2 ?_
  refine wL_roster_3 ?_
  refine wL_roster_4 hX.c (mX8_roster hX hS (fun hl g j hj e => ?_) (fun hl => Or.inl ⟨rfl, fun q => ?_⟩) (fun hl g => Or.inr ⟨rfl, fun q => ?_⟩))
  · refine wL_roster_7 ?_
    refine wL_roster_8 ho (j := 0) rfl (by decide) (by decide) ?_
    refine wL_roster_9 ?_
    refine wL_roster_18 ?_
    refine wL_roster_19  ?_
    exact s_ok hk (Or.inr (Or.inr ⟨hl, g, rfl, rfl, j, hj, e, rfl⟩)) (⟨X, hX⟩) (q_out.refl) hoL
  · refine wL_roster_12 ?_
    refine wL_roster_13 ?_
    refine wL_roster_14  ?_
    exact s_no hk (Or.inl ⟨hl, rfl, rfl⟩) (by decide) ⟨X, hX⟩ ho
  · refine wL_roster_15 ?_
    refine wL_roster_16 ?_
    refine wL_roster_17  ?_
    exact s_no hk (Or.inr (Or.inl ⟨hl, g, rfl, rfl⟩)) (by decide) ⟨X, hX⟩ ho
theorem sL_teamRank {L o : Nat} {S : q_Ls} {x y : Int32} {f0 : Nat → Int64} {P : Int32 → q_H → Option Nat → Prop} (hL : isL h L S) (hS : okL S) (ho : h o = some (.inl (2, 1, .inr (.inl f0)))) (hoL : L + 741 ≤ o) (hk : ∀ k v S' h2 f2 z2, o_teamRank S x y k v S' → isL h2 L S' → h2 o = some (.inl (2, 1, .inr (.inl f2))) → (k = 0 → f2 0 = v) → (∀ q, (q < L ∨ L + 741 ≤ q) → ¬ q = o → h2 q = h q) → P k h2 z2) : QMi V iL_teamRank [.ref L, .int x, .int y, .ref o] h z P Kx := by
  obtain ⟨X, hX⟩ := hL
  refine eL_teamRank ?_
  refine wL_teamRank_0 ?_
  refine wL_teamRank_1 ?_
  refine wL_teamRank_2 ?_
  refine wL_teamRank_3 ?_
  refine wL_teamRank_4 ?_
  refine wL_teamRank_5 hX.c (mX8_teamRank hX hS (fun hl g n hn en t ht q0 q2 => ?_) (fun hl => Or.inl ⟨rfl, fun q => ?_⟩) (fun hl g => Or.inr (Or.inl ⟨rfl, fun q => ?_⟩)) (fun hl g n hn en q0 => Or.inr (Or.inr ⟨rfl, fun q => ?_⟩)))
  · refine wL_teamRank_8 ?_
    refine wL_teamRank_9 ho (j := 0) rfl (by decide) (by decide) ?_
    refine wL_teamRank_10 ?_
    refine wL_teamRank_25 ?_
    refine wL_teamRank_26  ?_
    exact s_ok hk (Or.inr (Or.inr ⟨hl, g, rfl, n, hn, en, Or.inl ⟨t, ht, q0, q2, rfl, rfl⟩⟩)) (⟨X, hX⟩) (q_out.refl) hoL
  · refine wL_teamRank_13 ?_
    refine wL_teamRank_15 ?_
    refine wL_teamRank_16  ?_
    exact s_no hk (Or.inl ⟨hl, rfl, rfl⟩) (by decide) ⟨X, hX⟩ ho
  · refine wL_teamRank_17 ?_
    refine wL_teamRank_19 ?_
    refine wL_teamRank_20  ?_
    exact s_no hk (Or.inr (Or.inl ⟨hl, g, rfl, rfl⟩)) (by decide) ⟨X, hX⟩ ho
  · refine wL_teamRank_21 ?_
    refine wL_teamRank_23 ?_
    refine wL_teamRank_24  ?_
    exact s_no hk (Or.inr (Or.inr ⟨hl, g, rfl, n, hn, en, Or.inr ⟨q0, rfl⟩⟩)) (by decide) ⟨X, hX⟩ ho
theorem sL_playerRank {L o : Nat} {S : q_Ls} {y : Int32} {f0 : Nat → Int64} {P : Int32 → q_H → Option Nat → Prop} (hL : isL h L S) (hS : okL S) (ho : h o = some (.inl (2, 1, .inr (.inl f0)))) (hoL : L + 741 ≤ o) (hk : ∀ k v S' h2 f2 z2, o_playerRank S y k v S' → isL h2 L S' → h2 o = some (.inl (2, 1, .inr (.inl f2))) → (k = 0 → f2 0 = v) → (∀ q, (q < L ∨ L + 741 ≤ q) → ¬ q = o → h2 q = h q) → P k h2 z2) : QMi V iL_playerRank [.ref L, .int y, .ref o] h z P Kx := by
  obtain ⟨X, hX⟩ := hL
  refine eL_playerRank ?_
  refine wL_playerRank_0 ?_
  refine wL_playerRank_1 ?_
  refine wL_playerRank_2 ?_
  refine wL_playerRank_3 ?_
  refine wL_playerRank_4 hX.c (mX8_playerRank hX hS (fun hl g n hn en t ht q0 q3 q2 => ?_) (fun hl => Or.inl ⟨rfl, fun q => ?_⟩) (fun hl g => Or.inr (Or.inl ⟨rfl, fun q => ?_⟩)) (fun hl g n hn en q0 => Or.inr (Or.inr ⟨rfl, fun q => ?_⟩)))
  · refine wL_playerRank_7 ?_
    refine wL_playerRank_8 ho (j := 0) rfl (by decide) (by decide) ?_
    refine wL_playerRank_9 ?_
    refine wL_playerRank_21 ?_
    refine wL_playerRank_22  ?_
    exact s_ok hk (Or.inr (Or.inr ⟨hl, g, rfl, n, hn, en, Or.inl ⟨t, ht, q0, q3, q2, rfl, rfl⟩⟩)) (⟨X, hX⟩) (q_out.refl) hoL
  · refine wL_playerRank_12 ?_
    refine wL_playerRank_13 ?_
    refine wL_playerRank_14  ?_
    exact s_no hk (Or.inl ⟨hl, rfl, rfl⟩) (by decide) ⟨X, hX⟩ ho
  · refine wL_playerRank_15 ?_
    refine wL_playerRank_16 ?_
    refine wL_playerRank_17  ?_
    exact s_no hk (Or.inr (Or.inl ⟨hl, g, rfl, rfl⟩)) (by decide) ⟨X, hX⟩ ho
  · refine wL_playerRank_18 ?_
    refine wL_playerRank_19 ?_
    refine wL_playerRank_20  ?_
    exact s_no hk (Or.inr (Or.inr ⟨hl, g, rfl, n, hn, en, Or.inr ⟨q0, rfl⟩⟩)) (by decide) ⟨X, hX⟩ ho
theorem sL_playerValue {L o : Nat} {S : q_Ls} {p x : Int32} {f0 : Nat → Int64} {P : Int32 → q_H → Option Nat → Prop} (hL : isL h L S) (hS : okL S) (ho : h o = some (.inl (2, 1, .inr (.inl f0)))) (hoL : L + 741 ≤ o) (hk : ∀ k v S' h2 f2 z2, o_playerValue S p x k v S' → isL h2 L S' → h2 o = some (.inl (2, 1, .inr (.inl f2))) → (k = 0 → f2 0 = v) → (∀ q, (q < L ∨ L + 741 ≤ q) → ¬ q = o → h2 q = h q) → P k h2 z2) : QMi V iL_playerValue [.ref L, .int p, .int x, .ref o] h z P Kx := by
  obtain ⟨X, hX⟩ := hL
  refine eL_playerValue ?_
  refine wL_playerValue_0 ?_
  refine wL_playerValue_1 ?_
  refine wL_playerValue_2 ?_
  refine wL_playerValue_3 ?_
  refine wL_playerValue_4 ?_
  refine wL_playerValue_5 hX.c (mX8_playerValue hX hS (fun hl g i hi e => ?_) (fun hl => Or.inl ⟨rfl, fun q => ?_⟩) (fun hl g => Or.inr ⟨rfl, fun q => ?_⟩))
  · refine wL_playerValue_8 ?_
    refine wL_playerValue_9 ho (j := 0) rfl (by decide) (by decide) ?_
    refine wL_playerValue_10 ?_
    refine wL_playerValue_21 ?_
    refine wL_playerValue_22  ?_
    exact s_ok hk (Or.inr (Or.inr ⟨hl, g, rfl, rfl, i, hi, e, rfl⟩)) (⟨X, hX⟩) (q_out.refl) hoL
  · refine wL_playerValue_13 ?_
    refine wL_playerValue_15 ?_
    refine wL_playerValue_16  ?_
    exact s_no hk (Or.inl ⟨hl, rfl, rfl⟩) (by decide) ⟨X, hX⟩ ho
  · refine wL_playerValue_17 ?_
    refine wL_playerValue_19 ?_
    refine wL_playerValue_20  ?_
    exact s_no hk (Or.inr (Or.inl ⟨hl, g, rfl, rfl⟩)) (by decide) ⟨X, hX⟩ ho
theorem sL_salary {L o : Nat} {S : q_Ls} {p x : Int32} {f0 : Nat → Int64} {P : Int32 → q_H → Option Nat → Prop} (hL : isL h L S) (hS : okL S) (ho : h o = some (.inl (2, 1, .inr (.inl f0)))) (hoL : L + 741 ≤ o) (hk : ∀ k v S' h2 f2 z2, o_salary S p x k v S' → isL h2 L S' → h2 o = some (.inl (2, 1, .inr (.inl f2))) → (k = 0 → f2 0 = v) → (∀ q, (q < L ∨ L + 741 ≤ q) → ¬ q = o → h2 q = h q) → P k h2 z2) : QMi V iL_salary [.ref L, .int p, .int x, .ref o] h z P Kx := by
  obtain ⟨X, hX⟩ := hL
  refine eL_salary ?_
  refine wL_salary_0 ?_
  refine wL_salary_1 ?_
  refine wL_salary_2 ?_
  refine wL_salary_3 ?_
  refine wL_salary_4 ?_
  refine wL_salary_5 hX.c (mX8_salary hX hS (fun hl g i hi e => ?_) (fun hl => Or.inl ⟨rfl, fun q => ?_⟩) (fun hl g => Or.inr ⟨rfl, fun q => ?_⟩))
  · refine wL_salary_8 ?_
    refine wL_salary_9 ho (j := 0) rfl (by decide) (by decide) ?_
    refine wL_salary_10 ?_
    refine wL_salary_21 ?_
    refine wL_salary_22  ?_
    exact s_ok hk (Or.inr (Or.inr ⟨hl, g, rfl, rfl, i, hi, e, rfl⟩)) (⟨X, hX⟩) (q_out.refl) hoL
  · refine wL_salary_13 ?_
    refine wL_salary_15 ?_
    refine wL_salary_16  ?_
    exact s_no hk (Or.inl ⟨hl, rfl, rfl⟩) (by decide) ⟨X, hX⟩ ho
  · refine wL_salary_17 ?_
    refine wL_salary_19 ?_
    refine wL_salary_20  ?_
    exact s_no hk (Or.inr (Or.inl ⟨hl, g, rfl, rfl⟩)) (by decide) ⟨X, hX⟩ ho
theorem sL_share {L o : Nat} {S : q_Ls} {p x : Int32} {f0 : Nat → Int64} {P : Int32 → q_H → Option Nat → Prop} (hL : isL h L S) (hS : okL S) (ho : h o = some (.inl (2, 1, .inr (.inl f0)))) (hoL : L + 741 ≤ o) (hk : ∀ k v S' h2 f2 z2, o_share S p x k v S' → isL h2 L S' → h2 o = some (.inl (2, 1, .inr (.inl f2))) → (k = 0 → f2 0 = v) → (∀ q, (q < L ∨ L + 741 ≤ q) → ¬ q = o → h2 q = h q) → P k h2 z2) : QMi V iL_share [.ref L, .int p, .int x, .ref o] h z P Kx := by
  obtain ⟨X, hX⟩ := hL
  refine eL_share ?_
  refine wL_share_0 ?_
  refine wL_share_1 ?_
  refine wL_share_2 ?_
  refine wL_share_3 ?_
  refine wL_share_4 ?_
  refine wL_share_5 hX.c (mX8_share hX hS (fun hl g i hi e => ?_) (fun hl => Or.inl ⟨rfl, fun q => ?_⟩) (fun hl g => Or.inr ⟨rfl, fun q => ?_⟩))
  · refine wL_share_8 ?_
    refine wL_share_9 ho (j := 0) rfl (by decide) (by decide) ?_
    refine wL_share_10 ?_
    refine wL_share_21 ?_
    refine wL_share_22  ?_
    exact s_ok hk (Or.inr (Or.inr ⟨hl, g, rfl, rfl, i, hi, e, rfl⟩)) (⟨X, hX⟩) (q_out.refl) hoL
  · refine wL_share_13 ?_
    refine wL_share_15 ?_
    refine wL_share_16  ?_
    exact s_no hk (Or.inl ⟨hl, rfl, rfl⟩) (by decide) ⟨X, hX⟩ ho
  · refine wL_share_17 ?_
    refine wL_share_19 ?_
    refine wL_share_20  ?_
    exact s_no hk (Or.inr (Or.inl ⟨hl, g, rfl, rfl⟩)) (by decide) ⟨X, hX⟩ ho
theorem sL_signCode {L o : Nat} {S : q_Ls} {t p x : Int32} {f0 : Nat → Int64} {P : Int32 → q_H → Option Nat → Prop} (hL : isL h L S) (hS : okL S) (ho : h o = some (.inl (2, 1, .inr (.inl f0)))) (hoL : L + 741 ≤ o) (hk : ∀ k v S' h2 f2 z2, o_signCode S t p x k v S' → isL h2 L S' → h2 o = some (.inl (2, 1, .inr (.inl f2))) → (k = 0 → f2 0 = v) → (∀ q, (q < L ∨ L + 741 ≤ q) → ¬ q = o → h2 q = h q) → P k h2 z2) : QMi V iL_signCode [.ref L, .int t, .int p, .int x, .ref o] h z P Kx := by
  obtain ⟨X, hX⟩ := hL
  refine eL_signCode ?_
  refine wL_signCode_0 ?_
  refine wL_signCode_2 ?_
  refine wL_signCode_3 ?_
  refine wL_signCode_4 ?_
  refine wL_signCode_5 ?_
  refine wL_signCode_6 ?_
  refine wL_signCode_7 hX.c (mX8_signCode hX hS (fun hl g j hj e i hi e3 => ?_) (fun hl => Or.inl ⟨rfl, fun q => ?_⟩) (fun hl g => Or.inr ⟨rfl, fun q => ?_⟩))
  · refine wL_signCode_10 ?_
    refine wL_signCode_11 ho (j := 0) rfl (by decide) (by decide) ?_
    refine wL_signCode_12 ?_
    refine wL_signCode_23 ?_
    refine wL_signCode_24  ?_
    exact s_ok hk (Or.inr (Or.inr ⟨hl, g, rfl, rfl, j, hj, e, i, hi, e3, rfl⟩)) (⟨X, hX⟩) (q_out.refl) hoL
  · refine wL_signCode_15 ?_
    refine wL_signCode_17 ?_
    refine wL_signCode_18  ?_
    exact s_no hk (Or.inl ⟨hl, rfl, rfl⟩) (by decide) ⟨X, hX⟩ ho
  · refine wL_signCode_19 ?_
    refine wL_signCode_21 ?_
    refine wL_signCode_22  ?_
    exact s_no hk (Or.inr (Or.inl ⟨hl, g, rfl, rfl⟩)) (by decide) ⟨X, hX⟩ ho
theorem sL_greatestBase {L o : Nat} {S : q_Ls} {t p x : Int32} {f0 : Nat → Int64} {P : Int32 → q_H → Option Nat → Prop} (hL : isL h L S) (hS : okL S) (ho : h o = some (.inl (2, 1, .inr (.inl f0)))) (hoL : L + 741 ≤ o) (hk : ∀ k v S' h2 f2 z2, o_greatestBase S t p x k v S' → isL h2 L S' → h2 o = some (.inl (2, 1, .inr (.inl f2))) → (k = 0 → f2 0 = v) → (∀ q, (q < L ∨ L + 741 ≤ q) → ¬ q = o → h2 q = h q) → P k h2 z2) : QMi V iL_greatestBase [.ref L, .int t, .int p, .int x, .ref o] h z P Kx := by
  obtain ⟨X, hX⟩ := hL
  refine eL_greatestBase ?_
  refine wL_greatestBase_0 ?_
  refine wL_greatestBase_2 ?_
  refine wL_greatestBase_3 ?_
  refine wL_greatestBase_4 ?_
  refine wL_greatestBase_5 ?_
  refine wL_greatestBase_6 ?_
  refine wL_greatestBase_7 hX.c (mX8_greatestBase hX hS (fun hl g j hj e i hi e3 => ?_) (fun hl => Or.inl ⟨rfl, fun q => ?_⟩) (fun hl g => Or.inr ⟨rfl, fun q => ?_⟩))
  · refine wL_greatestBase_10 ?_
    refine wL_greatestBase_11 ho (j := 0) rfl (by decide) (by decide) ?_
    refine wL_greatestBase_12 ?_
    refine wL_greatestBase_23 ?_
    refine wL_greatestBase_24  ?_
    exact s_ok hk (Or.inr (Or.inr ⟨hl, g, rfl, rfl, j, hj, e, i, hi, e3, rfl⟩)) (⟨X, hX⟩) (q_out.refl) hoL
  · refine wL_greatestBase_15 ?_
    refine wL_greatestBase_17 ?_
    refine wL_greatestBase_18  ?_
    exact s_no hk (Or.inl ⟨hl, rfl, rfl⟩) (by decide) ⟨X, hX⟩ ho
  · refine wL_greatestBase_19 ?_
    refine wL_greatestBase_21 ?_
    refine wL_greatestBase_22  ?_
    exact s_no hk (Or.inr (Or.inl ⟨hl, g, rfl, rfl⟩)) (by decide) ⟨X, hX⟩ ho
theorem sL_bestRule {L o : Nat} {S : q_Ls} {t p : Int32} {f0 : Nat → Int64} {P : Int32 → q_H → Option Nat → Prop} (hL : isL h L S) (hS : okL S) (ho : h o = some (.inl (2, 1, .inr (.inl f0)))) (hoL : L + 741 ≤ o) (hk : ∀ k v S' h2 f2 z2, o_bestRule S t p k v S' → isL h2 L S' → h2 o = some (.inl (2, 1, .inr (.inl f2))) → (k = 0 → f2 0 = v) → (∀ q, (q < L ∨ L + 741 ≤ q) → ¬ q = o → h2 q = h q) → P k h2 z2) : QMi V iL_bestRule [.ref L, .int t, .int p, .ref o] h z P Kx := by
  obtain ⟨X, hX⟩ := hL
  refine eL_bestRule ?_
  refine wL_bestRule_0 ?_
  refine wL_bestRule_1 ?_
  refine wL_bestRule_2 ?_
  refine wL_bestRule_3 ?_
  refine wL_bestRule_4 ?_
  refine wL_bestRule_5 hX.c (mX8_bestRule hX hS (fun hl g j hj e i hi e3 => ?_) (fun hl => Or.inl ⟨rfl, fun q => ?_⟩) (fun hl g => Or.inr ⟨rfl, fun q => ?_⟩))
  · refine wL_bestRule_8 ?_
    refine wL_bestRule_9 ho (j := 0) rfl (by decide) (by decide) ?_
    refine wL_bestRule_10 ?_
    refine wL_bestRule_21 ?_
    refine wL_bestRule_22  ?_
    exact s_ok hk (Or.inr (Or.inr ⟨hl, g, rfl, rfl, j, hj, e, i, hi, e3, rfl⟩)) (⟨X, hX⟩) (q_out.refl) hoL
  · refine wL_bestRule_13 ?_
    refine wL_bestRule_15 ?_
    refine wL_bestRule_16  ?_
    exact s_no hk (Or.inl ⟨hl, rfl, rfl⟩) (by decide) ⟨X, hX⟩ ho
  · refine wL_bestRule_17 ?_
    refine wL_bestRule_19 ?_
    refine wL_bestRule_20  ?_
    exact s_no hk (Or.inr (Or.inl ⟨hl, g, rfl, rfl⟩)) (by decide) ⟨X, hX⟩ ho
theorem sL_releaseCost {L o : Nat} {S : q_Ls} {p st x : Int32} {f0 : Nat → Int64} {P : Int32 → q_H → Option Nat → Prop} (hL : isL h L S) (hS : okL S) (ho : h o = some (.inl (2, 1, .inr (.inl f0)))) (hoL : L + 741 ≤ o) (hk : ∀ k v S' h2 f2 z2, o_releaseCost S p st x k v S' → isL h2 L S' → h2 o = some (.inl (2, 1, .inr (.inl f2))) → (k = 0 → f2 0 = v) → (∀ q, (q < L ∨ L + 741 ≤ q) → ¬ q = o → h2 q = h q) → P k h2 z2) : QMi V iL_releaseCost [.ref L, .int p, .int st, .int x, .ref o] h z P Kx := by
  obtain ⟨X, hX⟩ := hL
  refine eL_releaseCost ?_
  refine wL_releaseCost_0 ?_
  refine wL_releaseCost_2 ?_
  refine wL_releaseCost_3 ?_
  refine wL_releaseCost_4 ?_
  refine wL_releaseCost_5 ?_
  refine wL_releaseCost_6 ?_
  refine wL_releaseCost_7 hX.c (mX8_releaseCost hX hS (fun hl g i hi e => ?_) (fun hl => Or.inl ⟨rfl, fun q => ?_⟩) (fun hl g => Or.inr ⟨rfl, fun q => ?_⟩))
  · refine wL_releaseCost_10 ?_
    refine wL_releaseCost_11 ho (j := 0) rfl (by decide) (by decide) ?_
    refine wL_releaseCost_12 ?_
    refine wL_releaseCost_23 ?_
    refine wL_releaseCost_24  ?_
    exact s_ok hk (Or.inr (Or.inr ⟨hl, g, rfl, rfl, i, hi, e, rfl⟩)) (⟨X, hX⟩) (q_out.refl) hoL
  · refine wL_releaseCost_15 ?_
    refine wL_releaseCost_17 ?_
    refine wL_releaseCost_18  ?_
    exact s_no hk (Or.inl ⟨hl, rfl, rfl⟩) (by decide) ⟨X, hX⟩ ho
  · refine wL_releaseCost_19 ?_
    refine wL_releaseCost_21 ?_
    refine wL_releaseCost_22  ?_
    exact s_no hk (Or.inr (Or.inl ⟨hl, g, rfl, rfl⟩)) (by decide) ⟨X, hX⟩ ho
theorem sL_releaseGain {L o : Nat} {S : q_Ls} {p st : Int32} {f0 : Nat → Int64} {P : Int32 → q_H → Option Nat → Prop} (hL : isL h L S) (hS : okL S) (ho : h o = some (.inl (2, 1, .inr (.inl f0)))) (hoL : L + 741 ≤ o) (hk : ∀ k v S' h2 f2 z2, o_releaseGain S p st k v S' → isL h2 L S' → h2 o = some (.inl (2, 1, .inr (.inl f2))) → (k = 0 → f2 0 = v) → (∀ q, (q < L ∨ L + 741 ≤ q) → ¬ q = o → h2 q = h q) → P k h2 z2) : QMi V iL_releaseGain [.ref L, .int p, .int st, .ref o] h z P Kx := by
  obtain ⟨X, hX⟩ := hL
  refine eL_releaseGain ?_
  refine wL_releaseGain_0 ?_
  refine wL_releaseGain_1 ?_
  refine wL_releaseGain_2 ?_
  refine wL_releaseGain_3 ?_
  refine wL_releaseGain_4 ?_
  refine wL_releaseGain_5 hX.c (mX8_releaseGain hX hS (fun hl g i hi e => ?_) (fun hl => Or.inl ⟨rfl, fun q => ?_⟩) (fun hl g => Or.inr ⟨rfl, fun q => ?_⟩))
  · refine wL_releaseGain_8 ?_
    refine wL_releaseGain_9 ho (j := 0) rfl (by decide) (by decide) ?_
    refine wL_releaseGain_10 ?_
    refine wL_releaseGain_21 ?_
    refine wL_releaseGain_22  ?_
    exact s_ok hk (Or.inr (Or.inr ⟨hl, g, rfl, rfl, i, hi, e, rfl⟩)) (⟨X, hX⟩) (q_out.refl) hoL
  · refine wL_releaseGain_13 ?_
    refine wL_releaseGain_15 ?_
    refine wL_releaseGain_16  ?_
    exact s_no hk (Or.inl ⟨hl, rfl, rfl⟩) (by decide) ⟨X, hX⟩ ho
  · refine wL_releaseGain_17 ?_
    refine wL_releaseGain_19 ?_
    refine wL_releaseGain_20  ?_
    exact s_no hk (Or.inr (Or.inl ⟨hl, g, rfl, rfl⟩)) (by decide) ⟨X, hX⟩ ho
theorem sL_fewestReleases {L o : Nat} {S : q_Ls} {t : Int32} {f0 : Nat → Int64} {P : Int32 → q_H → Option Nat → Prop} (hL : isL h L S) (hS : okL S) (ho : h o = some (.inl (2, 1, .inr (.inl f0)))) (hoL : L + 741 ≤ o) (hk : ∀ k v S' h2 f2 z2, o_fewestReleases S t k v S' → isL h2 L S' → h2 o = some (.inl (2, 1, .inr (.inl f2))) → (k = 0 → f2 0 = v) → (∀ q, (q < L ∨ L + 741 ≤ q) → ¬ q = o → h2 q = h q) → P k h2 z2) : QMi V iL_fewestReleases [.ref L, .int t, .ref o] h z P Kx := by
  obtain ⟨X, hX⟩ := hL
  refine eL_fewestReleases ?_
  refine wL_fewestReleases_0 ?_
  refine wL_fewestReleases_1 ?_
  refine wL_fewestReleases_2 ?_
  refine wL_fewestReleases_3 ?_
  refine wL_fewestReleases_4 hX.c (mX8_fewestReleases hX hS (fun hl g j hj e h1 hL1 hq1 => ?_) (fun hl => Or.inl ⟨rfl, fun q => ?_⟩) (fun hl g => Or.inr ⟨rfl, fun q => ?_⟩))
  · refine wL_fewestReleases_7 ?_
    refine wL_fewestReleases_8 ((hq1 o (Or.inr hoL)).trans ho) (j := 0) rfl (by decide) (by decide) ?_
    refine wL_fewestReleases_9 ?_
    refine wL_fewestReleases_18 ?_
    refine wL_fewestReleases_19  ?_
    exact s_ok hk (Or.inr (Or.inr ⟨hl, g, rfl, rfl, j, hj, e, _, rfl⟩)) (hL1) (hq1) hoL
  · refine wL_fewestReleases_12 ?_
    refine wL_fewestReleases_13 ?_
    refine wL_fewestReleases_14  ?_
    exact s_no hk (Or.inl ⟨hl, rfl, rfl⟩) (by decide) ⟨X, hX⟩ ho
  · refine wL_fewestReleases_15 ?_
    refine wL_fewestReleases_16 ?_
    refine wL_fewestReleases_17  ?_
    exact s_no hk (Or.inr (Or.inl ⟨hl, g, rfl, rfl⟩)) (by decide) ⟨X, hX⟩ ho
theorem sL_releaseSet {L o : Nat} {S : q_Ls} {t : Int32} {f0 : Nat → Int64} {P : Int32 → q_H → Option Nat → Prop} (hL : isL h L S) (hS : okL S) (ho : h o = some (.inl (2, 1, .inr (.inl f0)))) (hoL : L + 741 ≤ o) (hk : ∀ k v S' h2 f2 z2, o_releaseSet S t k v S' → isL h2 L S' → h2 o = some (.inl (2, 1, .inr (.inl f2))) → (k = 0 → f2 0 = v) → (∀ q, (q < L ∨ L + 741 ≤ q) → ¬ q = o → h2 q = h q) → P k h2 z2) : QMi V iL_releaseSet [.ref L, .int t, .ref o] h z P Kx := by
  obtain ⟨X, hX⟩ := hL
  refine eL_releaseSet ?_
  refine wL_releaseSet_0 ?_
  refine wL_releaseSet_1 ?_
  refine wL_releaseSet_2 ?_
  refine wL_releaseSet_3 ?_
  refine wL_releaseSet_4 hX.c (mX8_releaseSet hX hS (fun hl g j hj e h1 hL1 hq1 => ?_) (fun hl => Or.inl ⟨rfl, fun q => ?_⟩) (fun hl g => Or.inr ⟨rfl, fun q => ?_⟩))
  · refine wL_releaseSet_7 ?_
    refine wL_releaseSet_8 ((hq1 o (Or.inr hoL)).trans ho) (j := 0) rfl (by decide) (by decide) ?_
    refine wL_releaseSet_9 ?_
    refine wL_releaseSet_18 ?_
    refine wL_releaseSet_19  ?_
    exact s_ok hk (Or.inr (Or.inr ⟨hl, g, rfl, rfl, j, hj, e, _, rfl⟩)) (hL1) (hq1) hoL
  · refine wL_releaseSet_12 ?_
    refine wL_releaseSet_13 ?_
    refine wL_releaseSet_14  ?_
    exact s_no hk (Or.inl ⟨hl, rfl, rfl⟩) (by decide) ⟨X, hX⟩ ho
  · refine wL_releaseSet_15 ?_
    refine wL_releaseSet_16 ?_
    refine wL_releaseSet_17  ?_
    exact s_no hk (Or.inr (Or.inl ⟨hl, g, rfl, rfl⟩)) (by decide) ⟨X, hX⟩ ho
theorem sL_tradeCode {L o : Nat} {S : q_Ls} {t s u y : Int32} {f0 : Nat → Int64} {P : Int32 → q_H → Option Nat → Prop} (hL : isL h L S) (hS : okL S) (ho : h o = some (.inl (2, 1, .inr (.inl f0)))) (hoL : L + 741 ≤ o) (hk : ∀ k v S' h2 f2 z2, o_tradeCode S t s u y k v S' → isL h2 L S' → h2 o = some (.inl (2, 1, .inr (.inl f2))) → (k = 0 → f2 0 = v) → (∀ q, (q < L ∨ L + 741 ≤ q) → ¬ q = o → h2 q = h q) → P k h2 z2) : QMi V iL_tradeCode [.ref L, .int t, .int s, .int u, .int y, .ref o] h z P Kx := by
  obtain ⟨X, hX⟩ := hL
  refine eL_tradeCode ?_
  refine wL_tradeCode_0 ?_
  refine wL_tradeCode_2 ?_
  refine wL_tradeCode_3 ?_
  refine wL_tradeCode_4 ?_
  refine wL_tradeCode_5 ?_
  refine wL_tradeCode_6 ?_
  refine wL_tradeCode_7 ?_
  refine wL_tradeCode_9 hX.c (mX8_tradeCode hX hS (fun hl g j m hj hm e e3 => ?_) (fun hl => Or.inl ⟨rfl, fun q => ?_⟩) (fun hl g => Or.inr ⟨rfl, fun q => ?_⟩))
  · refine wL_tradeCode_12 ?_
    refine wL_tradeCode_13 ho (j := 0) rfl (by decide) (by decide) ?_
    refine wL_tradeCode_14 ?_
    refine wL_tradeCode_25 ?_
    refine wL_tradeCode_26  ?_
    exact s_ok hk (Or.inr (Or.inr ⟨hl, g, rfl, rfl, j, m, hj, hm, e, e3, rfl⟩)) (⟨X, hX⟩) (q_out.refl) hoL
  · refine wL_tradeCode_17 ?_
    refine wL_tradeCode_19 ?_
    refine wL_tradeCode_20  ?_
    exact s_no hk (Or.inl ⟨hl, rfl, rfl⟩) (by decide) ⟨X, hX⟩ ho
  · refine wL_tradeCode_21 ?_
    refine wL_tradeCode_23 ?_
    refine wL_tradeCode_24  ?_
    exact s_no hk (Or.inr (Or.inl ⟨hl, g, rfl, rfl⟩)) (by decide) ⟨X, hX⟩ ho
theorem sL_swapCount {L o : Nat} {S : q_Ls} {t u : Int32} {f0 : Nat → Int64} {P : Int32 → q_H → Option Nat → Prop} (hL : isL h L S) (hS : okL S) (ho : h o = some (.inl (2, 1, .inr (.inl f0)))) (hoL : L + 741 ≤ o) (hk : ∀ k v S' h2 f2 z2, o_swapCount S t u k v S' → isL h2 L S' → h2 o = some (.inl (2, 1, .inr (.inl f2))) → (k = 0 → f2 0 = v) → (∀ q, (q < L ∨ L + 741 ≤ q) → ¬ q = o → h2 q = h q) → P k h2 z2) : QMi V iL_swapCount [.ref L, .int t, .int u, .ref o] h z P Kx := by
  obtain ⟨X, hX⟩ := hL
  refine eL_swapCount ?_
  refine wL_swapCount_0 ?_
  refine wL_swapCount_1 ?_
  refine wL_swapCount_2 ?_
  refine wL_swapCount_3 ?_
  refine wL_swapCount_4 ?_
  refine wL_swapCount_5 hX.c (mX8_swapCount hX hS (fun hl g j m n hj hm e e3 hn en => ?_) (fun hl => Or.inl ⟨rfl, fun q => ?_⟩) (fun hl g => Or.inr ⟨rfl, fun q => ?_⟩))
  · refine wL_swapCount_8 ?_
    refine wL_swapCount_9 ho (j := 0) rfl (by decide) (by decide) ?_
    refine wL_swapCount_10 ?_
    refine wL_swapCount_21 ?_
    refine wL_swapCount_22  ?_
    exact s_ok hk (Or.inr (Or.inr ⟨hl, g, rfl, rfl, j, m, n, hj, hm, e, e3, hn, en, rfl⟩)) (⟨X, hX⟩) (q_out.refl) hoL
  · refine wL_swapCount_13 ?_
    refine wL_swapCount_15 ?_
    refine wL_swapCount_16  ?_
    exact s_no hk (Or.inl ⟨hl, rfl, rfl⟩) (by decide) ⟨X, hX⟩ ho
  · refine wL_swapCount_17 ?_
    refine wL_swapCount_19 ?_
    refine wL_swapCount_20  ?_
    exact s_no hk (Or.inr (Or.inl ⟨hl, g, rfl, rfl⟩)) (by decide) ⟨X, hX⟩ ho
theorem sL_bestSwap {L o : Nat} {S : q_Ls} {t u : Int32} {f0 : Nat → Int64} {P : Int32 → q_H → Option Nat → Prop} (hL : isL h L S) (hS : okL S) (ho : h o = some (.inl (2, 1, .inr (.inl f0)))) (hoL : L + 741 ≤ o) (hk : ∀ k v S' h2 f2 z2, o_bestSwap S t u k v S' → isL h2 L S' → h2 o = some (.inl (2, 1, .inr (.inl f2))) → (k = 0 → f2 0 = v) → (∀ q, (q < L ∨ L + 741 ≤ q) → ¬ q = o → h2 q = h q) → P k h2 z2) : QMi V iL_bestSwap [.ref L, .int t, .int u, .ref o] h z P Kx := by
  obtain ⟨X, hX⟩ := hL
  refine eL_bestSwap ?_
  refine wL_bestSwap_0 ?_
  refine wL_bestSwap_1 ?_
  refine wL_bestSwap_2 ?_
  refine wL_bestSwap_3 ?_
  refine wL_bestSwap_4 ?_
  refine wL_bestSwap_5 hX.c (mX8_bestSwap hX hS (fun hl g j m n hj hm e e3 hn en => ?_) (fun hl => Or.inl ⟨rfl, fun q => ?_⟩) (fun hl g => Or.inr ⟨rfl, fun q => ?_⟩))
  · refine wL_bestSwap_8 ?_
    refine wL_bestSwap_9 ho (j := 0) rfl (by decide) (by decide) ?_
    refine wL_bestSwap_10 ?_
    refine wL_bestSwap_21 ?_
    refine wL_bestSwap_22  ?_
    exact s_ok hk (Or.inr (Or.inr ⟨hl, g, rfl, rfl, j, m, n, hj, hm, e, e3, hn, en, rfl⟩)) (⟨X, hX⟩) (q_out.refl) hoL
  · refine wL_bestSwap_13 ?_
    refine wL_bestSwap_15 ?_
    refine wL_bestSwap_16  ?_
    exact s_no hk (Or.inl ⟨hl, rfl, rfl⟩) (by decide) ⟨X, hX⟩ ho
  · refine wL_bestSwap_17 ?_
    refine wL_bestSwap_19 ?_
    refine wL_bestSwap_20  ?_
    exact s_no hk (Or.inr (Or.inl ⟨hl, g, rfl, rfl⟩)) (by decide) ⟨X, hX⟩ ho
theorem sL_taxAhead {L o : Nat} {S : q_Ls} {t x : Int32} {f0 : Nat → Int64} {P : Int32 → q_H → Option Nat → Prop} (hL : isL h L S) (hS : okL S) (ho : h o = some (.inl (2, 1, .inr (.inl f0)))) (hoL : L + 741 ≤ o) (hk : ∀ k v S' h2 f2 z2, o_taxAhead S t x k v S' → isL h2 L S' → h2 o = some (.inl (2, 1, .inr (.inl f2))) → (k = 0 → f2 0 = v) → (∀ q, (q < L ∨ L + 741 ≤ q) → ¬ q = o → h2 q = h q) → P k h2 z2) : QMi V iL_taxAhead [.ref L, .int t, .int x, .ref o] h z P Kx := by
  obtain ⟨X, hX⟩ := hL
  refine eL_taxAhead ?_
  refine wL_taxAhead_0 ?_
  refine wL_taxAhead_1 ?_
  refine wL_taxAhead_2 ?_
  refine wL_taxAhead_3 ?_
  refine wL_taxAhead_4 ?_
  refine wL_taxAhead_5 hX.c (mX8_taxAhead hX hS (fun hl g j n hj n1 n8 e e3 => ?_) (fun hl => Or.inl ⟨rfl, fun q => ?_⟩) (fun hl g => Or.inr ⟨rfl, fun q => ?_⟩))
  · refine wL_taxAhead_8 ho (j := 0) rfl (by decide) (by decide) ?_
    refine wL_taxAhead_9 ?_
    refine wL_taxAhead_20 ?_
    refine wL_taxAhead_21  ?_
    exact s_ok hk (Or.inr (Or.inr ⟨hl, g, rfl, rfl, j, n, hj, n1, n8, e, e3, rfl⟩)) (⟨X, hX⟩) (q_out.refl) hoL
  · refine wL_taxAhead_12 ?_
    refine wL_taxAhead_14 ?_
    refine wL_taxAhead_15  ?_
    exact s_no hk (Or.inl ⟨hl, rfl, rfl⟩) (by decide) ⟨X, hX⟩ ho
  · refine wL_taxAhead_16 ?_
    refine wL_taxAhead_18 ?_
    refine wL_taxAhead_19  ?_
    exact s_no hk (Or.inr (Or.inl ⟨hl, g, rfl, rfl⟩)) (by decide) ⟨X, hX⟩ ho
theorem sd_ok {h1 : q_H} {L o : Nat} {S' : q_Ls} {v : UInt64} {f0 : Nat → UInt64} {O : Int32 → UInt64 → q_Ls → Prop} {P : Int32 → q_H → Option Nat → Prop} (hk : ∀ k v S' h2 f2 z2, O k v S' → isL h2 L S' → h2 o = some (.inl (3, 1, .inr (.inr (.inr (.inl f2))))) → (k = 0 → f2 0 = v) → (∀ q, (q < L ∨ L + 741 ≤ q) → ¬ q = o → h2 q = h q) → P k h2 z2) (hO : O 0 v S') (hL : isL h1 L S') (hq : q_out L 741 h h1) (hoL : L + 741 ≤ o) : P 0 (q_up h1 o (.inl (3, 1, .inr (.inr (.inr (.inl (va_up f0 0 v))))))) z :=
  hk 0 v S' _ (va_up f0 0 v) z hO (hL.o (q_out.up (a := o) (n := 1) (by omega) (by omega)) (Or.inl hoL)) q_up_s (fun _ => if_pos rfl) (fun q a1 a2 => (q_up_n a2).trans (hq q a1))
theorem sd_no {L o : Nat} {S : q_Ls} {k : Int32} {f0 : Nat → UInt64} {O : Int32 → UInt64 → q_Ls → Prop} {P : Int32 → q_H → Option Nat → Prop} (hk : ∀ k v S' h2 f2 z2, O k v S' → isL h2 L S' → h2 o = some (.inl (3, 1, .inr (.inr (.inr (.inl f2))))) → (k = 0 → f2 0 = v) → (∀ q, (q < L ∨ L + 741 ≤ q) → ¬ q = o → h2 q = h q) → P k h2 z2) (hO : O k 0 S) (h0 : ¬ k = 0) (hL : isL h L S) (ho : h o = some (.inl (3, 1, .inr (.inr (.inr (.inl f0)))))) : P k h none :=
  hk k 0 S h f0 none hO hL ho (fun e => absurd e h0) (fun _ _ _ => rfl)
theorem sL_meanSalary {L o : Nat} {S : q_Ls} {t : Int32} {f0 : Nat → UInt64} {P : Int32 → q_H → Option Nat → Prop} (hL : isL h L S) (hS : okL S) (ho : h o = some (.inl (3, 1, .inr (.inr (.inr (.inl f0)))))) (hoL : L + 741 ≤ o) (hk : ∀ k v S' h2 f2 z2, o_meanSalary S t k v S' → isL h2 L S' → h2 o = some (.inl (3, 1, .inr (.inr (.inr (.inl f2))))) → (k = 0 → f2 0 = v) → (∀ q, (q < L ∨ L + 741 ≤ q) → ¬ q = o → h2 q = h q) → P k h2 z2) : QMi V iL_meanSalary [.ref L, .int t, .ref o] h z P Kx := by
  obtain ⟨X, hX⟩ := hL
  refine eL_meanSalary ?_
  refine wL_meanSalary_0 ?_
  refine wL_meanSalary_1 ?_
  refine wL_meanSalary_2 ?_
  refine wL_meanSalary_3 ?_
  refine wL_meanSalary_4 hX.c (mX8_meanSalary hX hS (fun hl g j hj e q0 => ?_) (fun hl => Or.inl ⟨rfl, fun q => ?_⟩) (fun hl g => Or.inr (Or.inl ⟨rfl, fun q => ?_⟩)) (fun hl g j hj e q0 => Or.inr (Or.inr ⟨rfl, fun q => ?_⟩)))
  · refine wL_meanSalary_7 ho (j := 0) rfl (by decide) (by decide) ?_
    refine wL_meanSalary_8 ?_
    refine wL_meanSalary_20 ?_
    refine wL_meanSalary_21  ?_
    exact sd_ok hk (Or.inr (Or.inr ⟨hl, g, rfl, j, hj, e, Or.inl ⟨q0, rfl, rfl⟩⟩)) (⟨X, hX⟩) (q_out.refl) hoL
  · refine wL_meanSalary_11 ?_
    refine wL_meanSalary_12 ?_
    refine wL_meanSalary_13  ?_
    exact sd_no hk (Or.inl ⟨hl, rfl, rfl⟩) (by decide) ⟨X, hX⟩ ho
  · refine wL_meanSalary_14 ?_
    refine wL_meanSalary_15 ?_
    refine wL_meanSalary_16  ?_
    exact sd_no hk (Or.inr (Or.inl ⟨hl, g, rfl, rfl⟩)) (by decide) ⟨X, hX⟩ ho
  · refine wL_meanSalary_17 ?_
    refine wL_meanSalary_18 ?_
    refine wL_meanSalary_19  ?_
    exact sd_no hk (Or.inr (Or.inr ⟨hl, g, rfl, j, hj, e, Or.inr ⟨q0, rfl⟩⟩)) (by decide) ⟨X, hX⟩ ho
end RELP
