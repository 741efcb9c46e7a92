/-! THE MATRIX -/
def cwk (two : Int → Int) (a : Ac) (x y k : Int) : Int := b2 (decide (a.fh k = x ∧ whp two a k = y))
def mxL (m one two : Int → Int) (H L x y l : Int) : Int := if jts (jn m one two H L l) = 1 then sm (cwk two (jn m one two H L l) x y) 0 (jn m one two H L l).fw.toNat else 0
def mxS (m one two : Int → Int) (H L x y t : Int) : Int64 := if t = 2 then jj (ctr m two x y) else frc (jj (m 2 * sm (mxL m one two H L x y) 0 (m 5).toNat)) (jj (m 3)) (decide (t = 1))
section MTX
variable {E : tr_Env} {ad : Nat → Nat} {h h0 : tr_H} {Q : tr_Q} {m one two : Int → Int} {H L : Int} {a : Ac}
theorem ctr_rg {x y : Int} (v : vok m one two H L) : 0 ≤ ctr m two x y ∧ ctr m two x y ≤ 40 := by
  have vm := v_m v
  have := sm_rg (f := fun p => b2 (decide (fd m p 0 = x ∧ hop m two p (fd m p 6) = y))) (lo := 0) (hi := 1) (m 106).toNat 0 (fun j _ _ => b2_rg _)
  unfold ctr
  omega
theorem k_countWalks_6 (ok : tr_ok E) (s0 : stat ad h) {nn : Nat} (nw : nst ad h nn m one two H L) (v : vok m one two H L) (ra : acK ad h a) (f : fok H L a) (g : 0 < a.se) {x y : Int} (x0 : 0 ≤ x) (x1 : x < 10) (y0 : 0 ≤ y) (y1 : y < 10) : ∀ (n : Nat) (k c : Int), k + n = a.fw → 0 ≤ k → 0 ≤ c → c ≤ k → Q (.inl (some (.inl (ii (c + sm (cwk two a x y) k n))))) h → tr_G E 21 Q 6 [some (.inr (.inr (ad 2))), some (.inr (.inr nn)), some (.inl (ii x)), some (.inl (ii y)), some (.inl (ii c)), some (.inl (ii k))] [] h 0 0
  | n, k, c, hn, k0, c0, c1, q => by
    refine T_X1_countWalks_6 ok ?_
    have fw := f.1
    have vH := v_H v
    obtain ⟨a1, a2, a3⟩ := ra.2.2.2 g
    simp (disch := first | omega | decide | assumption | exact st_ne s0 (by decide) (by decide) (by decide) | exact dyn_ne (by assumption) (by decide) | fail) only [Int.reduceAdd, Int.reduceSub, Int.reduceNeg, ii_add, ii_sub, ii_mul, ii_lt, ii_le, ii_eq, ixn_ii, ixo_ii, rem_ii, nb_1, nb_0, nb_bb, bb_0, hI_gv, Int.toNat_of_nonneg, Int.cast_ofNat_Int, ht_sI, ht_sJ, ht_sR, hn_sI, hn_sJ, hn_sR, hR_sI, hR_sJ, kI_v, kV_v, kJ_v, true_and, and_true, forall_eq, tg, ln, rf, ne_eq, not_false_eq_true, forall_const, not_true_eq_false, false_implies, W_X1_countWalks_6, st_t s0, st_n s0, st_r s0, a1]
    refine ⟨fun k1 => ?_, fun g2 => ?_⟩
    · obtain ⟨n, rfl⟩ : ∃ n', n = n' + 1 := ⟨n - 1, by omega⟩
      have yh := (a2 k k0 k1).1
      have hh := f.2.2.2.2.2.2 k k0 k1
      have hp := f_hp v f k0 k1
      rw [sm_s, ← Int.add_assoc] at q
      unfold cwk at q
      simp (disch := first | omega | decide | assumption | exact st_ne s0 (by decide) (by decide) (by decide) | exact dyn_ne (by assumption) (by decide) | fail) only [Int.reduceAdd, Int.reduceSub, Int.reduceNeg, ii_add, ii_sub, ii_mul, ii_lt, ii_le, ii_eq, ixn_ii, ixo_ii, rem_ii, nb_1, nb_0, nb_bb, bb_0, hI_gv, Int.toNat_of_nonneg, Int.cast_ofNat_Int, ht_sI, ht_sJ, ht_sR, hn_sI, hn_sJ, hn_sR, hR_sI, hR_sJ, kI_v, kV_v, kJ_v, true_and, and_true, forall_eq, tg, ln, rf, ne_eq, not_false_eq_true, forall_const, not_true_eq_false, false_implies, yh]
      refine ⟨by omega, fun g3 => ?_, fun g3 => ?_⟩
      · refine k_lastHop ok s0 nw v ra f g k0 k1 ?_
        simp (disch := first | omega | decide | assumption | exact st_ne s0 (by decide) (by decide) (by decide) | exact dyn_ne (by assumption) (by decide) | fail) only [Int.reduceAdd, Int.reduceSub, Int.reduceNeg, ii_add, ii_sub, ii_mul, ii_lt, ii_le, ii_eq, ixn_ii, ixo_ii, rem_ii, nb_1, nb_0, nb_bb, bb_0, hI_gv, Int.toNat_of_nonneg, Int.cast_ofNat_Int, ht_sI, ht_sJ, ht_sR, hn_sI, hn_sJ, hn_sR, hR_sI, hR_sJ, kI_v, kV_v, kJ_v, true_and, and_true, forall_eq, tg, ln, rf, ne_eq, not_false_eq_true, forall_const, not_true_eq_false, false_implies]
        refine ⟨fun g4 => ?_, fun g4 => ?_⟩
        · rw [decide_eq_true ⟨g3, g4⟩] at q
          exact k_countWalks_6 ok s0 nw v ra f g x0 x1 y0 y1 n (k + 1) _ (by omega) (by omega) (by omega) (by omega) q
        · rw [decide_eq_false (fun e => g4 e.2)] at q
          exact k_countWalks_6 ok s0 nw v ra f g x0 x1 y0 y1 n (k + 1) _ (by omega) (by omega) (by omega) (by omega) q
      · rw [decide_eq_false (fun e => g3 e.1)] at q
        exact k_countWalks_6 ok s0 nw v ra f g x0 x1 y0 y1 n (k + 1) _ (by omega) (by omega) (by omega) (by omega) q
    · obtain rfl : n = 0 := by omega
      rw [sm_0, Int.add_zero] at q; exact q
theorem k_sureWalks_5 (ok : tr_ok E) (c0 : kst ad h0 m one two H L) (v : vok m one two H L) {x y : Int} (x0 : 0 ≤ x) (x1 : x < 10) (y0 : 0 ≤ y) (y1 : y < 10) : ∀ (n : Nat) (l c : Int) (h : tr_H), l + n = m 5 → 0 ≤ l → fr ad pC f0 false h0 h → (∀ h', fr ad pC f0 false h0 h' → Q (.inl (some (.inr (.inl (jj (c + sm (mxL m one two H L x y) l n)))))) h') → tr_G E 114 Q 5 [some (.inr (.inr (ad 1))), some (.inl (ii x)), some (.inl (ii y)), some (.inr (.inl (jj c))), none, some (.inl (ii l))] [] h 0 0
  | n, l, c, h, hn, l0, f, q => by
    refine T_X7_sureWalks_5 ok ?_
    have c' := kst_fr c0 f pC_lt
    have s0 := c'.1
    obtain ⟨d0, nw, d2, d3, d4, d5⟩ := id c'.2
    obtain ⟨n0, n1, n2, -, -, -, -, ⟨ga, gb, g0, g1, g2, g3, g4⟩, nd⟩ := id nw
    obtain ⟨vH, vL, vl, v0, v1, v2, v3, v4, v5, vr, vm, vp⟩ := id v
    simp (disch := first | omega | decide | assumption | exact st_ne s0 (by decide) (by decide) (by decide) | exact dyn_ne (by assumption) (by decide) | fail) only [Int.reduceAdd, Int.reduceSub, Int.reduceNeg, ii_add, ii_sub, ii_mul, ii_lt, ii_le, ii_eq, ixn_ii, ixo_ii, rem_ii, nb_1, nb_0, nb_bb, bb_0, hI_gv, Int.toNat_of_nonneg, Int.cast_ofNat_Int, ht_sI, ht_sJ, ht_sR, hn_sI, hn_sJ, hn_sR, hR_sI, hR_sJ, kI_v, kV_v, kJ_v, true_and, and_true, forall_eq, tg, ln, rf, ne_eq, not_false_eq_true, forall_const, not_true_eq_false, false_implies, W_X7_sureWalks_5, st_t s0, st_r s0, d0, n0, ga, gb, g4]
    refine ⟨by omega, fun g => ?_, fun g => ?_⟩
    · obtain ⟨n, rfl⟩ : ∃ n', n = n' + 1 := ⟨n - 1, by omega⟩
      have es : c + sm (mxL m one two H L x y) l (n + 1) = c + mxL m one two H L x y l + sm (mxL m one two H L x y) (l + 1) n := by
        rw [sm_s, ← Int.add_assoc]
      rw [es] at q
      unfold mxL at q
      refine k_gatherJ ok s0 c'.2 v l0 (by omega) (fun h1 f1 gs => ?_)
      have c1 := kst_fr c' f1 pC_lt
      have s1 := c1.1
      obtain ⟨b0, nw1, -⟩ := id c1.2
      simp (disch := first | omega | decide | assumption | exact st_ne s0 (by decide) (by decide) (by decide) | exact dyn_ne (by assumption) (by decide) | fail) only [Int.reduceAdd, Int.reduceSub, Int.reduceNeg, ii_add, ii_sub, ii_mul, ii_lt, ii_le, ii_eq, ixn_ii, ixo_ii, rem_ii, nb_1, nb_0, nb_bb, bb_0, hI_gv, Int.toNat_of_nonneg, Int.cast_ofNat_Int, ht_sI, ht_sJ, ht_sR, hn_sI, hn_sJ, hn_sR, hR_sI, hR_sJ, kI_v, kV_v, kJ_v, true_and, and_true, forall_eq, tg, ln, rf, ne_eq, not_false_eq_true, forall_const, not_true_eq_false, false_implies, st_t s1, st_r s1, b0]
      refine k_join ok s1 nw1 v gs (fun h2 f2 kj => ?_)
      have c2 := kst_fr c1 f2 pC_lt
      have s2 := c2.1
      obtain ⟨b2', nw2, -⟩ := id c2.2
      have e9 := kj.1
      have ka := jn_aok (l := l) v
      have jr := jts_rg (l := l) v
      simp (disch := first | omega | decide | assumption | exact st_ne s0 (by decide) (by decide) (by decide) | exact dyn_ne (by assumption) (by decide) | fail) only [Int.reduceAdd, Int.reduceSub, Int.reduceNeg, ii_add, ii_sub, ii_mul, ii_lt, ii_le, ii_eq, ixn_ii, ixo_ii, rem_ii, nb_1, nb_0, nb_bb, bb_0, hI_gv, Int.toNat_of_nonneg, Int.cast_ofNat_Int, ht_sI, ht_sJ, ht_sR, hn_sI, hn_sJ, hn_sR, hR_sI, hR_sJ, kI_v, kV_v, kJ_v, true_and, and_true, forall_eq, tg, ln, rf, ne_eq, not_false_eq_true, forall_const, not_true_eq_false, false_implies, st_t s2, st_r s2, b2', e9]
      refine ⟨fun g5 => ?_, fun g5 => ?_⟩
      · rw [if_pos g5] at q
        obtain ⟨o, se, ej, fk⟩ := jts_p ka (by omega)
        have fw := fk.1
        have sr := sm_rg (f := cwk two (jn m one two H L l) x y) (lo := 0) (hi := 1) (jn m one two H L l).fw.toNat 0 (fun k _ _ => b2_rg _)
        refine T_X1_countWalks ok (k_countWalks_6 ok s2 nw2 v (kj.2 o) fk se x0 x1 y0 y1 (jn m one two H L l).fw.toNat 0 0 (by omega) (by omega) (by omega) (by omega) ?_)
        rw [Int.zero_add]
        simp (disch := first | omega | decide | assumption | exact st_ne s0 (by decide) (by decide) (by decide) | exact dyn_ne (by assumption) (by decide) | fail) only [Int.reduceAdd, Int.reduceSub, Int.reduceNeg, ii_add, ii_sub, ii_mul, ii_lt, ii_le, ii_eq, ixn_ii, ixo_ii, rem_ii, nb_1, nb_0, nb_bb, bb_0, hI_gv, Int.toNat_of_nonneg, Int.cast_ofNat_Int, ht_sI, ht_sJ, ht_sR, hn_sI, hn_sJ, hn_sR, hR_sI, hR_sJ, kI_v, kV_v, kJ_v, true_and, and_true, forall_eq, tg, ln, rf, ne_eq, not_false_eq_true, forall_const, not_true_eq_false, false_implies, i64_ii, jj_add]
        exact k_sureWalks_5 ok c0 v x0 x1 y0 y1 n (l + 1) _ h2 (by omega) (by omega) (fr_tr f (fr_tr f1 f2)) q
      · rw [if_neg g5, Int.add_zero] at q
        exact k_sureWalks_5 ok c0 v x0 x1 y0 y1 n (l + 1) _ h2 (by omega) (by omega) (fr_tr f (fr_tr f1 f2)) q
    · obtain rfl : n = 0 := by omega
      have := q h f
      rw [sm_0, Int.add_zero] at this; exact this
theorem K_matrix (ok : tr_ok E) (c : kst ad h m one two H L) (v : vok m one two H L) {x y t : Int} (x1 : -2147483648 ≤ x) (x2 : x ≤ 2147483647) (y1 : -2147483648 ≤ y) (y2 : y ≤ 2147483647) (t1 : -2147483648 ≤ t) (t2 : t ≤ 2147483647) (q : (0 ≤ x ∧ x < H) ∧ (0 ≤ y ∧ y < H) → 0 ≤ t ∧ t ≤ 2 → ∀ h', fr ad pC f0 false h h' → Q (.inl (some (.inr (.inl (mxS m one two H L x y t))))) h') (r : ¬ ((0 ≤ x ∧ x < H) ∧ (0 ≤ y ∧ y < H)) → Q (.inr 0) (rfz ad h 0)) (r2 : (0 ≤ x ∧ x < H) ∧ (0 ≤ y ∧ y < H) → ¬ (0 ≤ t ∧ t ≤ 2) → Q (.inr 1) (rfz ad h 1)) : tr_C E 94 [.inr (.inr (ad 1)), .inl (ii x), .inl (ii y), .inl (ii t)] h Q := by
  refine T_X7_matrix ok ?_
  have s0 := c.1
  obtain ⟨c0, n, c2, c3, c4, c5⟩ := id c.2
  obtain ⟨vH, vL, vl, v0, v1, v2, v3, v4, v5, vr, vm, vp⟩ := id v
  have bad : ¬ ((0 ≤ x ∧ x < H) ∧ (0 ≤ y ∧ y < H)) → tr_G E 94 Q 34 [some (.inr (.inr (ad 1))), some (.inl (ii x)), some (.inl (ii y)), some (.inl (ii t)), none, none] [.inl (ii 0), .inr (.inr (ad 1))] h 2 12 := by
    intro g
    refine T_X7_matrix_34 ok ?_
    simp (disch := first | omega | decide | assumption | exact st_ne s0 (by decide) (by decide) (by decide) | exact dyn_ne (by assumption) (by decide) | fail) only [Int.reduceAdd, Int.reduceSub, Int.reduceNeg, ii_add, ii_sub, ii_mul, ii_lt, ii_le, ii_eq, ixn_ii, ixo_ii, rem_ii, nb_1, nb_0, nb_bb, bb_0, hI_gv, Int.toNat_of_nonneg, Int.cast_ofNat_Int, ht_sI, ht_sJ, ht_sR, hn_sI, hn_sJ, hn_sR, hR_sI, hR_sJ, kI_v, kV_v, kJ_v, true_and, and_true, forall_eq, tg, ln, rf, ne_eq, not_false_eq_true, forall_const, not_true_eq_false, false_implies, W_X7_matrix_34, st_t s0]
    exact k_fnd0 ok s0 (r g)
  simp (disch := first | omega | decide | assumption | exact st_ne s0 (by decide) (by decide) (by decide) | exact dyn_ne (by assumption) (by decide) | fail) only [Int.reduceAdd, Int.reduceSub, Int.reduceNeg, ii_add, ii_sub, ii_mul, ii_lt, ii_le, ii_eq, ixn_ii, ixo_ii, rem_ii, nb_1, nb_0, nb_bb, bb_0, hI_gv, Int.toNat_of_nonneg, Int.cast_ofNat_Int, ht_sI, ht_sJ, ht_sR, hn_sI, hn_sJ, hn_sR, hR_sI, hR_sJ, kI_v, kV_v, kJ_v, true_and, and_true, forall_eq, tg, ln, rf, ne_eq, not_false_eq_true, forall_const, not_true_eq_false, false_implies, W_X7_matrix, st_t s0, c0, n.1]
  refine k_hasHop ok n (by omega) (by omega) x1 x2 ?_
  simp (disch := first | omega | decide | assumption | exact st_ne s0 (by decide) (by decide) (by decide) | exact dyn_ne (by assumption) (by decide) | fail) only [Int.reduceAdd, Int.reduceSub, Int.reduceNeg, ii_add, ii_sub, ii_mul, ii_lt, ii_le, ii_eq, ixn_ii, ixo_ii, rem_ii, nb_1, nb_0, nb_bb, bb_0, hI_gv, Int.toNat_of_nonneg, Int.cast_ofNat_Int, ht_sI, ht_sJ, ht_sR, hn_sI, hn_sJ, hn_sR, hR_sI, hR_sJ, kI_v, kV_v, kJ_v, true_and, and_true, forall_eq, tg, ln, rf, ne_eq, not_false_eq_true, forall_const, not_true_eq_false, false_implies, st_t s0, c0, n.1]
  refine ⟨fun g => ?_, fun g => ?_⟩
  · rw [decide_eq_false_iff_not] at g
    exact bad (fun e => g e.1)
  · rw [Bool.not_eq_false, decide_eq_true_eq] at g
    refine k_hasHop ok n (by omega) (by omega) y1 y2 ?_
    simp (disch := first | omega | decide | assumption | exact st_ne s0 (by decide) (by decide) (by decide) | exact dyn_ne (by assumption) (by decide) | fail) only [Int.reduceAdd, Int.reduceSub, Int.reduceNeg, ii_add, ii_sub, ii_mul, ii_lt, ii_le, ii_eq, ixn_ii, ixo_ii, rem_ii, nb_1, nb_0, nb_bb, bb_0, hI_gv, Int.toNat_of_nonneg, Int.cast_ofNat_Int, ht_sI, ht_sJ, ht_sR, hn_sI, hn_sJ, hn_sR, hR_sI, hR_sJ, kI_v, kV_v, kJ_v, true_and, and_true, forall_eq, tg, ln, rf, ne_eq, not_false_eq_true, forall_const, not_true_eq_false, false_implies]
    refine ⟨fun g2 => ?_, fun g2 => ?_⟩
    · rw [decide_eq_false_iff_not] at g2
      exact bad (fun e => g2 e.2)
    · rw [Bool.not_eq_false, decide_eq_true_eq] at g2
      have gg : (0 ≤ x ∧ x < H) ∧ (0 ≤ y ∧ y < H) := ⟨g, g2⟩
      have bad2 : ¬ (0 ≤ t ∧ t ≤ 2) → tr_G E 94 Q 52 [some (.inr (.inr (ad 1))), some (.inl (ii x)), some (.inl (ii y)), some (.inl (ii t)), none, none] [.inl (ii 0), .inr (.inr (ad 1))] h 1 6 := by
        intro g3
        refine T_X7_matrix_52 ok ?_
        simp (disch := first | omega | decide | assumption | exact st_ne s0 (by decide) (by decide) (by decide) | exact dyn_ne (by assumption) (by decide) | fail) only [Int.reduceAdd, Int.reduceSub, Int.reduceNeg, ii_add, ii_sub, ii_mul, ii_lt, ii_le, ii_eq, ixn_ii, ixo_ii, rem_ii, nb_1, nb_0, nb_bb, bb_0, hI_gv, Int.toNat_of_nonneg, Int.cast_ofNat_Int, ht_sI, ht_sJ, ht_sR, hn_sI, hn_sJ, hn_sR, hR_sI, hR_sJ, kI_v, kV_v, kJ_v, true_and, and_true, forall_eq, tg, ln, rf, ne_eq, not_false_eq_true, forall_const, not_true_eq_false, false_implies, W_X7_matrix_52, st_t s0]
        exact k_req0 ok s0 (r2 gg g3)
      refine T_X7_matrix_34 ok ?_
      simp (disch := first | omega | decide | assumption | exact st_ne s0 (by decide) (by decide) (by decide) | exact dyn_ne (by assumption) (by decide) | fail) only [Int.reduceAdd, Int.reduceSub, Int.reduceNeg, ii_add, ii_sub, ii_mul, ii_lt, ii_le, ii_eq, ixn_ii, ixo_ii, rem_ii, nb_1, nb_0, nb_bb, bb_0, hI_gv, Int.toNat_of_nonneg, Int.cast_ofNat_Int, ht_sI, ht_sJ, ht_sR, hn_sI, hn_sJ, hn_sR, hR_sI, hR_sJ, kI_v, kV_v, kJ_v, true_and, and_true, forall_eq, tg, ln, rf, ne_eq, not_false_eq_true, forall_const, not_true_eq_false, false_implies, W_X7_matrix_34, st_t s0]
      refine k_fnd1 ok ?_
      simp (disch := first | omega | decide | assumption | exact st_ne s0 (by decide) (by decide) (by decide) | exact dyn_ne (by assumption) (by decide) | fail) only [Int.reduceAdd, Int.reduceSub, Int.reduceNeg, ii_add, ii_sub, ii_mul, ii_lt, ii_le, ii_eq, ixn_ii, ixo_ii, rem_ii, nb_1, nb_0, nb_bb, bb_0, hI_gv, Int.toNat_of_nonneg, Int.cast_ofNat_Int, ht_sI, ht_sJ, ht_sR, hn_sI, hn_sJ, hn_sR, hR_sI, hR_sJ, kI_v, kV_v, kJ_v, true_and, and_true, forall_eq, tg, ln, rf, ne_eq, not_false_eq_true, forall_const, not_true_eq_false, false_implies]
      refine ⟨fun g3 => bad2 (by omega), fun g3 => ⟨fun g4 => ?_, fun g4 => bad2 (by omega)⟩⟩
      have qq := q gg ⟨by omega, g4⟩
      unfold mxS at qq
      refine T_X7_matrix_52 ok ?_
      simp (disch := first | omega | decide | assumption | exact st_ne s0 (by decide) (by decide) (by decide) | exact dyn_ne (by assumption) (by decide) | fail) only [Int.reduceAdd, Int.reduceSub, Int.reduceNeg, ii_add, ii_sub, ii_mul, ii_lt, ii_le, ii_eq, ixn_ii, ixo_ii, rem_ii, nb_1, nb_0, nb_bb, bb_0, hI_gv, Int.toNat_of_nonneg, Int.cast_ofNat_Int, ht_sI, ht_sJ, ht_sR, hn_sI, hn_sJ, hn_sR, hR_sI, hR_sJ, kI_v, kV_v, kJ_v, true_and, and_true, forall_eq, tg, ln, rf, ne_eq, not_false_eq_true, forall_const, not_true_eq_false, false_implies, W_X7_matrix_52, st_t s0]
      refine k_req1 ok ?_
      simp (disch := first | omega | decide | assumption | exact st_ne s0 (by decide) (by decide) (by decide) | exact dyn_ne (by assumption) (by decide) | fail) only [Int.reduceAdd, Int.reduceSub, Int.reduceNeg, ii_add, ii_sub, ii_mul, ii_lt, ii_le, ii_eq, ixn_ii, ixo_ii, rem_ii, nb_1, nb_0, nb_bb, bb_0, hI_gv, Int.toNat_of_nonneg, Int.cast_ofNat_Int, ht_sI, ht_sJ, ht_sR, hn_sI, hn_sJ, hn_sR, hR_sI, hR_sJ, kI_v, kV_v, kJ_v, true_and, and_true, forall_eq, tg, ln, rf, ne_eq, not_false_eq_true, forall_const, not_true_eq_false, false_implies, st_t s0, c0]
      refine ⟨fun g5 => ?_, fun g5 => ?_⟩
      · rw [if_pos g5] at qq
        have cr := ctr_rg (x := x) (y := y) v
        refine k_countTrails ok c.2 v g.1 (by omega) g2.1 (by omega) ?_
        simp (disch := first | omega | decide | assumption | exact st_ne s0 (by decide) (by decide) (by decide) | exact dyn_ne (by assumption) (by decide) | fail) only [Int.reduceAdd, Int.reduceSub, Int.reduceNeg, ii_add, ii_sub, ii_mul, ii_lt, ii_le, ii_eq, ixn_ii, ixo_ii, rem_ii, nb_1, nb_0, nb_bb, bb_0, hI_gv, Int.toNat_of_nonneg, Int.cast_ofNat_Int, ht_sI, ht_sJ, ht_sR, hn_sI, hn_sJ, hn_sR, hR_sI, hR_sJ, kI_v, kV_v, kJ_v, true_and, and_true, forall_eq, tg, ln, rf, ne_eq, not_false_eq_true, forall_const, not_true_eq_false, false_implies, i64_ii]
        exact qq h fr_rfl
      · rw [if_neg g5] at qq
        refine T_X7_sureWalks ok ?_
        refine k_sureWalks_5 ok c v g.1 (by omega) g2.1 (by omega) (m 5).toNat 0 0 h (by omega) (by omega) fr_rfl (fun h1 f1 => ?_)
        rw [Int.zero_add]
        have c1 := kst_fr c f1 pC_lt
        have s1 := c1.1
        obtain ⟨b0, nw1, -⟩ := id c1.2
        obtain ⟨n0, n1, n2, -, -, -, -, ⟨ga, gb, u0, u1, u2, u3, u4⟩, nd⟩ := id nw1
        have hq := qq h1 f1
        simp (disch := first | omega | decide | assumption | exact st_ne s0 (by decide) (by decide) (by decide) | exact dyn_ne (by assumption) (by decide) | fail) only [Int.reduceAdd, Int.reduceSub, Int.reduceNeg, ii_add, ii_sub, ii_mul, ii_lt, ii_le, ii_eq, ixn_ii, ixo_ii, rem_ii, nb_1, nb_0, nb_bb, bb_0, hI_gv, Int.toNat_of_nonneg, Int.cast_ofNat_Int, ht_sI, ht_sJ, ht_sR, hn_sI, hn_sJ, hn_sR, hR_sI, hR_sJ, kI_v, kV_v, kJ_v, true_and, and_true, forall_eq, tg, ln, rf, ne_eq, not_false_eq_true, forall_const, not_true_eq_false, false_implies, st_t s1, st_r s1, b0, n0, ga, gb, u1, u2, i64_ii, jj_mul]
        refine ⟨by omega, by omega, fun g6 => ?_, fun g6 => ?_⟩
        · rw [decide_eq_true g6] at hq
          refine k_reduced (b := true) ok (jj_n0 (by omega) (by omega)) ?_
          exact hq
        · rw [decide_eq_false g6] at hq
          refine k_reduced (b := false) ok (jj_n0 (by omega) (by omega)) ?_
          exact hq
theorem c_matrix_63 (ok : tr_ok E) (s : mst ad h m one two H L) (v : vok m one two H L) {x y : Int} (x0 : 0 ≤ x) (x1 : x < 10) (y0 : 0 ≤ y) (y1 : y < 10) : ∀ (n : Nat) (p c : Int), p + n = m 106 → 0 ≤ p → Q (.inl (some (.inr (.inl (jj (c + sm (fun p => b2 (decide (fd m p 0 = x ∧ hop m two p (fd m p 6) = y))) p n)))))) h → tr_G E 196 Q 63 [some (.inr (.inr (ad 23))), some (.inl (ii x)), some (.inl (ii y)), none, some (.inr (.inl (jj c))), none, some (.inl (ii p)), none] [] h 0 0
  | n, p, c, hn, h1, q => by
    refine T_X8_matrix_63 ok ?_
    have s0 := s.1
    have em := s.2.1
    have vm := v_m v
    have vH := v_H v
    simp (disch := first | omega | decide | assumption | exact st_ne s0 (by decide) (by decide) (by decide) | exact dyn_ne (by assumption) (by decide) | fail) only [Int.reduceAdd, Int.reduceSub, Int.reduceNeg, ii_add, ii_sub, ii_mul, ii_lt, ii_le, ii_eq, ixn_ii, ixo_ii, rem_ii, nb_1, nb_0, nb_bb, bb_0, hI_gv, Int.toNat_of_nonneg, Int.cast_ofNat_Int, ht_sI, ht_sJ, ht_sR, hn_sI, hn_sJ, hn_sR, hR_sI, hR_sJ, kI_v, kV_v, kJ_v, true_and, and_true, forall_eq, tg, ln, rf, ne_eq, not_false_eq_true, forall_const, not_true_eq_false, false_implies, W_X8_matrix_63, st_t s0, st_n s0, st_r s0, em, jz, jo, jj_add]
    refine ⟨by omega, fun h2 => ?_, fun g => ?_⟩
    · obtain ⟨n, rfl⟩ : ∃ n', n = n' + 1 := ⟨n - 1, by omega⟩
      obtain ⟨q0, q1, q2, q3, q4, q5, q6, q7⟩ := v_p v h1 h2
      have hh := hop_rg (k := fd m p 6) v h1 h2 (by omega) (by omega)
      rw [sm_s, ← Int.add_assoc] at q
      refine c_of ok s h1 (by omega) (by omega) (by omega) ?_
      simp (disch := first | omega | decide | assumption | exact st_ne s0 (by decide) (by decide) (by decide) | exact dyn_ne (by assumption) (by decide) | fail) only [Int.reduceAdd, Int.reduceSub, Int.reduceNeg, ii_add, ii_sub, ii_mul, ii_lt, ii_le, ii_eq, ixn_ii, ixo_ii, rem_ii, nb_1, nb_0, nb_bb, bb_0, hI_gv, Int.toNat_of_nonneg, Int.cast_ofNat_Int, ht_sI, ht_sJ, ht_sR, hn_sI, hn_sJ, hn_sR, hR_sI, hR_sJ, kI_v, kV_v, kJ_v, true_and, and_true, forall_eq, tg, ln, rf, ne_eq, not_false_eq_true, forall_const, not_true_eq_false, false_implies, st_t s0]
      refine ⟨fun g3 => ?_, fun g3 => ?_⟩
      · refine c_of ok s h1 (by omega) (by omega) (by omega) ?_
        simp (disch := first | omega | decide | assumption | exact st_ne s0 (by decide) (by decide) (by decide) | exact dyn_ne (by assumption) (by decide) | fail) only [Int.reduceAdd, Int.reduceSub, Int.reduceNeg, ii_add, ii_sub, ii_mul, ii_lt, ii_le, ii_eq, ixn_ii, ixo_ii, rem_ii, nb_1, nb_0, nb_bb, bb_0, hI_gv, Int.toNat_of_nonneg, Int.cast_ofNat_Int, ht_sI, ht_sJ, ht_sR, hn_sI, hn_sJ, hn_sR, hR_sI, hR_sJ, kI_v, kV_v, kJ_v, true_and, and_true, forall_eq, tg, ln, rf, ne_eq, not_false_eq_true, forall_const, not_true_eq_false, false_implies, st_t s0]
        refine c_hopAt ok s v h1 h2 (by omega) (by omega) ?_
        simp (disch := first | omega | decide | assumption | exact st_ne s0 (by decide) (by decide) (by decide) | exact dyn_ne (by assumption) (by decide) | fail) only [Int.reduceAdd, Int.reduceSub, Int.reduceNeg, ii_add, ii_sub, ii_mul, ii_lt, ii_le, ii_eq, ixn_ii, ixo_ii, rem_ii, nb_1, nb_0, nb_bb, bb_0, hI_gv, Int.toNat_of_nonneg, Int.cast_ofNat_Int, ht_sI, ht_sJ, ht_sR, hn_sI, hn_sJ, hn_sR, hR_sI, hR_sJ, kI_v, kV_v, kJ_v, true_and, and_true, forall_eq, tg, ln, rf, ne_eq, not_false_eq_true, forall_const, not_true_eq_false, false_implies]
        refine ⟨fun g4 => ?_, fun g4 => ?_⟩
        · rw [decide_eq_true ⟨g3, g4⟩] at q
          exact c_matrix_63 ok s v x0 x1 y0 y1 n (p + 1) _ (by omega) (by omega) q
        · rw [decide_eq_false (fun e => g4 e.2)] at q
          exact c_matrix_63 ok s v x0 x1 y0 y1 n (p + 1) _ (by omega) (by omega) q
      · rw [decide_eq_false (fun e => g3 e.1)] at q
        exact c_matrix_63 ok s v x0 x1 y0 y1 n (p + 1) _ (by omega) (by omega) q
    · obtain rfl : n = 0 := by omega
      rw [sm_0, Int.add_zero] at q; exact q
theorem c_matrix_153 (ok : tr_ok E) (s : mst ad h m one two H L) (v : vok m one two H L) (ra : acR ad h a) (f : fok H L a) (g : 0 < a.se) {x y t l : Int} (x0 : 0 ≤ x) (x1 : x < 10) (y0 : 0 ≤ y) (y1 : y < 10) : ∀ (n : Nat) (k c : Int), k + n = a.fw → 0 ≤ k → tr_G E 196 Q 126 [some (.inr (.inr (ad 23))), some (.inl (ii x)), some (.inl (ii y)), some (.inl (ii t)), some (.inr (.inl (jj (c + sm (cwk two a x y) k n)))), none, some (.inl (ii (l + 1))), none] [] h 0 0 → tr_G E 196 Q 153 [some (.inr (.inr (ad 23))), some (.inl (ii x)), some (.inl (ii y)), some (.inl (ii t)), some (.inr (.inl (jj c))), none, some (.inl (ii l)), some (.inl (ii k))] [] h 0 0
  | n, k, c, hn, k0, q => by
    refine T_X8_matrix_153 ok ?_
    have s0 := s.1
    have fw := f.1
    have vH := v_H v
    obtain ⟨a1, a2, a3, a4⟩ := ra.2.2 g
    simp (disch := first | omega | decide | assumption | exact st_ne s0 (by decide) (by decide) (by decide) | exact dyn_ne (by assumption) (by decide) | fail) only [Int.reduceAdd, Int.reduceSub, Int.reduceNeg, ii_add, ii_sub, ii_mul, ii_lt, ii_le, ii_eq, ixn_ii, ixo_ii, rem_ii, nb_1, nb_0, nb_bb, bb_0, hI_gv, Int.toNat_of_nonneg, Int.cast_ofNat_Int, ht_sI, ht_sJ, ht_sR, hn_sI, hn_sJ, hn_sR, hR_sI, hR_sJ, kI_v, kV_v, kJ_v, true_and, and_true, forall_eq, tg, ln, rf, ne_eq, not_false_eq_true, forall_const, not_true_eq_false, false_implies, W_X8_matrix_153, st_t s0, st_n s0, st_r s0, a1, jz, jo, jj_add]
    refine ⟨fun k1 => ?_, fun g2 => ?_⟩
    · obtain ⟨n, rfl⟩ : ∃ n', n = n' + 1 := ⟨n - 1, by omega⟩
      have yh := a2 k k0 k1
      have hh := f.2.2.2.2.2.2 k k0 k1
      have hp := f_hp v f k0 k1
      rw [sm_s, ← Int.add_assoc] at q
      unfold cwk at q
      simp (disch := first | omega | decide | assumption | exact st_ne s0 (by decide) (by decide) (by decide) | exact dyn_ne (by assumption) (by decide) | fail) only [Int.reduceAdd, Int.reduceSub, Int.reduceNeg, ii_add, ii_sub, ii_mul, ii_lt, ii_le, ii_eq, ixn_ii, ixo_ii, rem_ii, nb_1, nb_0, nb_bb, bb_0, hI_gv, Int.toNat_of_nonneg, Int.cast_ofNat_Int, ht_sI, ht_sJ, ht_sR, hn_sI, hn_sJ, hn_sR, hR_sI, hR_sJ, kI_v, kV_v, kJ_v, true_and, and_true, forall_eq, tg, ln, rf, ne_eq, not_false_eq_true, forall_const, not_true_eq_false, false_implies, yh]
      refine ⟨by omega, fun g3 => ?_, fun g3 => ?_⟩
      · refine c_lastHop ok s v ra f g k0 k1 ?_
        simp (disch := first | omega | decide | assumption | exact st_ne s0 (by decide) (by decide) (by decide) | exact dyn_ne (by assumption) (by decide) | fail) only [Int.reduceAdd, Int.reduceSub, Int.reduceNeg, ii_add, ii_sub, ii_mul, ii_lt, ii_le, ii_eq, ixn_ii, ixo_ii, rem_ii, nb_1, nb_0, nb_bb, bb_0, hI_gv, Int.toNat_of_nonneg, Int.cast_ofNat_Int, ht_sI, ht_sJ, ht_sR, hn_sI, hn_sJ, hn_sR, hR_sI, hR_sJ, kI_v, kV_v, kJ_v, true_and, and_true, forall_eq, tg, ln, rf, ne_eq, not_false_eq_true, forall_const, not_true_eq_false, false_implies]
        refine ⟨fun g4 => ?_, fun g4 => ?_⟩
        · rw [decide_eq_true ⟨g3, g4⟩] at q
          exact c_matrix_153 ok s v ra f g x0 x1 y0 y1 n (k + 1) _ (by omega) (by omega) q
        · rw [decide_eq_false (fun e => g4 e.2)] at q
          exact c_matrix_153 ok s v ra f g x0 x1 y0 y1 n (k + 1) _ (by omega) (by omega) q
      · rw [decide_eq_false (fun e => g3 e.1)] at q
        exact c_matrix_153 ok s v ra f g x0 x1 y0 y1 n (k + 1) _ (by omega) (by omega) q
    · obtain rfl : n = 0 := by omega
      rw [sm_0, Int.add_zero] at q; exact q
theorem c_matrix_126 (ok : tr_ok E) (s : mst ad h0 m one two H L) (v : vok m one two H L) {x y t : Int} (x0 : 0 ≤ x) (x1 : x < 10) (y0 : 0 ≤ y) (y1 : y < 10) (t0 : 0 ≤ t) (t1 : t ≤ 1) : ∀ (n : Nat) (l c : Int) (h : tr_H), l + n = m 5 → 0 ≤ l → fr ad pJ fJ false h0 h → (∀ h', fr ad pJ fJ false h0 h' → Q (.inl (some (.inr (.inl (frc (jj (m 2 * (c + sm (mxL m one two H L x y) l n))) (jj (m 3)) (decide (t = 1))))))) h') → tr_G E 196 Q 126 [some (.inr (.inr (ad 23))), some (.inl (ii x)), some (.inl (ii y)), some (.inl (ii t)), some (.inr (.inl (jj c))), none, some (.inl (ii l)), none] [] h 0 0
  | n, l, c, h, hn, l0, f, q => by
    refine T_X8_matrix_126 ok ?_
    have s1 := mst_j s f
    have s0 := s1.1
    have em := s1.2.1
    obtain ⟨vH, vL, vl, v0, v1, v2, v3, v4, v5, vr, vm, vp⟩ := id v
    simp (disch := first | omega | decide | assumption | exact st_ne s0 (by decide) (by decide) (by decide) | exact dyn_ne (by assumption) (by decide) | fail) only [Int.reduceAdd, Int.reduceSub, Int.reduceNeg, ii_add, ii_sub, ii_mul, ii_lt, ii_le, ii_eq, ixn_ii, ixo_ii, rem_ii, nb_1, nb_0, nb_bb, bb_0, hI_gv, Int.toNat_of_nonneg, Int.cast_ofNat_Int, ht_sI, ht_sJ, ht_sR, hn_sI, hn_sJ, hn_sR, hR_sI, hR_sJ, kI_v, kV_v, kJ_v, true_and, and_true, forall_eq, tg, ln, rf, ne_eq, not_false_eq_true, forall_const, not_true_eq_false, false_implies, W_X8_matrix_126, st_t s0, st_n s0, st_r s0, em]
    refine ⟨by omega, fun g => ?_, fun g => ?_⟩
    · obtain ⟨n, rfl⟩ : ∃ n', n = n' + 1 := ⟨n - 1, by omega⟩
      have es : c + sm (mxL m one two H L x y) l (n + 1) = c + mxL m one two H L x y l + sm (mxL m one two H L x y) (l + 1) n := by
        rw [sm_s, ← Int.add_assoc]
      rw [es] at q
      unfold mxL at q
      refine c_jointsOf ok s1 v l0 (by omega) (fun h1 f1 ra r25 => ?_)
      have t1' := mst_j s1 f1
      have ka := jn_aok (l := l) v
      have jr := jts_rg (l := l) v
      simp (disch := first | omega | decide | assumption | exact st_ne s0 (by decide) (by decide) (by decide) | exact dyn_ne (by assumption) (by decide) | fail) only [Int.reduceAdd, Int.reduceSub, Int.reduceNeg, ii_add, ii_sub, ii_mul, ii_lt, ii_le, ii_eq, ixn_ii, ixo_ii, rem_ii, nb_1, nb_0, nb_bb, bb_0, hI_gv, Int.toNat_of_nonneg, Int.cast_ofNat_Int, ht_sI, ht_sJ, ht_sR, hn_sI, hn_sJ, hn_sR, hR_sI, hR_sJ, kI_v, kV_v, kJ_v, true_and, and_true, forall_eq, tg, ln, rf, ne_eq, not_false_eq_true, forall_const, not_true_eq_false, false_implies]
      refine ⟨fun g5 => ?_, fun g5 => ?_⟩
      · rw [if_pos g5] at q
        obtain ⟨o, se, ej, fk⟩ := jts_p ka (by omega)
        have fw := fk.1
        refine c_matrix_153 ok t1' v ra fk se x0 x1 y0 y1 (jn m one two H L l).fw.toNat 0 c (by omega) (by omega) ?_
        exact c_matrix_126 ok s v x0 x1 y0 y1 t0 t1 n (l + 1) _ h1 (by omega) (by omega) (fr_tr f f1) q
      · rw [if_neg g5, Int.add_zero] at q
        exact c_matrix_126 ok s v x0 x1 y0 y1 t0 t1 n (l + 1) _ h1 (by omega) (by omega) (fr_tr f f1) q
    · obtain rfl : n = 0 := by omega
      have hq := q h f
      rw [sm_0, Int.add_zero] at hq
      simp (disch := first | omega | decide | assumption | exact st_ne s0 (by decide) (by decide) (by decide) | exact dyn_ne (by assumption) (by decide) | fail) only [Int.reduceAdd, Int.reduceSub, Int.reduceNeg, ii_add, ii_sub, ii_mul, ii_lt, ii_le, ii_eq, ixn_ii, ixo_ii, rem_ii, nb_1, nb_0, nb_bb, bb_0, hI_gv, Int.toNat_of_nonneg, Int.cast_ofNat_Int, ht_sI, ht_sJ, ht_sR, hn_sI, hn_sJ, hn_sR, hR_sI, hR_sJ, kI_v, kV_v, kJ_v, true_and, and_true, forall_eq, tg, ln, rf, ne_eq, not_false_eq_true, forall_const, not_true_eq_false, false_implies, i64_ii, jj_mul]
      refine ⟨by omega, by omega, fun g6 => ?_, fun g6 => ?_⟩
      · rw [decide_eq_true g6] at hq
        refine c_part (b := true) ok (jj_n0 (by omega) (by omega)) ?_
        exact hq
      · rw [decide_eq_false g6] at hq
        refine c_part (b := false) ok (jj_n0 (by omega) (by omega)) ?_
        exact hq
theorem M_matrix (ok : tr_ok E) (s : mst ad h m one two H L) (v : vok m one two H L) {x y t : Int} (x1 : -2147483648 ≤ x) (x2 : x ≤ 2147483647) (y1 : -2147483648 ≤ y) (y2 : y ≤ 2147483647) (t1 : -2147483648 ≤ t) (t2 : t ≤ 2147483647) (q : (0 ≤ x ∧ x < H) ∧ (0 ≤ y ∧ y < H) → 0 ≤ t ∧ t ≤ 2 → ∀ h', mpo ad h 0 0 h' → Q (.inl (some (.inr (.inl (mxS m one two H L x y t))))) h') (r : ¬ ((0 ≤ x ∧ x < H) ∧ (0 ≤ y ∧ y < H)) → ∀ h', mpo ad h 1 0 h' → Q (.inl (some (.inr (.inl (jj 0))))) h') (r2 : (0 ≤ x ∧ x < H) ∧ (0 ≤ y ∧ y < H) → ¬ (0 ≤ t ∧ t ≤ 2) → ∀ h', mpo ad h 2 1 h' → Q (.inl (some (.inr (.inl (jj 0))))) h') : tr_C E 196 [.inr (.inr (ad 23)), .inl (ii x), .inl (ii y), .inl (ii t)] h Q := by
  refine T_X8_matrix ok ?_
  have ms := m_start s.1
  have s1 := mst_q s ms.1
  obtain ⟨vH, vL, vl, v0, v1, v2, v3, v4, v5, vr, vm, vp⟩ := id v
  simp (disch := first | omega | decide | assumption | exact st_ne s0 (by decide) (by decide) (by decide) | exact dyn_ne (by assumption) (by decide) | fail) only [Int.reduceAdd, Int.reduceSub, Int.reduceNeg, ii_add, ii_sub, ii_mul, ii_lt, ii_le, ii_eq, ixn_ii, ixo_ii, rem_ii, nb_1, nb_0, nb_bb, bb_0, hI_gv, Int.toNat_of_nonneg, Int.cast_ofNat_Int, ht_sI, ht_sJ, ht_sR, hn_sI, hn_sJ, hn_sR, hR_sI, hR_sJ, kI_v, kV_v, kJ_v, true_and, and_true, forall_eq, tg, ln, rf, ne_eq, not_false_eq_true, forall_const, not_true_eq_false, false_implies, W_X8_matrix, st_t s.1, jz]
  refine c_isHop ok s1 v x1 x2 ?_
  simp (disch := first | omega | decide | assumption | exact st_ne s0 (by decide) (by decide) (by decide) | exact dyn_ne (by assumption) (by decide) | fail) only [Int.reduceAdd, Int.reduceSub, Int.reduceNeg, ii_add, ii_sub, ii_mul, ii_lt, ii_le, ii_eq, ixn_ii, ixo_ii, rem_ii, nb_1, nb_0, nb_bb, bb_0, hI_gv, Int.toNat_of_nonneg, Int.cast_ofNat_Int, ht_sI, ht_sJ, ht_sR, hn_sI, hn_sJ, hn_sR, hR_sI, hR_sJ, kI_v, kV_v, kJ_v, true_and, and_true, forall_eq, tg, ln, rf, ne_eq, not_false_eq_true, forall_const, not_true_eq_false, false_implies, st_t s.1]
  refine ⟨fun g => ?_, fun g => ?_⟩
  · rw [decide_eq_false_iff_not] at g
    refine c_fine0 ok s.1 ms (by omega) (by omega) (by omega) (by omega) (fun h' p => ?_)
    simp (disch := first | omega | decide | assumption | exact st_ne s0 (by decide) (by decide) (by decide) | exact dyn_ne (by assumption) (by decide) | fail) only [Int.reduceAdd, Int.reduceSub, Int.reduceNeg, ii_add, ii_sub, ii_mul, ii_lt, ii_le, ii_eq, ixn_ii, ixo_ii, rem_ii, nb_1, nb_0, nb_bb, bb_0, hI_gv, Int.toNat_of_nonneg, Int.cast_ofNat_Int, ht_sI, ht_sJ, ht_sR, hn_sI, hn_sJ, hn_sR, hR_sI, hR_sJ, kI_v, kV_v, kJ_v, true_and, and_true, forall_eq, tg, ln, rf, ne_eq, not_false_eq_true, forall_const, not_true_eq_false, false_implies, Int.reduceEq, Int.reduceLT, Int.reduceLE, implies_true, and_self, reduceCtorEq, false_and,]
    exact r (fun e => g e.1) h' p
  · rw [Bool.not_eq_false, decide_eq_true_eq] at g
    refine c_isHop ok s1 v y1 y2 ?_
    simp (disch := first | omega | decide | assumption | exact st_ne s0 (by decide) (by decide) (by decide) | exact dyn_ne (by assumption) (by decide) | fail) only [Int.reduceAdd, Int.reduceSub, Int.reduceNeg, ii_add, ii_sub, ii_mul, ii_lt, ii_le, ii_eq, ixn_ii, ixo_ii, rem_ii, nb_1, nb_0, nb_bb, bb_0, hI_gv, Int.toNat_of_nonneg, Int.cast_ofNat_Int, ht_sI, ht_sJ, ht_sR, hn_sI, hn_sJ, hn_sR, hR_sI, hR_sJ, kI_v, kV_v, kJ_v, true_and, and_true, forall_eq, tg, ln, rf, ne_eq, not_false_eq_true, forall_const, not_true_eq_false, false_implies, st_t s.1]
    refine ⟨fun g2 => ?_, fun g2 => ?_⟩
    · rw [decide_eq_false_iff_not] at g2
      refine c_fine0 ok s.1 ms (by omega) (by omega) (by omega) (by omega) (fun h' p => ?_)
      simp (disch := first | omega | decide | assumption | exact st_ne s0 (by decide) (by decide) (by decide) | exact dyn_ne (by assumption) (by decide) | fail) only [Int.reduceAdd, Int.reduceSub, Int.reduceNeg, ii_add, ii_sub, ii_mul, ii_lt, ii_le, ii_eq, ixn_ii, ixo_ii, rem_ii, nb_1, nb_0, nb_bb, bb_0, hI_gv, Int.toNat_of_nonneg, Int.cast_ofNat_Int, ht_sI, ht_sJ, ht_sR, hn_sI, hn_sJ, hn_sR, hR_sI, hR_sJ, kI_v, kV_v, kJ_v, true_and, and_true, forall_eq, tg, ln, rf, ne_eq, not_false_eq_true, forall_const, not_true_eq_false, false_implies, Int.reduceEq, Int.reduceLT, Int.reduceLE, implies_true, and_self, reduceCtorEq, false_and,]
      exact r (fun e => g2 e.2) h' p
    · rw [Bool.not_eq_false, decide_eq_true_eq] at g2
      refine c_fine1 ok s1.1 ms.2.1 ?_
      simp (disch := first | omega | decide | assumption | exact st_ne s0 (by decide) (by decide) (by decide) | exact dyn_ne (by assumption) (by decide) | fail) only [Int.reduceAdd, Int.reduceSub, Int.reduceNeg, ii_add, ii_sub, ii_mul, ii_lt, ii_le, ii_eq, ixn_ii, ixo_ii, rem_ii, nb_1, nb_0, nb_bb, bb_0, hI_gv, Int.toNat_of_nonneg, Int.cast_ofNat_Int, ht_sI, ht_sJ, ht_sR, hn_sI, hn_sJ, hn_sR, hR_sI, hR_sJ, kI_v, kV_v, kJ_v, true_and, and_true, forall_eq, tg, ln, rf, ne_eq, not_false_eq_true, forall_const, not_true_eq_false, false_implies, Int.reduceEq, Int.reduceLT, Int.reduceLE, implies_true, and_self, reduceCtorEq, false_and,]
      refine c_within ok t1 t2 (by omega) (by omega) (by omega) (by omega) ?_
      simp (disch := first | omega | decide | assumption | exact st_ne s0 (by decide) (by decide) (by decide) | exact dyn_ne (by assumption) (by decide) | fail) only [Int.reduceAdd, Int.reduceSub, Int.reduceNeg, ii_add, ii_sub, ii_mul, ii_lt, ii_le, ii_eq, ixn_ii, ixo_ii, rem_ii, nb_1, nb_0, nb_bb, bb_0, hI_gv, Int.toNat_of_nonneg, Int.cast_ofNat_Int, ht_sI, ht_sJ, ht_sR, hn_sI, hn_sJ, hn_sR, hR_sI, hR_sJ, kI_v, kV_v, kJ_v, true_and, and_true, forall_eq, tg, ln, rf, ne_eq, not_false_eq_true, forall_const, not_true_eq_false, false_implies, st_t s.1]
      refine c_fineb ok s.1 ms (by omega) (by omega) (by omega) (by omega) (fun g3 => ?_) (fun g3 h' p => ?_)
      · rw [decide_eq_true_eq] at g3
        have qq := q ⟨g, g2⟩ g3
        unfold mxS at qq
        simp (disch := first | omega | decide | assumption | exact st_ne s0 (by decide) (by decide) (by decide) | exact dyn_ne (by assumption) (by decide) | fail) only [Int.reduceAdd, Int.reduceSub, Int.reduceNeg, ii_add, ii_sub, ii_mul, ii_lt, ii_le, ii_eq, ixn_ii, ixo_ii, rem_ii, nb_1, nb_0, nb_bb, bb_0, hI_gv, Int.toNat_of_nonneg, Int.cast_ofNat_Int, ht_sI, ht_sJ, ht_sR, hn_sI, hn_sJ, hn_sR, hR_sI, hR_sJ, kI_v, kV_v, kJ_v, true_and, and_true, forall_eq, tg, ln, rf, ne_eq, not_false_eq_true, forall_const, not_true_eq_false, false_implies, Int.reduceEq, Int.reduceLT, Int.reduceLE, implies_true, and_self, reduceCtorEq, false_and,]
        refine ⟨fun g5 => ?_, fun g5 => ?_⟩
        · rw [if_pos g5] at qq
          refine c_matrix_63 ok s1 v g.1 (by omega) g2.1 (by omega) (m 106).toNat 0 0 (by omega) (by omega) ?_
          rw [Int.zero_add]
          exact qq _ ms
        · rw [if_neg g5] at qq
          refine c_matrix_126 ok s1 v g.1 (by omega) g2.1 (by omega) (by omega) (by omega) (m 5).toNat 0 0 _ (by omega) (by omega) fr_rfl (fun h' f' => ?_)
          rw [Int.zero_add]
          exact qq h' (mpo_j s.1 ms f')
      · rw [decide_eq_false_iff_not] at g3
        simp (disch := first | omega | decide | assumption | exact st_ne s0 (by decide) (by decide) (by decide) | exact dyn_ne (by assumption) (by decide) | fail) only [Int.reduceAdd, Int.reduceSub, Int.reduceNeg, ii_add, ii_sub, ii_mul, ii_lt, ii_le, ii_eq, ixn_ii, ixo_ii, rem_ii, nb_1, nb_0, nb_bb, bb_0, hI_gv, Int.toNat_of_nonneg, Int.cast_ofNat_Int, ht_sI, ht_sJ, ht_sR, hn_sI, hn_sJ, hn_sR, hR_sI, hR_sJ, kI_v, kV_v, kJ_v, true_and, and_true, forall_eq, tg, ln, rf, ne_eq, not_false_eq_true, forall_const, not_true_eq_false, false_implies, Int.reduceEq, Int.reduceLT, Int.reduceLE, implies_true, and_self, reduceCtorEq, false_and,]
        exact r2 ⟨g, g2⟩ g3 h' p
end MTX
