/-! WALKS, GONE ON -/
section WK2
variable {E : tr_Env} {ad : Nat → Nat} {h h0 : tr_H} {Q : tr_Q} {m one two : Int → Int} {H L : Int} {a : Ac}
def waC (a : Ac) (k i : Int) : Prop := 0 < jts a ∧ (0 ≤ k ∧ k < a.fw) ∧ (0 ≤ i ∧ i < wln a k)
theorem M_walkAt (ok : tr_ok E) (s : mst ad h m one two H L) (v : vok m one two H L) {l k i : Int} (l1 : -2147483648 ≤ l) (l2 : l ≤ 2147483647) (k1 : -2147483648 ≤ k) (k2 : k ≤ 2147483647) (w1 : -2147483648 ≤ i) (w2 : i ≤ 2147483647) (q : (0 ≤ l ∧ l < m 5) → waC (jn m one two H L l) k i → ∀ h', mpo ad h 0 0 h' → Q (.inl (some (.inl (ii ((jn m one two H L l).fM ((jn m one two H L l).fb k + i)))))) h') (r : ¬ (0 ≤ l ∧ l < m 5) → ∀ h', mpo ad h 2 1 h' → Q (.inl (some (.inl (ii 0)))) h') (r2 : (0 ≤ l ∧ l < m 5) → ¬ waC (jn m one two H L l) k i → ∀ h', mpo ad h 1 0 h' → Q (.inl (some (.inl (ii 0)))) h') : tr_C E 186 [.inr (.inr (ad 23)), .inl (ii l), .inl (ii k), .inl (ii i)] h Q := by
  refine T_X8_walkAt ok ?_
  have ms := m_start s.1
  have s1 := mst_q s ms.1
  have v5 := v_5 v
  simp (disch := first | omega | decide | assumption | exact st_ne s0 (by decide) (by decide) (by decide) | exact dyn_ne (by assumption) (by decide) | fail) only [Int.reduceAdd, Int.reduceSub, Int.reduceNeg, ii_add, ii_sub, ii_mul, ii_lt, ii_le, ii_eq, ixn_ii, ixo_ii, rem_ii, nb_1, nb_0, nb_bb, bb_0, hI_gv, Int.toNat_of_nonneg, Int.cast_ofNat_Int, ht_sI, ht_sJ, ht_sR, hn_sI, hn_sJ, hn_sR, hR_sI, hR_sJ, kI_v, kV_v, kJ_v, true_and, and_true, forall_eq, tg, ln, rf, ne_eq, not_false_eq_true, forall_const, not_true_eq_false, false_implies, W_X8_walkAt, st_t s.1]
  refine c_isLabel ok s1 v l1 l2 ?_
  simp (disch := first | omega | decide | assumption | exact st_ne s0 (by decide) (by decide) (by decide) | exact dyn_ne (by assumption) (by decide) | fail) only [Int.reduceAdd, Int.reduceSub, Int.reduceNeg, ii_add, ii_sub, ii_mul, ii_lt, ii_le, ii_eq, ixn_ii, ixo_ii, rem_ii, nb_1, nb_0, nb_bb, bb_0, hI_gv, Int.toNat_of_nonneg, Int.cast_ofNat_Int, ht_sI, ht_sJ, ht_sR, hn_sI, hn_sJ, hn_sR, hR_sI, hR_sJ, kI_v, kV_v, kJ_v, true_and, and_true, forall_eq, tg, ln, rf, ne_eq, not_false_eq_true, forall_const, not_true_eq_false, false_implies, st_t s.1]
  refine c_fineb ok s.1 ms (by omega) (by omega) (by omega) (by omega) (fun g => ?_) (fun g h' p => ?_)
  · rw [decide_eq_true_eq] at g
    simp (disch := first | omega | decide | assumption | exact st_ne s0 (by decide) (by decide) (by decide) | exact dyn_ne (by assumption) (by decide) | fail) only [Int.reduceAdd, Int.reduceSub, Int.reduceNeg, ii_add, ii_sub, ii_mul, ii_lt, ii_le, ii_eq, ixn_ii, ixo_ii, rem_ii, nb_1, nb_0, nb_bb, bb_0, hI_gv, Int.toNat_of_nonneg, Int.cast_ofNat_Int, ht_sI, ht_sJ, ht_sR, hn_sI, hn_sJ, hn_sR, hR_sI, hR_sJ, kI_v, kV_v, kJ_v, true_and, and_true, forall_eq, tg, ln, rf, ne_eq, not_false_eq_true, forall_const, not_true_eq_false, false_implies, Int.reduceEq, Int.reduceLT, Int.reduceLE, implies_true, and_self, reduceCtorEq, false_and, st_t s.1]
    refine c_jointsOf ok s1 v g.1 (by omega) (fun h1 f1 ra r25 => ?_)
    have ka := jn_aok (l := l) v
    have jr := jts_rg (l := l) v
    have mp := mpo_j s.1 ms f1
    have t1 := mst_j s1 f1
    have t0 := t1.1
    have qq := q g
    have rr := r2 g
    clear q r r2
    generalize jn m one two H L l = a at *
    simp (disch := first | omega | decide | assumption | exact st_ne s0 (by decide) (by decide) (by decide) | exact dyn_ne (by assumption) (by decide) | fail) only [Int.reduceAdd, Int.reduceSub, Int.reduceNeg, ii_add, ii_sub, ii_mul, ii_lt, ii_le, ii_eq, ixn_ii, ixo_ii, rem_ii, nb_1, nb_0, nb_bb, bb_0, hI_gv, Int.toNat_of_nonneg, Int.cast_ofNat_Int, ht_sI, ht_sJ, ht_sR, hn_sI, hn_sJ, hn_sR, hR_sI, hR_sJ, kI_v, kV_v, kJ_v, true_and, and_true, forall_eq, tg, ln, rf, ne_eq, not_false_eq_true, forall_const, not_true_eq_false, false_implies, st_t t0]
    by_cases gj : 0 < jts a
    · obtain ⟨o, se, ej, fk⟩ := jts_p ka gj
      obtain ⟨a1, a2, a3, a4⟩ := ra.2.2 se
      have fw := fk.1
      refine ⟨fun e1 => by omega, fun _ => ?_⟩
      simp (disch := first | omega | decide | assumption | exact st_ne s0 (by decide) (by decide) (by decide) | exact dyn_ne (by assumption) (by decide) | fail) only [Int.reduceAdd, Int.reduceSub, Int.reduceNeg, ii_add, ii_sub, ii_mul, ii_lt, ii_le, ii_eq, ixn_ii, ixo_ii, rem_ii, nb_1, nb_0, nb_bb, bb_0, hI_gv, Int.toNat_of_nonneg, Int.cast_ofNat_Int, ht_sI, ht_sJ, ht_sR, hn_sI, hn_sJ, hn_sR, hR_sI, hR_sJ, kI_v, kV_v, kJ_v, true_and, and_true, forall_eq, tg, ln, rf, ne_eq, not_false_eq_true, forall_const, not_true_eq_false, false_implies, a1]
      refine c_within ok k1 k2 (by omega) (by omega) (by omega) (by omega) ?_
      simp (disch := first | omega | decide | assumption | exact st_ne s0 (by decide) (by decide) (by decide) | exact dyn_ne (by assumption) (by decide) | fail) only [Int.reduceAdd, Int.reduceSub, Int.reduceNeg, ii_add, ii_sub, ii_mul, ii_lt, ii_le, ii_eq, ixn_ii, ixo_ii, rem_ii, nb_1, nb_0, nb_bb, bb_0, hI_gv, Int.toNat_of_nonneg, Int.cast_ofNat_Int, ht_sI, ht_sJ, ht_sR, hn_sI, hn_sJ, hn_sR, hR_sI, hR_sJ, kI_v, kV_v, kJ_v, true_and, and_true, forall_eq, tg, ln, rf, ne_eq, not_false_eq_true, forall_const, not_true_eq_false, false_implies, st_t t0]
      refine ⟨fun g4 => ?_, fun g4 => ?_⟩
      · rw [decide_eq_false_iff_not] at g4
        refine c_fine0 ok s.1 mp (by omega) (by omega) (by omega) (by omega) (fun h' p => ?_)
        simp (disch := first | omega | decide | assumption | exact st_ne s0 (by decide) (by decide) (by decide) | exact dyn_ne (by assumption) (by decide) | fail) only [Int.reduceAdd, Int.reduceSub, Int.reduceNeg, ii_add, ii_sub, ii_mul, ii_lt, ii_le, ii_eq, ixn_ii, ixo_ii, rem_ii, nb_1, nb_0, nb_bb, bb_0, hI_gv, Int.toNat_of_nonneg, Int.cast_ofNat_Int, ht_sI, ht_sJ, ht_sR, hn_sI, hn_sJ, hn_sR, hR_sI, hR_sJ, kI_v, kV_v, kJ_v, true_and, and_true, forall_eq, tg, ln, rf, ne_eq, not_false_eq_true, forall_const, not_true_eq_false, false_implies, Int.reduceEq, Int.reduceLT, Int.reduceLE, implies_true, and_self, reduceCtorEq, false_and,]
        exact rr (fun e => g4 ⟨e.2.1.1, by have := e.2.1.2; omega⟩) h' p
      · rw [Bool.not_eq_false, decide_eq_true_eq] at g4
        have lnn := f_ln fk (k := k) (by omega) (by omega)
        refine c_longAt ok t0 ra fk se (by omega) (by omega) ?_
        simp (disch := first | omega | decide | assumption | exact st_ne s0 (by decide) (by decide) (by decide) | exact dyn_ne (by assumption) (by decide) | fail) only [Int.reduceAdd, Int.reduceSub, Int.reduceNeg, ii_add, ii_sub, ii_mul, ii_lt, ii_le, ii_eq, ixn_ii, ixo_ii, rem_ii, nb_1, nb_0, nb_bb, bb_0, hI_gv, Int.toNat_of_nonneg, Int.cast_ofNat_Int, ht_sI, ht_sJ, ht_sR, hn_sI, hn_sJ, hn_sR, hR_sI, hR_sJ, kI_v, kV_v, kJ_v, true_and, and_true, forall_eq, tg, ln, rf, ne_eq, not_false_eq_true, forall_const, not_true_eq_false, false_implies]
        refine c_within ok w1 w2 (by omega) (by omega) (by omega) (by omega) ?_
        simp (disch := first | omega | decide | assumption | exact st_ne s0 (by decide) (by decide) (by decide) | exact dyn_ne (by assumption) (by decide) | fail) only [Int.reduceAdd, Int.reduceSub, Int.reduceNeg, ii_add, ii_sub, ii_mul, ii_lt, ii_le, ii_eq, ixn_ii, ixo_ii, rem_ii, nb_1, nb_0, nb_bb, bb_0, hI_gv, Int.toNat_of_nonneg, Int.cast_ofNat_Int, ht_sI, ht_sJ, ht_sR, hn_sI, hn_sJ, hn_sR, hR_sI, hR_sJ, kI_v, kV_v, kJ_v, true_and, and_true, forall_eq, tg, ln, rf, ne_eq, not_false_eq_true, forall_const, not_true_eq_false, false_implies, st_t t0]
        refine ⟨fun g5 => ?_, fun g5 => ?_⟩
        · rw [decide_eq_false_iff_not] at g5
          refine c_fine0 ok s.1 mp (by omega) (by omega) (by omega) (by omega) (fun h' p => ?_)
          simp (disch := first | omega | decide | assumption | exact st_ne s0 (by decide) (by decide) (by decide) | exact dyn_ne (by assumption) (by decide) | fail) only [Int.reduceAdd, Int.reduceSub, Int.reduceNeg, ii_add, ii_sub, ii_mul, ii_lt, ii_le, ii_eq, ixn_ii, ixo_ii, rem_ii, nb_1, nb_0, nb_bb, bb_0, hI_gv, Int.toNat_of_nonneg, Int.cast_ofNat_Int, ht_sI, ht_sJ, ht_sR, hn_sI, hn_sJ, hn_sR, hR_sI, hR_sJ, kI_v, kV_v, kJ_v, true_and, and_true, forall_eq, tg, ln, rf, ne_eq, not_false_eq_true, forall_const, not_true_eq_false, false_implies, Int.reduceEq, Int.reduceLT, Int.reduceLE, implies_true, and_self, reduceCtorEq, false_and,]
          exact rr (fun e => g5 ⟨e.2.2.1, by have := e.2.2.2; omega⟩) h' p
        · rw [Bool.not_eq_false, decide_eq_true_eq] at g5
          refine c_fine1 ok t0 mp.2.1 ?_
          have hq := qq ⟨gj, by omega, by omega⟩ h1 mp
          have x1 := a3 k (by omega) (by omega)
          have x2 := a4 k (a.fb k + i) (by omega) (by omega) (by omega) (by omega)
          have b1 := f_b0 fk (k := k) (by omega) (by omega)
          have b2 := f_b0 fk (k := k + 1) (by omega) (by omega)
          have hb := fk.2.2.2.2.1 k (a.fb k + i) (by omega) (by omega) (by omega) (by omega)
          have k0 : 0 ≤ k := g4.1
          have ix : a.fb k - k + i = a.fb k + i - k := by omega
          have i0 : 0 ≤ a.fb k + i - k := by omega
          simp (disch := first | omega | decide | assumption | exact st_ne s0 (by decide) (by decide) (by decide) | exact dyn_ne (by assumption) (by decide) | fail) only [Int.reduceAdd, Int.reduceSub, Int.reduceNeg, ii_add, ii_sub, ii_mul, ii_lt, ii_le, ii_eq, ixn_ii, ixo_ii, rem_ii, nb_1, nb_0, nb_bb, bb_0, hI_gv, Int.toNat_of_nonneg, Int.cast_ofNat_Int, ht_sI, ht_sJ, ht_sR, hn_sI, hn_sJ, hn_sR, hR_sI, hR_sJ, kI_v, kV_v, kJ_v, true_and, and_true, forall_eq, tg, ln, rf, ne_eq, not_false_eq_true, forall_const, not_true_eq_false, false_implies, Int.reduceEq, Int.reduceLT, Int.reduceLE, implies_true, and_self, reduceCtorEq, false_and, st_t t0, st_n t0, st_r t0, x1, ix, x2]
          exact ⟨by omega, by omega, hq⟩
    · refine ⟨fun _ => ?_, fun g => absurd (by omega) g⟩
      refine c_fine0 ok s.1 mp (by omega) (by omega) (by omega) (by omega) (fun h' p => ?_)
      simp (disch := first | omega | decide | assumption | exact st_ne s0 (by decide) (by decide) (by decide) | exact dyn_ne (by assumption) (by decide) | fail) only [Int.reduceAdd, Int.reduceSub, Int.reduceNeg, ii_add, ii_sub, ii_mul, ii_lt, ii_le, ii_eq, ixn_ii, ixo_ii, rem_ii, nb_1, nb_0, nb_bb, bb_0, hI_gv, Int.toNat_of_nonneg, Int.cast_ofNat_Int, ht_sI, ht_sJ, ht_sR, hn_sI, hn_sJ, hn_sR, hR_sI, hR_sJ, kI_v, kV_v, kJ_v, true_and, and_true, forall_eq, tg, ln, rf, ne_eq, not_false_eq_true, forall_const, not_true_eq_false, false_implies, Int.reduceEq, Int.reduceLT, Int.reduceLE, implies_true, and_self, reduceCtorEq, false_and,]
      exact rr (fun e => gj e.1) h' p
  · rw [decide_eq_false_iff_not] at g
    simp (disch := first | omega | decide | assumption | exact st_ne s0 (by decide) (by decide) (by decide) | exact dyn_ne (by assumption) (by decide) | fail) only [Int.reduceAdd, Int.reduceSub, Int.reduceNeg, ii_add, ii_sub, ii_mul, ii_lt, ii_le, ii_eq, ixn_ii, ixo_ii, rem_ii, nb_1, nb_0, nb_bb, bb_0, hI_gv, Int.toNat_of_nonneg, Int.cast_ofNat_Int, ht_sI, ht_sJ, ht_sR, hn_sI, hn_sJ, hn_sR, hR_sI, hR_sJ, kI_v, kV_v, kJ_v, true_and, and_true, forall_eq, tg, ln, rf, ne_eq, not_false_eq_true, forall_const, not_true_eq_false, false_implies, Int.reduceEq, Int.reduceLT, Int.reduceLE, implies_true, and_self, reduceCtorEq, false_and,]
    exact r g h' p
/-- the class: what was joined -/
theorem k_linkOfWalk (ok : tr_ok E) (s0 : stat ad h) (ra : acK ad h a) (f : fok H L a) (g : 0 < a.se) {k i : Int} (k0 : 0 ≤ k) (k1 : k < a.fw) (i0 : 0 ≤ i) (i1 : i < wln a k) (q : Q (.inl (some (.inl (ii (a.fM (a.fb k + i)))))) h) : tr_C E 19 [.inr (.inr (ad 2)), .inl (ii k), .inl (ii i)] h Q := by
  refine T_X1_linkOfWalk ok ?_
  obtain ⟨a1, a2, a3⟩ := ra.2.2.2 g
  have b1 := f_b0 f (k := k) (by omega) (by omega)
  have lnn := f_ln f k0 k1
  have b2 := f_b0 f (k := k + 1) (by omega) (by omega)
  have fw := f.1
  have x1 := (a2 k k0 k1).2.2
  have x2 := a3 (a.fb k + i) (by omega) (by omega)
  simp (disch := first | omega | decide | assumption | exact st_ne s0 (by decide) (by decide) (by decide) | exact dyn_ne (by assumption) (by decide) | fail) only [Int.reduceAdd, Int.reduceSub, Int.reduceNeg, ii_add, ii_sub, ii_mul, ii_lt, ii_le, ii_eq, ixn_ii, ixo_ii, rem_ii, nb_1, nb_0, nb_bb, bb_0, hI_gv, Int.toNat_of_nonneg, Int.cast_ofNat_Int, ht_sI, ht_sJ, ht_sR, hn_sI, hn_sJ, hn_sR, hR_sI, hR_sJ, kI_v, kV_v, kJ_v, true_and, and_true, forall_eq, tg, ln, rf, ne_eq, not_false_eq_true, forall_const, not_true_eq_false, false_implies, W_X1_linkOfWalk, st_t s0, st_n s0, st_r s0, x1, x2]
  exact ⟨by omega, by omega, q⟩
theorem k_lastHop (ok : tr_ok E) (s0 : stat ad h) {nn : Nat} (n : nst ad h nn m one two H L) (v : vok m one two H L) (ra : acK ad h a) (f : fok H L a) (g : 0 < a.se) {k : Int} (k0 : 0 ≤ k) (k1 : k < a.fw) (q : Q (.inl (some (.inl (ii (whp two a k))))) h) : tr_C E 20 [.inr (.inr (ad 2)), .inr (.inr nn), .inl (ii k)] h Q := by
  refine T_X1_lastHop ok ?_
  obtain ⟨a1, a2, a3⟩ := ra.2.2.2 g
  obtain ⟨y1, y2, y3⟩ := a2 k k0 k1
  have lnn := f_ln f k0 k1
  have fw := f.1
  have vL := v_L v
  obtain ⟨n0, n1, n2, -, ⟨ea, eb, ec⟩, -⟩ := id n
  have yl : gv h (ad 15) k = wln a k := y2
  unfold whp at q
  simp (disch := first | omega | decide | assumption | exact st_ne s0 (by decide) (by decide) (by decide) | exact dyn_ne (by assumption) (by decide) | fail) only [Int.reduceAdd, Int.reduceSub, Int.reduceNeg, ii_add, ii_sub, ii_mul, ii_lt, ii_le, ii_eq, ixn_ii, ixo_ii, rem_ii, nb_1, nb_0, nb_bb, bb_0, hI_gv, Int.toNat_of_nonneg, Int.cast_ofNat_Int, ht_sI, ht_sJ, ht_sR, hn_sI, hn_sJ, hn_sR, hR_sI, hR_sJ, kI_v, kV_v, kJ_v, true_and, and_true, forall_eq, tg, ln, rf, ne_eq, not_false_eq_true, forall_const, not_true_eq_false, false_implies, W_X1_lastHop, st_t s0, st_n s0, st_r s0, y1, yl, n0]
  refine ⟨by omega, fun g2 => ⟨by omega, ?_⟩, fun g2 => ?_⟩
  · rw [if_pos g2] at q; exact q
  · rw [if_neg g2] at q
    refine k_linkOfWalk ok s0 ra f g k0 k1 (by omega) (by omega) ?_
    have e : a.fb k + (wln a k - 1) = a.fb (k + 1) - 2 := by omega
    have hb := f.2.2.2.2.1 k (a.fb (k + 1) - 2) k0 k1 (by omega) (by omega)
    have x5 := ec _ hb.1 hb.2
    rw [e]
    simp (disch := first | omega | decide | assumption | exact st_ne s0 (by decide) (by decide) (by decide) | exact dyn_ne (by assumption) (by decide) | fail) only [Int.reduceAdd, Int.reduceSub, Int.reduceNeg, ii_add, ii_sub, ii_mul, ii_lt, ii_le, ii_eq, ixn_ii, ixo_ii, rem_ii, nb_1, nb_0, nb_bb, bb_0, hI_gv, Int.toNat_of_nonneg, Int.cast_ofNat_Int, ht_sI, ht_sJ, ht_sR, hn_sI, hn_sJ, hn_sR, hR_sI, hR_sJ, kI_v, kV_v, kJ_v, true_and, and_true, forall_eq, tg, ln, rf, ne_eq, not_false_eq_true, forall_const, not_true_eq_false, false_implies, ea, eb, x5]
    exact ⟨by omega, q⟩
theorem K_joints (ok : tr_ok E) (c : kst ad h m one two H L) (v : vok m one two H L) {l : Int} (l1 : -2147483648 ≤ l) (l2 : l ≤ 2147483647) (q : 0 ≤ l ∧ l < m 5 → ∀ h', fr ad pC f0 false h h' → Q (.inl (some (.inl (ii (jts (jn m one two H L l)))))) h') (r : ¬ (0 ≤ l ∧ l < m 5) → Q (.inr 1) (rfz ad h 1)) : tr_C E 89 [.inr (.inr (ad 1)), .inl (ii l)] h Q := by
  refine T_X7_joints ok ?_
  have s0 := c.1
  have v5 := v_5 v
  simp (disch := first | omega | decide | assumption | exact st_ne s0 (by decide) (by decide) (by decide) | exact dyn_ne (by assumption) (by decide) | fail) only [Int.reduceAdd, Int.reduceSub, Int.reduceNeg, ii_add, ii_sub, ii_mul, ii_lt, ii_le, ii_eq, ixn_ii, ixo_ii, rem_ii, nb_1, nb_0, nb_bb, bb_0, hI_gv, Int.toNat_of_nonneg, Int.cast_ofNat_Int, ht_sI, ht_sJ, ht_sR, hn_sI, hn_sJ, hn_sR, hR_sI, hR_sJ, kI_v, kV_v, kJ_v, true_and, and_true, forall_eq, tg, ln, rf, ne_eq, not_false_eq_true, forall_const, not_true_eq_false, false_implies, W_X7_joints, st_t s0]
  refine k_isLabel ok c v l1 l2 ?_
  simp (disch := first | omega | decide | assumption | exact st_ne s0 (by decide) (by decide) (by decide) | exact dyn_ne (by assumption) (by decide) | fail) only [Int.reduceAdd, Int.reduceSub, Int.reduceNeg, ii_add, ii_sub, ii_mul, ii_lt, ii_le, ii_eq, ixn_ii, ixo_ii, rem_ii, nb_1, nb_0, nb_bb, bb_0, hI_gv, Int.toNat_of_nonneg, Int.cast_ofNat_Int, ht_sI, ht_sJ, ht_sR, hn_sI, hn_sJ, hn_sR, hR_sI, hR_sJ, kI_v, kV_v, kJ_v, true_and, and_true, forall_eq, tg, ln, rf, ne_eq, not_false_eq_true, forall_const, not_true_eq_false, false_implies, st_t s0]
  refine k_reqb ok s0 (fun g => ?_) (fun g => ?_)
  · rw [decide_eq_true_eq] at g
    simp (disch := first | omega | decide | assumption | exact st_ne s0 (by decide) (by decide) (by decide) | exact dyn_ne (by assumption) (by decide) | fail) only [Int.reduceAdd, Int.reduceSub, Int.reduceNeg, ii_add, ii_sub, ii_mul, ii_lt, ii_le, ii_eq, ixn_ii, ixo_ii, rem_ii, nb_1, nb_0, nb_bb, bb_0, hI_gv, Int.toNat_of_nonneg, Int.cast_ofNat_Int, ht_sI, ht_sJ, ht_sR, hn_sI, hn_sJ, hn_sR, hR_sI, hR_sJ, kI_v, kV_v, kJ_v, true_and, and_true, forall_eq, tg, ln, rf, ne_eq, not_false_eq_true, forall_const, not_true_eq_false, false_implies, st_t s0, st_r s0]
    refine k_gatherJ ok s0 c.2 v g.1 (by omega) (fun h1 f1 g1 => ?_)
    have c1 := kst_fr c f1 pC_lt
    have s1 := c1.1
    obtain ⟨d0, n1, d2, d3, d4, d5⟩ := id c1.2
    simp (disch := first | omega | decide | assumption | exact st_ne s0 (by decide) (by decide) (by decide) | exact dyn_ne (by assumption) (by decide) | fail) only [Int.reduceAdd, Int.reduceSub, Int.reduceNeg, ii_add, ii_sub, ii_mul, ii_lt, ii_le, ii_eq, ixn_ii, ixo_ii, rem_ii, nb_1, nb_0, nb_bb, bb_0, hI_gv, Int.toNat_of_nonneg, Int.cast_ofNat_Int, ht_sI, ht_sJ, ht_sR, hn_sI, hn_sJ, hn_sR, hR_sI, hR_sJ, kI_v, kV_v, kJ_v, true_and, and_true, forall_eq, tg, ln, rf, ne_eq, not_false_eq_true, forall_const, not_true_eq_false, false_implies, st_t s1, st_r s1, d0]
    refine k_join ok s1 n1 v g1 (fun h2 f2 kj => ?_)
    have s2 := st_fr s1 f2
    have e9 := kj.1
    simp (disch := first | omega | decide | assumption | exact st_ne s0 (by decide) (by decide) (by decide) | exact dyn_ne (by assumption) (by decide) | fail) only [Int.reduceAdd, Int.reduceSub, Int.reduceNeg, ii_add, ii_sub, ii_mul, ii_lt, ii_le, ii_eq, ixn_ii, ixo_ii, rem_ii, nb_1, nb_0, nb_bb, bb_0, hI_gv, Int.toNat_of_nonneg, Int.cast_ofNat_Int, ht_sI, ht_sJ, ht_sR, hn_sI, hn_sJ, hn_sR, hR_sI, hR_sJ, kI_v, kV_v, kJ_v, true_and, and_true, forall_eq, tg, ln, rf, ne_eq, not_false_eq_true, forall_const, not_true_eq_false, false_implies, st_t s2, st_r s2, e9]
    exact q g h2 (fr_tr f1 f2)
  · rw [decide_eq_false_iff_not] at g
    exact r g
theorem K_walk (ok : tr_ok E) (c : kst ad h m one two H L) (v : vok m one two H L) {l k w : Int} (l1 : -2147483648 ≤ l) (l2 : l ≤ 2147483647) (k1 : -2147483648 ≤ k) (k2 : k ≤ 2147483647) (w1 : -2147483648 ≤ w) (w2 : w ≤ 2147483647) (q : (0 ≤ l ∧ l < m 5) ∧ (0 ≤ w ∧ w ≤ 3) → (w = 0 ∨ 0 < jts (jn m one two H L l) ∧ 0 ≤ k ∧ k < (jn m one two H L l).fw) → ∀ h', fr ad pC f0 false h h' → Q (.inl (some (.inl (ii (wkS two (jn m one two H L l) w k))))) h') (r : ¬ ((0 ≤ l ∧ l < m 5) ∧ (0 ≤ w ∧ w ≤ 3)) → Q (.inr 1) (rfz ad h 1)) (r2 : (0 ≤ l ∧ l < m 5) ∧ (0 ≤ w ∧ w ≤ 3) → ¬ (w = 0 ∨ 0 < jts (jn m one two H L l) ∧ 0 ≤ k ∧ k < (jn m one two H L l).fw) → ∀ h', fr ad pC f0 false h h' → Q (.inr 0) (rfz ad h' 0)) : tr_C E 90 [.inr (.inr (ad 1)), .inl (ii l), .inl (ii k), .inl (ii w)] h Q := by
  refine T_X7_walk ok ?_
  have s0 := c.1
  have v5 := v_5 v
  have bad : ¬ (0 ≤ w ∧ w ≤ 3) → tr_G E 90 Q 24 [some (.inr (.inr (ad 1))), some (.inl (ii l)), some (.inl (ii k)), some (.inl (ii w))] [.inl (ii 0), .inr (.inr (ad 1))] h 2 12 := by
    intro g
    refine T_X7_walk_24 ok ?_
    simp (disch := first | omega | decide | assumption | exact st_ne s0 (by decide) (by decide) (by decide) | exact dyn_ne (by assumption) (by decide) | fail) only [Int.reduceAdd, Int.reduceSub, Int.reduceNeg, ii_add, ii_sub, ii_mul, ii_lt, ii_le, ii_eq, ixn_ii, ixo_ii, rem_ii, nb_1, nb_0, nb_bb, bb_0, hI_gv, Int.toNat_of_nonneg, Int.cast_ofNat_Int, ht_sI, ht_sJ, ht_sR, hn_sI, hn_sJ, hn_sR, hR_sI, hR_sJ, kI_v, kV_v, kJ_v, true_and, and_true, forall_eq, tg, ln, rf, ne_eq, not_false_eq_true, forall_const, not_true_eq_false, false_implies, W_X7_walk_24, st_t s0]
    exact k_req0 ok s0 (r (fun e => g e.2))
  simp (disch := first | omega | decide | assumption | exact st_ne s0 (by decide) (by decide) (by decide) | exact dyn_ne (by assumption) (by decide) | fail) only [Int.reduceAdd, Int.reduceSub, Int.reduceNeg, ii_add, ii_sub, ii_mul, ii_lt, ii_le, ii_eq, ixn_ii, ixo_ii, rem_ii, nb_1, nb_0, nb_bb, bb_0, hI_gv, Int.toNat_of_nonneg, Int.cast_ofNat_Int, ht_sI, ht_sJ, ht_sR, hn_sI, hn_sJ, hn_sR, hR_sI, hR_sJ, kI_v, kV_v, kJ_v, true_and, and_true, forall_eq, tg, ln, rf, ne_eq, not_false_eq_true, forall_const, not_true_eq_false, false_implies, W_X7_walk, st_t s0]
  refine k_isLabel ok c v l1 l2 ?_
  simp (disch := first | omega | decide | assumption | exact st_ne s0 (by decide) (by decide) (by decide) | exact dyn_ne (by assumption) (by decide) | fail) only [Int.reduceAdd, Int.reduceSub, Int.reduceNeg, ii_add, ii_sub, ii_mul, ii_lt, ii_le, ii_eq, ixn_ii, ixo_ii, rem_ii, nb_1, nb_0, nb_bb, bb_0, hI_gv, Int.toNat_of_nonneg, Int.cast_ofNat_Int, ht_sI, ht_sJ, ht_sR, hn_sI, hn_sJ, hn_sR, hR_sI, hR_sJ, kI_v, kV_v, kJ_v, true_and, and_true, forall_eq, tg, ln, rf, ne_eq, not_false_eq_true, forall_const, not_true_eq_false, false_implies, st_t s0]
  refine k_reqb ok s0 (fun g => ?_) (fun g => ?_)
  · rw [decide_eq_true_eq] at g
    simp (disch := first | omega | decide | assumption | exact st_ne s0 (by decide) (by decide) (by decide) | exact dyn_ne (by assumption) (by decide) | fail) only [Int.reduceAdd, Int.reduceSub, Int.reduceNeg, ii_add, ii_sub, ii_mul, ii_lt, ii_le, ii_eq, ixn_ii, ixo_ii, rem_ii, nb_1, nb_0, nb_bb, bb_0, hI_gv, Int.toNat_of_nonneg, Int.cast_ofNat_Int, ht_sI, ht_sJ, ht_sR, hn_sI, hn_sJ, hn_sR, hR_sI, hR_sJ, kI_v, kV_v, kJ_v, true_and, and_true, forall_eq, tg, ln, rf, ne_eq, not_false_eq_true, forall_const, not_true_eq_false, false_implies]
    refine ⟨fun g2 => bad (by omega), fun g2 => ⟨fun g3 => ?_, fun g3 => bad (by omega)⟩⟩
    have gg : (0 ≤ l ∧ l < m 5) ∧ (0 ≤ w ∧ w ≤ 3) := ⟨g, by omega⟩
    refine T_X7_walk_24 ok ?_
    simp (disch := first | omega | decide | assumption | exact st_ne s0 (by decide) (by decide) (by decide) | exact dyn_ne (by assumption) (by decide) | fail) only [Int.reduceAdd, Int.reduceSub, Int.reduceNeg, ii_add, ii_sub, ii_mul, ii_lt, ii_le, ii_eq, ixn_ii, ixo_ii, rem_ii, nb_1, nb_0, nb_bb, bb_0, hI_gv, Int.toNat_of_nonneg, Int.cast_ofNat_Int, ht_sI, ht_sJ, ht_sR, hn_sI, hn_sJ, hn_sR, hR_sI, hR_sJ, kI_v, kV_v, kJ_v, true_and, and_true, forall_eq, tg, ln, rf, ne_eq, not_false_eq_true, forall_const, not_true_eq_false, false_implies, W_X7_walk_24, st_t s0]
    refine k_req1 ok ?_
    simp (disch := first | omega | decide | assumption | exact st_ne s0 (by decide) (by decide) (by decide) | exact dyn_ne (by assumption) (by decide) | fail) only [Int.reduceAdd, Int.reduceSub, Int.reduceNeg, ii_add, ii_sub, ii_mul, ii_lt, ii_le, ii_eq, ixn_ii, ixo_ii, rem_ii, nb_1, nb_0, nb_bb, bb_0, hI_gv, Int.toNat_of_nonneg, Int.cast_ofNat_Int, ht_sI, ht_sJ, ht_sR, hn_sI, hn_sJ, hn_sR, hR_sI, hR_sJ, kI_v, kV_v, kJ_v, true_and, and_true, forall_eq, tg, ln, rf, ne_eq, not_false_eq_true, forall_const, not_true_eq_false, false_implies, st_t s0, st_r s0]
    refine k_gatherJ ok s0 c.2 v g.1 (by omega) (fun h1 f1 g1 => ?_)
    have c1 := kst_fr c f1 pC_lt
    have s1 := c1.1
    obtain ⟨d0, n1, d2, d3, d4, d5⟩ := id c1.2
    simp (disch := first | omega | decide | assumption | exact st_ne s0 (by decide) (by decide) (by decide) | exact dyn_ne (by assumption) (by decide) | fail) only [Int.reduceAdd, Int.reduceSub, Int.reduceNeg, ii_add, ii_sub, ii_mul, ii_lt, ii_le, ii_eq, ixn_ii, ixo_ii, rem_ii, nb_1, nb_0, nb_bb, bb_0, hI_gv, Int.toNat_of_nonneg, Int.cast_ofNat_Int, ht_sI, ht_sJ, ht_sR, hn_sI, hn_sJ, hn_sR, hR_sI, hR_sJ, kI_v, kV_v, kJ_v, true_and, and_true, forall_eq, tg, ln, rf, ne_eq, not_false_eq_true, forall_const, not_true_eq_false, false_implies, st_t s1, st_r s1, d0]
    refine k_join ok s1 n1 v g1 (fun h2 f2 kj => ?_)
    have c2 := kst_fr c1 f2 pC_lt
    have s2 := c2.1
    obtain ⟨b0, n2, -⟩ := id c2.2
    have e9 := kj.1
    have ka := jn_aok (l := l) v
    have jr := jts_rg (l := l) v
    have f12 := fr_tr f1 f2
    have qq := q gg
    have rr := r2 gg
    clear q r r2 bad
    generalize jn m one two H L l = a at *
    have bad3 : ¬ (w = 0 ∨ 0 < jts a ∧ 0 ≤ k ∧ k < a.fw) → tr_G E 90 Q 93 [some (.inr (.inr (ad 1))), none, some (.inl (ii k)), some (.inl (ii w))] [.inl (ii 0), .inr (.inr (ad 1))] h2 1 6 := by
      intro g4
      refine T_X7_walk_93 ok ?_
      simp (disch := first | omega | decide | assumption | exact st_ne s0 (by decide) (by decide) (by decide) | exact dyn_ne (by assumption) (by decide) | fail) only [Int.reduceAdd, Int.reduceSub, Int.reduceNeg, ii_add, ii_sub, ii_mul, ii_lt, ii_le, ii_eq, ixn_ii, ixo_ii, rem_ii, nb_1, nb_0, nb_bb, bb_0, hI_gv, Int.toNat_of_nonneg, Int.cast_ofNat_Int, ht_sI, ht_sJ, ht_sR, hn_sI, hn_sJ, hn_sR, hR_sI, hR_sJ, kI_v, kV_v, kJ_v, true_and, and_true, forall_eq, tg, ln, rf, ne_eq, not_false_eq_true, forall_const, not_true_eq_false, false_implies, W_X7_walk_93, st_t s2]
      exact k_fnd0 ok s2 (rr g4 h2 f12)
    simp (disch := first | omega | decide | assumption | exact st_ne s0 (by decide) (by decide) (by decide) | exact dyn_ne (by assumption) (by decide) | fail) only [Int.reduceAdd, Int.reduceSub, Int.reduceNeg, ii_add, ii_sub, ii_mul, ii_lt, ii_le, ii_eq, ixn_ii, ixo_ii, rem_ii, nb_1, nb_0, nb_bb, bb_0, hI_gv, Int.toNat_of_nonneg, Int.cast_ofNat_Int, ht_sI, ht_sJ, ht_sR, hn_sI, hn_sJ, hn_sR, hR_sI, hR_sJ, kI_v, kV_v, kJ_v, true_and, and_true, forall_eq, tg, ln, rf, ne_eq, not_false_eq_true, forall_const, not_true_eq_false, false_implies, st_t s2, st_r s2, e9]
    refine ⟨fun e0 => ?_, fun e0 => ?_⟩
    · have hq := qq (Or.inl e0) h2 f12
      unfold wkS at hq
      rw [if_pos e0] at hq
      refine T_X7_walksOrWhyNone ok ?_
      simp (disch := first | omega | decide | assumption | exact st_ne s0 (by decide) (by decide) (by decide) | exact dyn_ne (by assumption) (by decide) | fail) only [Int.reduceAdd, Int.reduceSub, Int.reduceNeg, ii_add, ii_sub, ii_mul, ii_lt, ii_le, ii_eq, ixn_ii, ixo_ii, rem_ii, nb_1, nb_0, nb_bb, bb_0, hI_gv, Int.toNat_of_nonneg, Int.cast_ofNat_Int, ht_sI, ht_sJ, ht_sR, hn_sI, hn_sJ, hn_sR, hR_sI, hR_sJ, kI_v, kV_v, kJ_v, true_and, and_true, forall_eq, tg, ln, rf, ne_eq, not_false_eq_true, forall_const, not_true_eq_false, false_implies, W_X7_walksOrWhyNone, st_t s2, st_r s2, e9]
      refine ⟨fun e1 => ?_, fun e1 => ⟨fun e2 => ?_, fun e2 => ?_⟩⟩
      · rw [if_pos e1] at hq; exact hq
      · rw [if_neg e1, if_pos e2] at hq; exact hq
      · rw [if_neg e1, if_neg e2] at hq
        have gj : 0 < jts a := by
          unfold jts at e1 e2 ⊢
          split at e1
          · omega
          · next o => rw [if_neg o] at e2 ⊢; have := ka.2.1; omega
        obtain ⟨o, se, ej, fk⟩ := jts_p ka gj
        have a1 := ((kj.2 o).2.2.2 se).1
        simp (disch := first | omega | decide | assumption | exact st_ne s0 (by decide) (by decide) (by decide) | exact dyn_ne (by assumption) (by decide) | fail) only [Int.reduceAdd, Int.reduceSub, Int.reduceNeg, ii_add, ii_sub, ii_mul, ii_lt, ii_le, ii_eq, ixn_ii, ixo_ii, rem_ii, nb_1, nb_0, nb_bb, bb_0, hI_gv, Int.toNat_of_nonneg, Int.cast_ofNat_Int, ht_sI, ht_sJ, ht_sR, hn_sI, hn_sJ, hn_sR, hR_sI, hR_sJ, kI_v, kV_v, kJ_v, true_and, and_true, forall_eq, tg, ln, rf, ne_eq, not_false_eq_true, forall_const, not_true_eq_false, false_implies, a1]
        exact hq
    · by_cases gj : 0 < jts a
      · obtain ⟨o, se, ej, fk⟩ := jts_p ka gj
        have ra := kj.2 o
        obtain ⟨a1, a2, a3⟩ := ra.2.2.2 se
        have fw := fk.1
        simp (disch := first | omega | decide | assumption | exact st_ne s0 (by decide) (by decide) (by decide) | exact dyn_ne (by assumption) (by decide) | fail) only [Int.reduceAdd, Int.reduceSub, Int.reduceNeg, ii_add, ii_sub, ii_mul, ii_lt, ii_le, ii_eq, ixn_ii, ixo_ii, rem_ii, nb_1, nb_0, nb_bb, bb_0, hI_gv, Int.toNat_of_nonneg, Int.cast_ofNat_Int, ht_sI, ht_sJ, ht_sR, hn_sI, hn_sJ, hn_sR, hR_sI, hR_sJ, kI_v, kV_v, kJ_v, true_and, and_true, forall_eq, tg, ln, rf, ne_eq, not_false_eq_true, forall_const, not_true_eq_false, false_implies, a1]
        refine ⟨fun g5 => by omega, fun _ => ⟨fun g6 => bad3 (by omega), fun g6 => ⟨fun g7 => ?_, fun g7 => bad3 (by omega)⟩⟩⟩
        have hq := qq (Or.inr ⟨gj, by omega, g7⟩) h2 f12
        unfold wkS at hq
        rw [if_neg e0] at hq
        have k0 : 0 ≤ k := by omega
        obtain ⟨y1, y2, y3⟩ := a2 k k0 g7
        refine T_X7_walk_93 ok ?_
        simp (disch := first | omega | decide | assumption | exact st_ne s0 (by decide) (by decide) (by decide) | exact dyn_ne (by assumption) (by decide) | fail) only [Int.reduceAdd, Int.reduceSub, Int.reduceNeg, ii_add, ii_sub, ii_mul, ii_lt, ii_le, ii_eq, ixn_ii, ixo_ii, rem_ii, nb_1, nb_0, nb_bb, bb_0, hI_gv, Int.toNat_of_nonneg, Int.cast_ofNat_Int, ht_sI, ht_sJ, ht_sR, hn_sI, hn_sJ, hn_sR, hR_sI, hR_sJ, kI_v, kV_v, kJ_v, true_and, and_true, forall_eq, tg, ln, rf, ne_eq, not_false_eq_true, forall_const, not_true_eq_false, false_implies, W_X7_walk_93, st_t s2]
        refine k_fnd1 ok ?_
        simp (disch := first | omega | decide | assumption | exact st_ne s0 (by decide) (by decide) (by decide) | exact dyn_ne (by assumption) (by decide) | fail) only [Int.reduceAdd, Int.reduceSub, Int.reduceNeg, ii_add, ii_sub, ii_mul, ii_lt, ii_le, ii_eq, ixn_ii, ixo_ii, rem_ii, nb_1, nb_0, nb_bb, bb_0, hI_gv, Int.toNat_of_nonneg, Int.cast_ofNat_Int, ht_sI, ht_sJ, ht_sR, hn_sI, hn_sJ, hn_sR, hR_sI, hR_sJ, kI_v, kV_v, kJ_v, true_and, and_true, forall_eq, tg, ln, rf, ne_eq, not_false_eq_true, forall_const, not_true_eq_false, false_implies, st_t s2, st_n s2, st_r s2, y1, y2, b0]
        refine ⟨fun e1 => ⟨by omega, ?_⟩, fun e1 => ⟨fun e2 => ⟨by omega, ?_⟩, fun e2 => ?_⟩⟩
        · rw [if_pos e1] at hq; exact hq
        · rw [if_neg e1, if_pos e2] at hq; exact hq
        · rw [if_neg e1, if_neg e2] at hq
          exact k_lastHop ok s2 n2 v ra fk se k0 g7 hq
      · exact ⟨fun _ => bad3 (by omega), fun g5 => absurd (by omega) g5⟩
  · rw [decide_eq_false_iff_not] at g
    exact r (fun e => g e.1)
theorem K_walkAt (ok : tr_ok E) (c : kst ad h m one two H L) (v : vok m one two H L) {l k i : Int} (l1 : -2147483648 ≤ l) (l2 : l ≤ 2147483647) (k1 : -2147483648 ≤ k) (k2 : k ≤ 2147483647) (w1 : -2147483648 ≤ i) (w2 : i ≤ 2147483647) (q : (0 ≤ l ∧ l < m 5) → waC (jn m one two H L l) k i → ∀ h', fr ad pC f0 false h h' → Q (.inl (some (.inl (ii ((jn m one two H L l).fM ((jn m one two H L l).fb k + i)))))) h') (r : ¬ (0 ≤ l ∧ l < m 5) → Q (.inr 1) (rfz ad h 1)) (r2 : (0 ≤ l ∧ l < m 5) → ¬ waC (jn m one two H L l) k i → ∀ h', fr ad pC f0 false h h' → Q (.inr 0) (rfz ad h' 0)) : tr_C E 91 [.inr (.inr (ad 1)), .inl (ii l), .inl (ii k), .inl (ii i)] h Q := by
  refine T_X7_walkAt ok ?_
  have s0 := c.1
  have v5 := v_5 v
  simp (disch := first | omega | decide | assumption | exact st_ne s0 (by decide) (by decide) (by decide) | exact dyn_ne (by assumption) (by decide) | fail) only [Int.reduceAdd, Int.reduceSub, Int.reduceNeg, ii_add, ii_sub, ii_mul, ii_lt, ii_le, ii_eq, ixn_ii, ixo_ii, rem_ii, nb_1, nb_0, nb_bb, bb_0, hI_gv, Int.toNat_of_nonneg, Int.cast_ofNat_Int, ht_sI, ht_sJ, ht_sR, hn_sI, hn_sJ, hn_sR, hR_sI, hR_sJ, kI_v, kV_v, kJ_v, true_and, and_true, forall_eq, tg, ln, rf, ne_eq, not_false_eq_true, forall_const, not_true_eq_false, false_implies, W_X7_walkAt, st_t s0]
  refine k_isLabel ok c v l1 l2 ?_
  simp (disch := first | omega | decide | assumption | exact st_ne s0 (by decide) (by decide) (by decide) | exact dyn_ne (by assumption) (by decide) | fail) only [Int.reduceAdd, Int.reduceSub, Int.reduceNeg, ii_add, ii_sub, ii_mul, ii_lt, ii_le, ii_eq, ixn_ii, ixo_ii, rem_ii, nb_1, nb_0, nb_bb, bb_0, hI_gv, Int.toNat_of_nonneg, Int.cast_ofNat_Int, ht_sI, ht_sJ, ht_sR, hn_sI, hn_sJ, hn_sR, hR_sI, hR_sJ, kI_v, kV_v, kJ_v, true_and, and_true, forall_eq, tg, ln, rf, ne_eq, not_false_eq_true, forall_const, not_true_eq_false, false_implies, st_t s0]
  refine k_reqb ok s0 (fun g => ?_) (fun g => ?_)
  · rw [decide_eq_true_eq] at g
    simp (disch := first | omega | decide | assumption | exact st_ne s0 (by decide) (by decide) (by decide) | exact dyn_ne (by assumption) (by decide) | fail) only [Int.reduceAdd, Int.reduceSub, Int.reduceNeg, ii_add, ii_sub, ii_mul, ii_lt, ii_le, ii_eq, ixn_ii, ixo_ii, rem_ii, nb_1, nb_0, nb_bb, bb_0, hI_gv, Int.toNat_of_nonneg, Int.cast_ofNat_Int, ht_sI, ht_sJ, ht_sR, hn_sI, hn_sJ, hn_sR, hR_sI, hR_sJ, kI_v, kV_v, kJ_v, true_and, and_true, forall_eq, tg, ln, rf, ne_eq, not_false_eq_true, forall_const, not_true_eq_false, false_implies, st_t s0, st_r s0]
    refine k_gatherJ ok s0 c.2 v g.1 (by omega) (fun h1 f1 g1 => ?_)
    have c1 := kst_fr c f1 pC_lt
    have s1 := c1.1
    obtain ⟨d0, n1, d2, d3, d4, d5⟩ := id c1.2
    simp (disch := first | omega | decide | assumption | exact st_ne s0 (by decide) (by decide) (by decide) | exact dyn_ne (by assumption) (by decide) | fail) only [Int.reduceAdd, Int.reduceSub, Int.reduceNeg, ii_add, ii_sub, ii_mul, ii_lt, ii_le, ii_eq, ixn_ii, ixo_ii, rem_ii, nb_1, nb_0, nb_bb, bb_0, hI_gv, Int.toNat_of_nonneg, Int.cast_ofNat_Int, ht_sI, ht_sJ, ht_sR, hn_sI, hn_sJ, hn_sR, hR_sI, hR_sJ, kI_v, kV_v, kJ_v, true_and, and_true, forall_eq, tg, ln, rf, ne_eq, not_false_eq_true, forall_const, not_true_eq_false, false_implies, st_t s1, st_r s1, d0]
    refine k_join ok s1 n1 v g1 (fun h2 f2 kj => ?_)
    have c2 := kst_fr c1 f2 pC_lt
    have s2 := c2.1
    have e9 := kj.1
    have ka := jn_aok (l := l) v
    have jr := jts_rg (l := l) v
    have f12 := fr_tr f1 f2
    have qq := q g
    have rr := r2 g
    clear q r r2
    generalize jn m one two H L l = a at *
    have bad3 : ¬ waC a k i → tr_G E 91 Q 66 [some (.inr (.inr (ad 1))), none, some (.inl (ii k)), some (.inl (ii i))] [.inl (ii 0), .inr (.inr (ad 1))] h2 2 12 := by
      intro g4
      refine T_X7_walkAt_66 ok ?_
      simp (disch := first | omega | decide | assumption | exact st_ne s0 (by decide) (by decide) (by decide) | exact dyn_ne (by assumption) (by decide) | fail) only [Int.reduceAdd, Int.reduceSub, Int.reduceNeg, ii_add, ii_sub, ii_mul, ii_lt, ii_le, ii_eq, ixn_ii, ixo_ii, rem_ii, nb_1, nb_0, nb_bb, bb_0, hI_gv, Int.toNat_of_nonneg, Int.cast_ofNat_Int, ht_sI, ht_sJ, ht_sR, hn_sI, hn_sJ, hn_sR, hR_sI, hR_sJ, kI_v, kV_v, kJ_v, true_and, and_true, forall_eq, tg, ln, rf, ne_eq, not_false_eq_true, forall_const, not_true_eq_false, false_implies, W_X7_walkAt_66, st_t s2]
      exact k_fnd0 ok s2 (rr g4 h2 f12)
    simp (disch := first | omega | decide | assumption | exact st_ne s0 (by decide) (by decide) (by decide) | exact dyn_ne (by assumption) (by decide) | fail) only [Int.reduceAdd, Int.reduceSub, Int.reduceNeg, ii_add, ii_sub, ii_mul, ii_lt, ii_le, ii_eq, ixn_ii, ixo_ii, rem_ii, nb_1, nb_0, nb_bb, bb_0, hI_gv, Int.toNat_of_nonneg, Int.cast_ofNat_Int, ht_sI, ht_sJ, ht_sR, hn_sI, hn_sJ, hn_sR, hR_sI, hR_sJ, kI_v, kV_v, kJ_v, true_and, and_true, forall_eq, tg, ln, rf, ne_eq, not_false_eq_true, forall_const, not_true_eq_false, false_implies, st_t s2, st_r s2, e9]
    by_cases gj : 0 < jts a
    · obtain ⟨o, se, ej, fk⟩ := jts_p ka gj
      have ra := kj.2 o
      obtain ⟨a1, a2, a3⟩ := ra.2.2.2 se
      have fw := fk.1
      simp (disch := first | omega | decide | assumption | exact st_ne s0 (by decide) (by decide) (by decide) | exact dyn_ne (by assumption) (by decide) | fail) only [Int.reduceAdd, Int.reduceSub, Int.reduceNeg, ii_add, ii_sub, ii_mul, ii_lt, ii_le, ii_eq, ixn_ii, ixo_ii, rem_ii, nb_1, nb_0, nb_bb, bb_0, hI_gv, Int.toNat_of_nonneg, Int.cast_ofNat_Int, ht_sI, ht_sJ, ht_sR, hn_sI, hn_sJ, hn_sR, hR_sI, hR_sJ, kI_v, kV_v, kJ_v, true_and, and_true, forall_eq, tg, ln, rf, ne_eq, not_false_eq_true, forall_const, not_true_eq_false, false_implies, a1]
      refine ⟨fun g5 => by omega, fun _ => ⟨fun g6 => bad3 (fun e => by have := e.2.1; omega), fun g6 => ⟨fun g7 => ?_, fun g7 => bad3 (fun e => g7 e.2.1.2)⟩⟩⟩
      have k0 : 0 ≤ k := by omega
      obtain ⟨y1, y2, y3⟩ := a2 k k0 g7
      have yl : gv h2 (ad 15) k = wln a k := y2
      have lnn := f_ln fk k0 g7
      refine T_X7_walkAt_66 ok ?_
      simp (disch := first | omega | decide | assumption | exact st_ne s0 (by decide) (by decide) (by decide) | exact dyn_ne (by assumption) (by decide) | fail) only [Int.reduceAdd, Int.reduceSub, Int.reduceNeg, ii_add, ii_sub, ii_mul, ii_lt, ii_le, ii_eq, ixn_ii, ixo_ii, rem_ii, nb_1, nb_0, nb_bb, bb_0, hI_gv, Int.toNat_of_nonneg, Int.cast_ofNat_Int, ht_sI, ht_sJ, ht_sR, hn_sI, hn_sJ, hn_sR, hR_sI, hR_sJ, kI_v, kV_v, kJ_v, true_and, and_true, forall_eq, tg, ln, rf, ne_eq, not_false_eq_true, forall_const, not_true_eq_false, false_implies, W_X7_walkAt_66, st_t s2]
      refine k_fnd1 ok ?_
      simp (disch := first | omega | decide | assumption | exact st_ne s0 (by decide) (by decide) (by decide) | exact dyn_ne (by assumption) (by decide) | fail) only [Int.reduceAdd, Int.reduceSub, Int.reduceNeg, ii_add, ii_sub, ii_mul, ii_lt, ii_le, ii_eq, ixn_ii, ixo_ii, rem_ii, nb_1, nb_0, nb_bb, bb_0, hI_gv, Int.toNat_of_nonneg, Int.cast_ofNat_Int, ht_sI, ht_sJ, ht_sR, hn_sI, hn_sJ, hn_sR, hR_sI, hR_sJ, kI_v, kV_v, kJ_v, true_and, and_true, forall_eq, tg, ln, rf, ne_eq, not_false_eq_true, forall_const, not_true_eq_false, false_implies, st_t s2, st_n s2, st_r s2, yl]
      refine ⟨fun g8 => ?_, fun g8 => ⟨by omega, fun g9 => ?_, fun g9 => ?_⟩⟩
      · exact k_fnd0 ok s2 (rr (fun e => by have := e.2.2; omega) h2 f12)
      · refine k_fnd1 ok ?_
        simp (disch := first | omega | decide | assumption | exact st_ne s0 (by decide) (by decide) (by decide) | exact dyn_ne (by assumption) (by decide) | fail) only [Int.reduceAdd, Int.reduceSub, Int.reduceNeg, ii_add, ii_sub, ii_mul, ii_lt, ii_le, ii_eq, ixn_ii, ixo_ii, rem_ii, nb_1, nb_0, nb_bb, bb_0, hI_gv, Int.toNat_of_nonneg, Int.cast_ofNat_Int, ht_sI, ht_sJ, ht_sR, hn_sI, hn_sJ, hn_sR, hR_sI, hR_sJ, kI_v, kV_v, kJ_v, true_and, and_true, forall_eq, tg, ln, rf, ne_eq, not_false_eq_true, forall_const, not_true_eq_false, false_implies, st_t s2, st_r s2]
        refine k_linkOfWalk ok s2 ra fk se k0 g7 (by omega) g9 ?_
        exact qq ⟨gj, ⟨k0, g7⟩, by omega, g9⟩ h2 f12
      · exact k_fnd0 ok s2 (rr (fun e => g9 e.2.2.2) h2 f12)
    · exact ⟨fun _ => bad3 (fun e => gj e.1), fun g5 => absurd (by omega) g5⟩
  · rw [decide_eq_false_iff_not] at g
    exact r g
end WK2
