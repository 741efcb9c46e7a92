/-! ESTIMATES: the question, of the class and of the reference -/
def icd (H L w i : Int) : Bool := if w = 0 then decide (0 ≤ i ∧ i < H) else if w = 3 then decide (i = 0) else decide (0 ≤ i ∧ i < L)
def esS (m : Int → Int) (w i t : Int) : Int64 := if t < 2 then frc (jj (m 2 * cts m w i (m 4))) (jj (m 3)) (decide (t = 1)) else if t = 2 then jj (cts m w i (-1)) else if t < 5 then frc (jj (sm (fun key => gq m (cts m w i (-1)) false (cts m w i key)) 0 (m 2).toNat)) (jj (m 3)) (decide (t = 4)) else frc (jj (sm (fun key => gq m (cts m w i (-1)) true (cts m w i key)) 0 (m 2).toNat)) (jj (m 3 * m 3 * m 2)) (decide (t = 6))
theorem icd_rg {m one two : Int → Int} {H L w i : Int} (v : vok m one two H L) (g : icd H L w i = true) : 0 ≤ i ∧ i ≤ 24 := by
  have vH := v_H v
  have vL := v_L v
  unfold icd at g
  split at g
  · rw [decide_eq_true_eq] at g; omega
  · split at g
    · rw [decide_eq_true_eq] at g; omega
    · rw [decide_eq_true_eq] at g; omega
theorem jj_n0 {x : Int} (h1 : 1 ≤ x) (h2 : x ≤ 1000000000000) : ¬ jj x = jj 0 := by
  rw [jj_eq (by omega) (by omega) (by omega) (by omega)]; omega
theorem cube_rg {b r : Int} (h1 : 1 ≤ r) (h2 : r ≤ b) (h3 : b ≤ 997) : 1 ≤ r * r * b ∧ r * r * b ≤ 1000000000000 := by
  have e1 : r * 1 ≤ r * r := Int.mul_le_mul_of_nonneg_left (by omega) (by omega)
  have e2 : r * r ≤ r * 997 := Int.mul_le_mul_of_nonneg_left (by omega) (by omega)
  have e3 : r * r * 1 ≤ r * r * b := Int.mul_le_mul_of_nonneg_left (by omega) (by omega)
  have e4 : r * r * b ≤ r * r * 997 := Int.mul_le_mul_of_nonneg_left (by omega) (by omega)
  omega
section EST2
variable {E : tr_Env} {ad : Nat → Nat} {h h0 : tr_H} {Q : tr_Q} {m one two : Int → Int} {H L : Int}
theorem k_isCounted (ok : tr_ok E) (c : kst ad h m one two H L) (v : vok m one two H L) {w i : Int} (w1 : 0 ≤ w) (w2 : w ≤ 3) (i1 : -2147483648 ≤ i) (i2 : i ≤ 2147483647) (q : Q (.inl (some (.inl (bb (icd H L w i))))) h) : tr_C E 115 [.inr (.inr (ad 1)), .inl (ii w), .inl (ii i)] h Q := by
  refine T_X7_isCounted ok ?_
  have s0 := c.1
  obtain ⟨c0, n, c2, c3, c4, c5⟩ := id c.2
  have vH := v_H v
  have vL := v_L v
  unfold icd at q
  simp (disch := first | omega | decide | assumption | exact st_ne s0 (by decide) (by decide) (by decide) | exact dyn_ne (by assumption) (by decide) | fail) only [Int.reduceAdd, Int.reduceSub, Int.reduceNeg, ii_add, ii_sub, ii_mul, ii_lt, ii_le, ii_eq, ixn_ii, ixo_ii, rem_ii, nb_1, nb_0, nb_bb, bb_0, hI_gv, Int.toNat_of_nonneg, Int.cast_ofNat_Int, ht_sI, ht_sJ, ht_sR, hn_sI, hn_sJ, hn_sR, hR_sI, hR_sJ, kI_v, kV_v, kJ_v, true_and, and_true, forall_eq, tg, ln, rf, ne_eq, not_false_eq_true, forall_const, not_true_eq_false, false_implies, W_X7_isCounted, st_t s0, c0, n.1]
  refine ⟨fun a => ?_, fun a => ⟨fun b => ⟨fun d => ?_, fun d => ?_⟩, fun b => ?_⟩⟩
  · rw [if_pos a] at q
    refine k_hasHop ok n (by omega) (by omega) i1 i2 ?_
    simp (disch := first | omega | decide | assumption | exact st_ne s0 (by decide) (by decide) (by decide) | exact dyn_ne (by assumption) (by decide) | fail) only [Int.reduceAdd, Int.reduceSub, Int.reduceNeg, ii_add, ii_sub, ii_mul, ii_lt, ii_le, ii_eq, ixn_ii, ixo_ii, rem_ii, nb_1, nb_0, nb_bb, bb_0, hI_gv, Int.toNat_of_nonneg, Int.cast_ofNat_Int, ht_sI, ht_sJ, ht_sR, hn_sI, hn_sJ, hn_sR, hR_sI, hR_sJ, kI_v, kV_v, kJ_v, true_and, and_true, forall_eq, tg, ln, rf, ne_eq, not_false_eq_true, forall_const, not_true_eq_false, false_implies]
    exact q
  · rw [if_neg a, if_pos b, decide_eq_true d] at q; exact q
  · rw [if_neg a, if_pos b, decide_eq_false d] at q; exact q
  · rw [if_neg a, if_neg b] at q
    refine k_hasLink ok n (by omega) (by omega) i1 i2 ?_
    simp (disch := first | omega | decide | assumption | exact st_ne s0 (by decide) (by decide) (by decide) | exact dyn_ne (by assumption) (by decide) | fail) only [Int.reduceAdd, Int.reduceSub, Int.reduceNeg, ii_add, ii_sub, ii_mul, ii_lt, ii_le, ii_eq, ixn_ii, ixo_ii, rem_ii, nb_1, nb_0, nb_bb, bb_0, hI_gv, Int.toNat_of_nonneg, Int.cast_ofNat_Int, ht_sI, ht_sJ, ht_sR, hn_sI, hn_sJ, hn_sR, hR_sI, hR_sJ, kI_v, kV_v, kJ_v, true_and, and_true, forall_eq, tg, ln, rf, ne_eq, not_false_eq_true, forall_const, not_true_eq_false, false_implies]
    exact q
theorem K_estimate (ok : tr_ok E) (c : kst ad h m one two H L) (v : vok m one two H L) {w i t : Int} (w1 : -2147483648 ≤ w) (w2 : w ≤ 2147483647) (i1 : -2147483648 ≤ i) (i2 : i ≤ 2147483647) (t1 : -2147483648 ≤ t) (t2 : t ≤ 2147483647) (q : (0 ≤ w ∧ w ≤ 3) ∧ (0 ≤ t ∧ t ≤ 6) → icd H L w i = true → ∀ h', fr ad pC f0 false h h' → Q (.inl (some (.inr (.inl (esS m w i t))))) h') (r : ¬ ((0 ≤ w ∧ w ≤ 3) ∧ (0 ≤ t ∧ t ≤ 6)) → Q (.inr 1) (rfz ad h 1)) (r2 : (0 ≤ w ∧ w ≤ 3) ∧ (0 ≤ t ∧ t ≤ 6) → icd H L w i = false → Q (.inr 0) (rfz ad h 0)) : tr_C E 93 [.inr (.inr (ad 1)), .inl (ii w), .inl (ii i), .inl (ii t)] h Q := by
  refine T_X7_estimate ok ?_
  have s0 := c.1
  obtain ⟨vH, vL, vl, v0, v1, v2, v3, v4, v5, vr, vm, vp⟩ := id v
  have bad : ¬ (0 ≤ w ∧ w ≤ 3) → tr_G E 93 Q 15 [some (.inr (.inr (ad 1))), some (.inl (ii w)), some (.inl (ii i)), some (.inl (ii t)), none, none, none, none] [.inl (ii 0), .inr (.inr (ad 1))] h 3 18 := by
    intro g
    refine T_X7_estimate_15 ok ?_
    simp (disch := first | omega | decide | assumption | exact st_ne s0 (by decide) (by decide) (by decide) | exact dyn_ne (by assumption) (by decide) | fail) only [Int.reduceAdd, Int.reduceSub, Int.reduceNeg, ii_add, ii_sub, ii_mul, ii_lt, ii_le, ii_eq, ixn_ii, ixo_ii, rem_ii, nb_1, nb_0, nb_bb, bb_0, hI_gv, Int.toNat_of_nonneg, Int.cast_ofNat_Int, ht_sI, ht_sJ, ht_sR, hn_sI, hn_sJ, hn_sR, hR_sI, hR_sJ, kI_v, kV_v, kJ_v, true_and, and_true, forall_eq, tg, ln, rf, ne_eq, not_false_eq_true, forall_const, not_true_eq_false, false_implies, W_X7_estimate_15, st_t s0]
    exact k_req0 ok s0 (r (fun e => g e.1))
  have bad2 : ¬ (0 ≤ t ∧ t ≤ 6) → tr_G E 93 Q 34 [some (.inr (.inr (ad 1))), some (.inl (ii w)), some (.inl (ii i)), some (.inl (ii t)), none, none, none, none] [.inl (ii 0), .inr (.inr (ad 1))] h 2 12 := by
    intro g
    refine T_X7_estimate_34 ok ?_
    simp (disch := first | omega | decide | assumption | exact st_ne s0 (by decide) (by decide) (by decide) | exact dyn_ne (by assumption) (by decide) | fail) only [Int.reduceAdd, Int.reduceSub, Int.reduceNeg, ii_add, ii_sub, ii_mul, ii_lt, ii_le, ii_eq, ixn_ii, ixo_ii, rem_ii, nb_1, nb_0, nb_bb, bb_0, hI_gv, Int.toNat_of_nonneg, Int.cast_ofNat_Int, ht_sI, ht_sJ, ht_sR, hn_sI, hn_sJ, hn_sR, hR_sI, hR_sJ, kI_v, kV_v, kJ_v, true_and, and_true, forall_eq, tg, ln, rf, ne_eq, not_false_eq_true, forall_const, not_true_eq_false, false_implies, W_X7_estimate_34, st_t s0]
    exact k_req0 ok s0 (r (fun e => g e.2))
  simp (disch := first | omega | decide | assumption | exact st_ne s0 (by decide) (by decide) (by decide) | exact dyn_ne (by assumption) (by decide) | fail) only [Int.reduceAdd, Int.reduceSub, Int.reduceNeg, ii_add, ii_sub, ii_mul, ii_lt, ii_le, ii_eq, ixn_ii, ixo_ii, rem_ii, nb_1, nb_0, nb_bb, bb_0, hI_gv, Int.toNat_of_nonneg, Int.cast_ofNat_Int, ht_sI, ht_sJ, ht_sR, hn_sI, hn_sJ, hn_sR, hR_sI, hR_sJ, kI_v, kV_v, kJ_v, true_and, and_true, forall_eq, tg, ln, rf, ne_eq, not_false_eq_true, forall_const, not_true_eq_false, false_implies, W_X7_estimate]
  refine ⟨fun g => bad (by omega), fun g => ⟨fun g2 => ?_, fun g2 => bad (by omega)⟩⟩
  refine T_X7_estimate_15 ok ?_
  simp (disch := first | omega | decide | assumption | exact st_ne s0 (by decide) (by decide) (by decide) | exact dyn_ne (by assumption) (by decide) | fail) only [Int.reduceAdd, Int.reduceSub, Int.reduceNeg, ii_add, ii_sub, ii_mul, ii_lt, ii_le, ii_eq, ixn_ii, ixo_ii, rem_ii, nb_1, nb_0, nb_bb, bb_0, hI_gv, Int.toNat_of_nonneg, Int.cast_ofNat_Int, ht_sI, ht_sJ, ht_sR, hn_sI, hn_sJ, hn_sR, hR_sI, hR_sJ, kI_v, kV_v, kJ_v, true_and, and_true, forall_eq, tg, ln, rf, ne_eq, not_false_eq_true, forall_const, not_true_eq_false, false_implies, W_X7_estimate_15, st_t s0]
  refine k_req1 ok ?_
  simp (disch := first | omega | decide | assumption | exact st_ne s0 (by decide) (by decide) (by decide) | exact dyn_ne (by assumption) (by decide) | fail) only [Int.reduceAdd, Int.reduceSub, Int.reduceNeg, ii_add, ii_sub, ii_mul, ii_lt, ii_le, ii_eq, ixn_ii, ixo_ii, rem_ii, nb_1, nb_0, nb_bb, bb_0, hI_gv, Int.toNat_of_nonneg, Int.cast_ofNat_Int, ht_sI, ht_sJ, ht_sR, hn_sI, hn_sJ, hn_sR, hR_sI, hR_sJ, kI_v, kV_v, kJ_v, true_and, and_true, forall_eq, tg, ln, rf, ne_eq, not_false_eq_true, forall_const, not_true_eq_false, false_implies]
  refine ⟨fun g3 => bad2 (by omega), fun g3 => ⟨fun g4 => ?_, fun g4 => bad2 (by omega)⟩⟩
  have gg : (0 ≤ w ∧ w ≤ 3) ∧ (0 ≤ t ∧ t ≤ 6) := by omega
  refine T_X7_estimate_34 ok ?_
  simp (disch := first | omega | decide | assumption | exact st_ne s0 (by decide) (by decide) (by decide) | exact dyn_ne (by assumption) (by decide) | fail) only [Int.reduceAdd, Int.reduceSub, Int.reduceNeg, ii_add, ii_sub, ii_mul, ii_lt, ii_le, ii_eq, ixn_ii, ixo_ii, rem_ii, nb_1, nb_0, nb_bb, bb_0, hI_gv, Int.toNat_of_nonneg, Int.cast_ofNat_Int, ht_sI, ht_sJ, ht_sR, hn_sI, hn_sJ, hn_sR, hR_sI, hR_sJ, kI_v, kV_v, kJ_v, true_and, and_true, forall_eq, tg, ln, rf, ne_eq, not_false_eq_true, forall_const, not_true_eq_false, false_implies, W_X7_estimate_34, st_t s0]
  refine k_req1 ok ?_
  simp (disch := first | omega | decide | assumption | exact st_ne s0 (by decide) (by decide) (by decide) | exact dyn_ne (by assumption) (by decide) | fail) only [Int.reduceAdd, Int.reduceSub, Int.reduceNeg, ii_add, ii_sub, ii_mul, ii_lt, ii_le, ii_eq, ixn_ii, ixo_ii, rem_ii, nb_1, nb_0, nb_bb, bb_0, hI_gv, Int.toNat_of_nonneg, Int.cast_ofNat_Int, ht_sI, ht_sJ, ht_sR, hn_sI, hn_sJ, hn_sR, hR_sI, hR_sJ, kI_v, kV_v, kJ_v, true_and, and_true, forall_eq, tg, ln, rf, ne_eq, not_false_eq_true, forall_const, not_true_eq_false, false_implies, st_t s0]
  refine k_isCounted ok c v gg.1.1 gg.1.2 i1 i2 ?_
  simp (disch := first | omega | decide | assumption | exact st_ne s0 (by decide) (by decide) (by decide) | exact dyn_ne (by assumption) (by decide) | fail) only [Int.reduceAdd, Int.reduceSub, Int.reduceNeg, ii_add, ii_sub, ii_mul, ii_lt, ii_le, ii_eq, ixn_ii, ixo_ii, rem_ii, nb_1, nb_0, nb_bb, bb_0, hI_gv, Int.toNat_of_nonneg, Int.cast_ofNat_Int, ht_sI, ht_sJ, ht_sR, hn_sI, hn_sJ, hn_sR, hR_sI, hR_sJ, kI_v, kV_v, kJ_v, true_and, and_true, forall_eq, tg, ln, rf, ne_eq, not_false_eq_true, forall_const, not_true_eq_false, false_implies, st_t s0]
  refine k_fndb ok s0 (fun g5 => ?_) (fun g5 => r2 gg g5)
  have hi := icd_rg v g5
  simp (disch := first | omega | decide | assumption | exact st_ne s0 (by decide) (by decide) (by decide) | exact dyn_ne (by assumption) (by decide) | fail) only [Int.reduceAdd, Int.reduceSub, Int.reduceNeg, ii_add, ii_sub, ii_mul, ii_lt, ii_le, ii_eq, ixn_ii, ixo_ii, rem_ii, nb_1, nb_0, nb_bb, bb_0, hI_gv, Int.toNat_of_nonneg, Int.cast_ofNat_Int, ht_sI, ht_sJ, ht_sR, hn_sI, hn_sJ, hn_sR, hR_sI, hR_sJ, kI_v, kV_v, kJ_v, true_and, and_true, forall_eq, tg, ln, rf, ne_eq, not_false_eq_true, forall_const, not_true_eq_false, false_implies, st_t s0]
  refine k_weigh ok c v gg.1.1 gg.1.2 hi.1 hi.2 (fun h1 a ws => ?_)
  have hq := q gg g5 h1 a
  have c' := kst_fr c a pC_lt
  have t0 := c'.1
  obtain ⟨c0, n, c2, c3, c4, c5⟩ := id c'.2
  obtain ⟨n0, n1, n2, -, -, -, -, ⟨ga, gb, u0, u1, u2, u3, u4⟩, nd⟩ := id n
  obtain ⟨x1, x2, x3, x4⟩ := id ws
  have hc := cube_rg v3.1 v3.2 v2.2
  have e3 : m 2 * m 3 * m 3 = m 3 * m 3 * m 2 := by rw [Int.mul_assoc, Int.mul_comm]
  have hr := rs_cts (w := w) (i := i) v v4.1 v4.2
  clear q r r2 bad bad2
  unfold esS at hq
  rcases (by omega : t = 0 ∨ t = 1 ∨ t = 2 ∨ t = 3 ∨ t = 4 ∨ t = 5 ∨ t = 6) with rfl | rfl | rfl | rfl | rfl | rfl | rfl
  · simp (disch := first | omega | decide | assumption | exact st_ne s0 (by decide) (by decide) (by decide) | exact dyn_ne (by assumption) (by decide) | fail) only [Int.reduceAdd, Int.reduceSub, Int.reduceNeg, ii_add, ii_sub, ii_mul, ii_lt, ii_le, ii_eq, ixn_ii, ixo_ii, rem_ii, nb_1, nb_0, nb_bb, bb_0, hI_gv, Int.toNat_of_nonneg, Int.cast_ofNat_Int, ht_sI, ht_sJ, ht_sR, hn_sI, hn_sJ, hn_sR, hR_sI, hR_sJ, kI_v, kV_v, kJ_v, true_and, and_true, forall_eq, tg, ln, rf, ne_eq, not_false_eq_true, forall_const, not_true_eq_false, false_implies, Int.reduceEq, Int.reduceLT, Int.reduceLE, implies_true, and_self, reduceCtorEq, false_and, st_t t0, st_r t0, c0, n0, ga, gb, u1, u2, u3, i64_ii]
    refine k_chosenByS ok t0 v ws (by omega) (by omega) ?_
    rw [hr]
    simp (disch := first | omega | decide | assumption | exact st_ne s0 (by decide) (by decide) (by decide) | exact dyn_ne (by assumption) (by decide) | fail) only [Int.reduceAdd, Int.reduceSub, Int.reduceNeg, ii_add, ii_sub, ii_mul, ii_lt, ii_le, ii_eq, ixn_ii, ixo_ii, rem_ii, nb_1, nb_0, nb_bb, bb_0, hI_gv, Int.toNat_of_nonneg, Int.cast_ofNat_Int, ht_sI, ht_sJ, ht_sR, hn_sI, hn_sJ, hn_sR, hR_sI, hR_sJ, kI_v, kV_v, kJ_v, true_and, and_true, forall_eq, tg, ln, rf, ne_eq, not_false_eq_true, forall_const, not_true_eq_false, false_implies, Int.reduceEq, Int.reduceLT, Int.reduceLE, implies_true, and_self, reduceCtorEq, false_and, jj_mul]
    refine k_reduced (b := false) ok (jj_n0 (by omega) (by omega)) ?_
    simp (disch := first | omega | decide | assumption | exact st_ne s0 (by decide) (by decide) (by decide) | exact dyn_ne (by assumption) (by decide) | fail) only [Int.reduceAdd, Int.reduceSub, Int.reduceNeg, ii_add, ii_sub, ii_mul, ii_lt, ii_le, ii_eq, ixn_ii, ixo_ii, rem_ii, nb_1, nb_0, nb_bb, bb_0, hI_gv, Int.toNat_of_nonneg, Int.cast_ofNat_Int, ht_sI, ht_sJ, ht_sR, hn_sI, hn_sJ, hn_sR, hR_sI, hR_sJ, kI_v, kV_v, kJ_v, true_and, and_true, forall_eq, tg, ln, rf, ne_eq, not_false_eq_true, forall_const, not_true_eq_false, false_implies]
    exact hq
  · simp (disch := first | omega | decide | assumption | exact st_ne s0 (by decide) (by decide) (by decide) | exact dyn_ne (by assumption) (by decide) | fail) only [Int.reduceAdd, Int.reduceSub, Int.reduceNeg, ii_add, ii_sub, ii_mul, ii_lt, ii_le, ii_eq, ixn_ii, ixo_ii, rem_ii, nb_1, nb_0, nb_bb, bb_0, hI_gv, Int.toNat_of_nonneg, Int.cast_ofNat_Int, ht_sI, ht_sJ, ht_sR, hn_sI, hn_sJ, hn_sR, hR_sI, hR_sJ, kI_v, kV_v, kJ_v, true_and, and_true, forall_eq, tg, ln, rf, ne_eq, not_false_eq_true, forall_const, not_true_eq_false, false_implies, Int.reduceEq, Int.reduceLT, Int.reduceLE, implies_true, and_self, reduceCtorEq, false_and, st_t t0, st_r t0, c0, n0, ga, gb, u1, u2, u3, i64_ii]
    refine k_chosenByS ok t0 v ws (by omega) (by omega) ?_
    rw [hr]
    simp (disch := first | omega | decide | assumption | exact st_ne s0 (by decide) (by decide) (by decide) | exact dyn_ne (by assumption) (by decide) | fail) only [Int.reduceAdd, Int.reduceSub, Int.reduceNeg, ii_add, ii_sub, ii_mul, ii_lt, ii_le, ii_eq, ixn_ii, ixo_ii, rem_ii, nb_1, nb_0, nb_bb, bb_0, hI_gv, Int.toNat_of_nonneg, Int.cast_ofNat_Int, ht_sI, ht_sJ, ht_sR, hn_sI, hn_sJ, hn_sR, hR_sI, hR_sJ, kI_v, kV_v, kJ_v, true_and, and_true, forall_eq, tg, ln, rf, ne_eq, not_false_eq_true, forall_const, not_true_eq_false, false_implies, Int.reduceEq, Int.reduceLT, Int.reduceLE, implies_true, and_self, reduceCtorEq, false_and, jj_mul]
    refine k_reduced (b := true) ok (jj_n0 (by omega) (by omega)) ?_
    simp (disch := first | omega | decide | assumption | exact st_ne s0 (by decide) (by decide) (by decide) | exact dyn_ne (by assumption) (by decide) | fail) only [Int.reduceAdd, Int.reduceSub, Int.reduceNeg, ii_add, ii_sub, ii_mul, ii_lt, ii_le, ii_eq, ixn_ii, ixo_ii, rem_ii, nb_1, nb_0, nb_bb, bb_0, hI_gv, Int.toNat_of_nonneg, Int.cast_ofNat_Int, ht_sI, ht_sJ, ht_sR, hn_sI, hn_sJ, hn_sR, hR_sI, hR_sJ, kI_v, kV_v, kJ_v, true_and, and_true, forall_eq, tg, ln, rf, ne_eq, not_false_eq_true, forall_const, not_true_eq_false, false_implies]
    exact hq
  · simp (disch := first | omega | decide | assumption | exact st_ne s0 (by decide) (by decide) (by decide) | exact dyn_ne (by assumption) (by decide) | fail) only [Int.reduceAdd, Int.reduceSub, Int.reduceNeg, ii_add, ii_sub, ii_mul, ii_lt, ii_le, ii_eq, ixn_ii, ixo_ii, rem_ii, nb_1, nb_0, nb_bb, bb_0, hI_gv, Int.toNat_of_nonneg, Int.cast_ofNat_Int, ht_sI, ht_sJ, ht_sR, hn_sI, hn_sJ, hn_sR, hR_sI, hR_sJ, kI_v, kV_v, kJ_v, true_and, and_true, forall_eq, tg, ln, rf, ne_eq, not_false_eq_true, forall_const, not_true_eq_false, false_implies, Int.reduceEq, Int.reduceLT, Int.reduceLE, implies_true, and_self, reduceCtorEq, false_and, st_t t0, st_r t0, c0, n0, ga, gb, u1, u2, u3, i64_ii, x3]
    exact hq
  · simp (disch := first | omega | decide | assumption | exact st_ne s0 (by decide) (by decide) (by decide) | exact dyn_ne (by assumption) (by decide) | fail) only [Int.reduceAdd, Int.reduceSub, Int.reduceNeg, ii_add, ii_sub, ii_mul, ii_lt, ii_le, ii_eq, ixn_ii, ixo_ii, rem_ii, nb_1, nb_0, nb_bb, bb_0, hI_gv, Int.toNat_of_nonneg, Int.cast_ofNat_Int, ht_sI, ht_sJ, ht_sR, hn_sI, hn_sJ, hn_sR, hR_sI, hR_sJ, kI_v, kV_v, kJ_v, true_and, and_true, forall_eq, tg, ln, rf, ne_eq, not_false_eq_true, forall_const, not_true_eq_false, false_implies, Int.reduceEq, Int.reduceLT, Int.reduceLE, implies_true, and_self, reduceCtorEq, false_and, st_t t0, st_r t0, c0, n0, ga, gb, u1, u2, u3, i64_ii]
    refine k_sumOverKeys (b := false) ok t0 v ws ?_
    simp (disch := first | omega | decide | assumption | exact st_ne s0 (by decide) (by decide) (by decide) | exact dyn_ne (by assumption) (by decide) | fail) only [Int.reduceAdd, Int.reduceSub, Int.reduceNeg, ii_add, ii_sub, ii_mul, ii_lt, ii_le, ii_eq, ixn_ii, ixo_ii, rem_ii, nb_1, nb_0, nb_bb, bb_0, hI_gv, Int.toNat_of_nonneg, Int.cast_ofNat_Int, ht_sI, ht_sJ, ht_sR, hn_sI, hn_sJ, hn_sR, hR_sI, hR_sJ, kI_v, kV_v, kJ_v, true_and, and_true, forall_eq, tg, ln, rf, ne_eq, not_false_eq_true, forall_const, not_true_eq_false, false_implies, Int.reduceEq, Int.reduceLT, Int.reduceLE, implies_true, and_self, reduceCtorEq, false_and,]
    refine k_reduced (b := false) ok (jj_n0 (by omega) (by omega)) ?_
    simp (disch := first | omega | decide | assumption | exact st_ne s0 (by decide) (by decide) (by decide) | exact dyn_ne (by assumption) (by decide) | fail) only [Int.reduceAdd, Int.reduceSub, Int.reduceNeg, ii_add, ii_sub, ii_mul, ii_lt, ii_le, ii_eq, ixn_ii, ixo_ii, rem_ii, nb_1, nb_0, nb_bb, bb_0, hI_gv, Int.toNat_of_nonneg, Int.cast_ofNat_Int, ht_sI, ht_sJ, ht_sR, hn_sI, hn_sJ, hn_sR, hR_sI, hR_sJ, kI_v, kV_v, kJ_v, true_and, and_true, forall_eq, tg, ln, rf, ne_eq, not_false_eq_true, forall_const, not_true_eq_false, false_implies]
    exact hq
  · simp (disch := first | omega | decide | assumption | exact st_ne s0 (by decide) (by decide) (by decide) | exact dyn_ne (by assumption) (by decide) | fail) only [Int.reduceAdd, Int.reduceSub, Int.reduceNeg, ii_add, ii_sub, ii_mul, ii_lt, ii_le, ii_eq, ixn_ii, ixo_ii, rem_ii, nb_1, nb_0, nb_bb, bb_0, hI_gv, Int.toNat_of_nonneg, Int.cast_ofNat_Int, ht_sI, ht_sJ, ht_sR, hn_sI, hn_sJ, hn_sR, hR_sI, hR_sJ, kI_v, kV_v, kJ_v, true_and, and_true, forall_eq, tg, ln, rf, ne_eq, not_false_eq_true, forall_const, not_true_eq_false, false_implies, Int.reduceEq, Int.reduceLT, Int.reduceLE, implies_true, and_self, reduceCtorEq, false_and, st_t t0, st_r t0, c0, n0, ga, gb, u1, u2, u3, i64_ii]
    refine k_sumOverKeys (b := false) ok t0 v ws ?_
    simp (disch := first | omega | decide | assumption | exact st_ne s0 (by decide) (by decide) (by decide) | exact dyn_ne (by assumption) (by decide) | fail) only [Int.reduceAdd, Int.reduceSub, Int.reduceNeg, ii_add, ii_sub, ii_mul, ii_lt, ii_le, ii_eq, ixn_ii, ixo_ii, rem_ii, nb_1, nb_0, nb_bb, bb_0, hI_gv, Int.toNat_of_nonneg, Int.cast_ofNat_Int, ht_sI, ht_sJ, ht_sR, hn_sI, hn_sJ, hn_sR, hR_sI, hR_sJ, kI_v, kV_v, kJ_v, true_and, and_true, forall_eq, tg, ln, rf, ne_eq, not_false_eq_true, forall_const, not_true_eq_false, false_implies, Int.reduceEq, Int.reduceLT, Int.reduceLE, implies_true, and_self, reduceCtorEq, false_and,]
    refine k_reduced (b := true) ok (jj_n0 (by omega) (by omega)) ?_
    simp (disch := first | omega | decide | assumption | exact st_ne s0 (by decide) (by decide) (by decide) | exact dyn_ne (by assumption) (by decide) | fail) only [Int.reduceAdd, Int.reduceSub, Int.reduceNeg, ii_add, ii_sub, ii_mul, ii_lt, ii_le, ii_eq, ixn_ii, ixo_ii, rem_ii, nb_1, nb_0, nb_bb, bb_0, hI_gv, Int.toNat_of_nonneg, Int.cast_ofNat_Int, ht_sI, ht_sJ, ht_sR, hn_sI, hn_sJ, hn_sR, hR_sI, hR_sJ, kI_v, kV_v, kJ_v, true_and, and_true, forall_eq, tg, ln, rf, ne_eq, not_false_eq_true, forall_const, not_true_eq_false, false_implies]
    exact hq
  · simp (disch := first | omega | decide | assumption | exact st_ne s0 (by decide) (by decide) (by decide) | exact dyn_ne (by assumption) (by decide) | fail) only [Int.reduceAdd, Int.reduceSub, Int.reduceNeg, ii_add, ii_sub, ii_mul, ii_lt, ii_le, ii_eq, ixn_ii, ixo_ii, rem_ii, nb_1, nb_0, nb_bb, bb_0, hI_gv, Int.toNat_of_nonneg, Int.cast_ofNat_Int, ht_sI, ht_sJ, ht_sR, hn_sI, hn_sJ, hn_sR, hR_sI, hR_sJ, kI_v, kV_v, kJ_v, true_and, and_true, forall_eq, tg, ln, rf, ne_eq, not_false_eq_true, forall_const, not_true_eq_false, false_implies, Int.reduceEq, Int.reduceLT, Int.reduceLE, implies_true, and_self, reduceCtorEq, false_and, st_t t0, st_r t0, c0, n0, ga, gb, u1, u2, u3, i64_ii, jj_mul, e3]
    refine k_sumOverKeys (b := true) ok t0 v ws ?_
    simp (disch := first | omega | decide | assumption | exact st_ne s0 (by decide) (by decide) (by decide) | exact dyn_ne (by assumption) (by decide) | fail) only [Int.reduceAdd, Int.reduceSub, Int.reduceNeg, ii_add, ii_sub, ii_mul, ii_lt, ii_le, ii_eq, ixn_ii, ixo_ii, rem_ii, nb_1, nb_0, nb_bb, bb_0, hI_gv, Int.toNat_of_nonneg, Int.cast_ofNat_Int, ht_sI, ht_sJ, ht_sR, hn_sI, hn_sJ, hn_sR, hR_sI, hR_sJ, kI_v, kV_v, kJ_v, true_and, and_true, forall_eq, tg, ln, rf, ne_eq, not_false_eq_true, forall_const, not_true_eq_false, false_implies, Int.reduceEq, Int.reduceLT, Int.reduceLE, implies_true, and_self, reduceCtorEq, false_and,]
    refine k_reduced (b := false) ok (jj_n0 hc.1 hc.2) ?_
    simp (disch := first | omega | decide | assumption | exact st_ne s0 (by decide) (by decide) (by decide) | exact dyn_ne (by assumption) (by decide) | fail) only [Int.reduceAdd, Int.reduceSub, Int.reduceNeg, ii_add, ii_sub, ii_mul, ii_lt, ii_le, ii_eq, ixn_ii, ixo_ii, rem_ii, nb_1, nb_0, nb_bb, bb_0, hI_gv, Int.toNat_of_nonneg, Int.cast_ofNat_Int, ht_sI, ht_sJ, ht_sR, hn_sI, hn_sJ, hn_sR, hR_sI, hR_sJ, kI_v, kV_v, kJ_v, true_and, and_true, forall_eq, tg, ln, rf, ne_eq, not_false_eq_true, forall_const, not_true_eq_false, false_implies]
    exact hq
  · simp (disch := first | omega | decide | assumption | exact st_ne s0 (by decide) (by decide) (by decide) | exact dyn_ne (by assumption) (by decide) | fail) only [Int.reduceAdd, Int.reduceSub, Int.reduceNeg, ii_add, ii_sub, ii_mul, ii_lt, ii_le, ii_eq, ixn_ii, ixo_ii, rem_ii, nb_1, nb_0, nb_bb, bb_0, hI_gv, Int.toNat_of_nonneg, Int.cast_ofNat_Int, ht_sI, ht_sJ, ht_sR, hn_sI, hn_sJ, hn_sR, hR_sI, hR_sJ, kI_v, kV_v, kJ_v, true_and, and_true, forall_eq, tg, ln, rf, ne_eq, not_false_eq_true, forall_const, not_true_eq_false, false_implies, Int.reduceEq, Int.reduceLT, Int.reduceLE, implies_true, and_self, reduceCtorEq, false_and, st_t t0, st_r t0, c0, n0, ga, gb, u1, u2, u3, i64_ii, jj_mul, e3]
    refine k_sumOverKeys (b := true) ok t0 v ws ?_
    simp (disch := first | omega | decide | assumption | exact st_ne s0 (by decide) (by decide) (by decide) | exact dyn_ne (by assumption) (by decide) | fail) only [Int.reduceAdd, Int.reduceSub, Int.reduceNeg, ii_add, ii_sub, ii_mul, ii_lt, ii_le, ii_eq, ixn_ii, ixo_ii, rem_ii, nb_1, nb_0, nb_bb, bb_0, hI_gv, Int.toNat_of_nonneg, Int.cast_ofNat_Int, ht_sI, ht_sJ, ht_sR, hn_sI, hn_sJ, hn_sR, hR_sI, hR_sJ, kI_v, kV_v, kJ_v, true_and, and_true, forall_eq, tg, ln, rf, ne_eq, not_false_eq_true, forall_const, not_true_eq_false, false_implies, Int.reduceEq, Int.reduceLT, Int.reduceLE, implies_true, and_self, reduceCtorEq, false_and,]
    refine k_reduced (b := true) ok (jj_n0 hc.1 hc.2) ?_
    simp (disch := first | omega | decide | assumption | exact st_ne s0 (by decide) (by decide) (by decide) | exact dyn_ne (by assumption) (by decide) | fail) only [Int.reduceAdd, Int.reduceSub, Int.reduceNeg, ii_add, ii_sub, ii_mul, ii_lt, ii_le, ii_eq, ixn_ii, ixo_ii, rem_ii, nb_1, nb_0, nb_bb, bb_0, hI_gv, Int.toNat_of_nonneg, Int.cast_ofNat_Int, ht_sI, ht_sJ, ht_sR, hn_sI, hn_sJ, hn_sR, hR_sI, hR_sJ, kI_v, kV_v, kJ_v, true_and, and_true, forall_eq, tg, ln, rf, ne_eq, not_false_eq_true, forall_const, not_true_eq_false, false_implies]
    exact hq
theorem c_counts_21 (ok : tr_ok E) (s : mst ad h m one two H L) (v : vok m one two H L) {w i key p : Int} (w1 : 0 ≤ w) (w2 : w ≤ 3) (i1 : 0 ≤ i) (i2 : i ≤ 24) (k1 : -1 ≤ key) (k2 : key < m 2) (h1 : 0 ≤ p) (h2 : p < m 106) : ∀ (n : Nat) (k a : Int), k + n = fd m p 6 + 1 → 0 ≤ k → tr_G E 193 Q 6 [some (.inr (.inr (ad 23))), some (.inl (ii w)), some (.inl (ii i)), some (.inl (ii key)), some (.inr (.inl (jj (a + sm (ctK m w i key p) k n)))), none, some (.inl (ii (p + 1))), none, none] [] h 0 0 → tr_G E 193 Q 21 [some (.inr (.inr (ad 23))), some (.inl (ii w)), some (.inl (ii i)), some (.inl (ii key)), some (.inr (.inl (jj a))), none, some (.inl (ii p)), some (.inl (ii k)), none] [] h 0 0
  | n, k, a, hk, k0, q => by
    refine T_X8_counts_21 ok ?_
    have s0 := s.1
    have em := s.2.1
    obtain ⟨vH, vL, vl, v0, v1, v2, v3, v4, v5, vr, vm, vp⟩ := id v
    obtain ⟨q0, q1, q2, q3, q4, q5, q6, q7⟩ := v_p v h1 h2
    simp (disch := first | omega | decide | assumption | exact st_ne s0 (by decide) (by decide) (by decide) | exact dyn_ne (by assumption) (by decide) | fail) only [Int.reduceAdd, Int.reduceSub, Int.reduceNeg, ii_add, ii_sub, ii_mul, ii_lt, ii_le, ii_eq, ixn_ii, ixo_ii, rem_ii, nb_1, nb_0, nb_bb, bb_0, hI_gv, Int.toNat_of_nonneg, Int.cast_ofNat_Int, ht_sI, ht_sJ, ht_sR, hn_sI, hn_sJ, hn_sR, hR_sI, hR_sJ, kI_v, kV_v, kJ_v, true_and, and_true, forall_eq, tg, ln, rf, ne_eq, not_false_eq_true, forall_const, not_true_eq_false, false_implies, W_X8_counts_21, st_t s0]
    refine c_of ok s h1 (by omega) (by omega) (by omega) ?_
    simp (disch := first | omega | decide | assumption | exact st_ne s0 (by decide) (by decide) (by decide) | exact dyn_ne (by assumption) (by decide) | fail) only [Int.reduceAdd, Int.reduceSub, Int.reduceNeg, ii_add, ii_sub, ii_mul, ii_lt, ii_le, ii_eq, ixn_ii, ixo_ii, rem_ii, nb_1, nb_0, nb_bb, bb_0, hI_gv, Int.toNat_of_nonneg, Int.cast_ofNat_Int, ht_sI, ht_sJ, ht_sR, hn_sI, hn_sJ, hn_sR, hR_sI, hR_sJ, kI_v, kV_v, kJ_v, true_and, and_true, forall_eq, tg, ln, rf, ne_eq, not_false_eq_true, forall_const, not_true_eq_false, false_implies, st_t s0]
    by_cases g : k ≤ fd m p 6
    · obtain ⟨n, rfl⟩ : ∃ n', n = n' + 1 := ⟨n - 1, by omega⟩
      rw [sm_s, ← Int.add_assoc] at q
      have go := c_counts_21 ok s v w1 w2 i1 i2 k1 k2 h1 h2 n (k + 1) _ (by omega) (by omega) q
      have hwt := wt_rg (w := w) v h1 h2
      have no : ic m w i p k = false → tr_G E 193 Q 104 [some (.inr (.inr (ad 23))), some (.inl (ii w)), some (.inl (ii i)), some (.inl (ii key)), some (.inr (.inl (jj a))), none, some (.inl (ii p)), some (.inl (ii k)), none] [.inl (ii 0)] h 0 0 := by
        intro e
        refine T_X8_counts_104 ok ?_
        unfold ctK at go
        rw [e, Bool.false_and, if_neg (by decide), Int.add_zero] at go
        simp (disch := first | omega | decide | assumption | exact st_ne s0 (by decide) (by decide) (by decide) | exact dyn_ne (by assumption) (by decide) | fail) only [Int.reduceAdd, Int.reduceSub, Int.reduceNeg, ii_add, ii_sub, ii_mul, ii_lt, ii_le, ii_eq, ixn_ii, ixo_ii, rem_ii, nb_1, nb_0, nb_bb, bb_0, hI_gv, Int.toNat_of_nonneg, Int.cast_ofNat_Int, ht_sI, ht_sJ, ht_sR, hn_sI, hn_sJ, hn_sR, hR_sI, hR_sJ, kI_v, kV_v, kJ_v, true_and, and_true, forall_eq, tg, ln, rf, ne_eq, not_false_eq_true, forall_const, not_true_eq_false, false_implies, Int.reduceEq, Int.reduceLT, Int.reduceLE, implies_true, and_self, reduceCtorEq, false_and, W_X8_counts_104]
        exact go
      have yes : ic m w i p k = true → tr_G E 193 Q 104 [some (.inr (.inr (ad 23))), some (.inl (ii w)), some (.inl (ii i)), some (.inl (ii key)), some (.inr (.inl (jj a))), none, some (.inl (ii p)), some (.inl (ii k)), none] [.inl (ii 1)] h 0 0 := by
        intro e
        refine T_X8_counts_104 ok ?_
        unfold ctK at go
        rw [e, Bool.true_and] at go
        have add : (decide (key = -1) || decide ((mixB m p k (m 1) + key) % m 2 < m 3)) = true → tr_G E 193 Q 151 [some (.inr (.inr (ad 23))), some (.inl (ii w)), some (.inl (ii i)), some (.inl (ii key)), some (.inr (.inl (jj a))), none, some (.inl (ii p)), some (.inl (ii k)), none] [] h 0 0 := by
          intro e2
          rw [if_pos e2] at go
          refine T_X8_counts_151 ok ?_
          unfold wt at go
          simp (disch := first | omega | decide | assumption | exact st_ne s0 (by decide) (by decide) (by decide) | exact dyn_ne (by assumption) (by decide) | fail) only [Int.reduceAdd, Int.reduceSub, Int.reduceNeg, ii_add, ii_sub, ii_mul, ii_lt, ii_le, ii_eq, ixn_ii, ixo_ii, rem_ii, nb_1, nb_0, nb_bb, bb_0, hI_gv, Int.toNat_of_nonneg, Int.cast_ofNat_Int, ht_sI, ht_sJ, ht_sR, hn_sI, hn_sJ, hn_sR, hR_sI, hR_sJ, kI_v, kV_v, kJ_v, true_and, and_true, forall_eq, tg, ln, rf, ne_eq, not_false_eq_true, forall_const, not_true_eq_false, false_implies, W_X8_counts_151, st_t s0, jo, jj_add]
          refine ⟨fun e3 => ?_, fun e3 => ?_⟩
          · rw [if_pos e3] at go
            refine c_of ok s h1 (by omega) (by omega) (by omega) ?_
            simp (disch := first | omega | decide | assumption | exact st_ne s0 (by decide) (by decide) (by decide) | exact dyn_ne (by assumption) (by decide) | fail) only [Int.reduceAdd, Int.reduceSub, Int.reduceNeg, ii_add, ii_sub, ii_mul, ii_lt, ii_le, ii_eq, ixn_ii, ixo_ii, rem_ii, nb_1, nb_0, nb_bb, bb_0, hI_gv, Int.toNat_of_nonneg, Int.cast_ofNat_Int, ht_sI, ht_sJ, ht_sR, hn_sI, hn_sJ, hn_sR, hR_sI, hR_sJ, kI_v, kV_v, kJ_v, true_and, and_true, forall_eq, tg, ln, rf, ne_eq, not_false_eq_true, forall_const, not_true_eq_false, false_implies, i64_ii, jj_add]
            exact go
          · rw [if_neg e3] at go; exact go
        have hx := mixB_rg (p := p) (k := k) v (m 1)
        simp (disch := first | omega | decide | assumption | exact st_ne s0 (by decide) (by decide) (by decide) | exact dyn_ne (by assumption) (by decide) | fail) only [Int.reduceAdd, Int.reduceSub, Int.reduceNeg, ii_add, ii_sub, ii_mul, ii_lt, ii_le, ii_eq, ixn_ii, ixo_ii, rem_ii, nb_1, nb_0, nb_bb, bb_0, hI_gv, Int.toNat_of_nonneg, Int.cast_ofNat_Int, ht_sI, ht_sJ, ht_sR, hn_sI, hn_sJ, hn_sR, hR_sI, hR_sJ, kI_v, kV_v, kJ_v, true_and, and_true, forall_eq, tg, ln, rf, ne_eq, not_false_eq_true, forall_const, not_true_eq_false, false_implies, Int.reduceEq, Int.reduceLT, Int.reduceLE, implies_true, and_self, reduceCtorEq, false_and, W_X8_counts_104, st_t s0, st_n s0, st_r s0, em]
        refine ⟨fun e2 => add (by rw [decide_eq_true e2]; rfl), fun e2 => ?_⟩
        refine c_mixBy ok s v h1 h2 (by omega) (by omega) (by omega) (by omega) ?_
        have y1 := Int.emod_nonneg (mixB m p k (m 1) + key) (by omega : m 2 ≠ 0)
        have y2 := Int.emod_lt_of_pos (mixB m p k (m 1) + key) (by omega : 0 < m 2)
        simp (disch := first | omega | decide | assumption | exact st_ne s0 (by decide) (by decide) (by decide) | exact dyn_ne (by assumption) (by decide) | fail) only [Int.reduceAdd, Int.reduceSub, Int.reduceNeg, ii_add, ii_sub, ii_mul, ii_lt, ii_le, ii_eq, ixn_ii, ixo_ii, rem_ii, nb_1, nb_0, nb_bb, bb_0, hI_gv, Int.toNat_of_nonneg, Int.cast_ofNat_Int, ht_sI, ht_sJ, ht_sR, hn_sI, hn_sJ, hn_sR, hR_sI, hR_sJ, kI_v, kV_v, kJ_v, true_and, and_true, forall_eq, tg, ln, rf, ne_eq, not_false_eq_true, forall_const, not_true_eq_false, false_implies, Int.reduceEq, Int.reduceLT, Int.reduceLE, implies_true, and_self, reduceCtorEq, false_and, st_t s0, st_n s0, st_r s0, em]
        refine ⟨by omega, fun e3 => add (by rw [decide_eq_true e3, Bool.or_true]), fun e3 => ?_⟩
        rw [decide_eq_false e2, decide_eq_false e3, Bool.or_false, if_neg (by decide), Int.add_zero] at go
        exact go
      refine ⟨fun _ => ⟨fun a => ⟨fun b => ?_, fun b => ?_⟩, fun a => ⟨fun b => ⟨fun c => ?_, fun c => ?_⟩, fun b => ⟨fun c => ?_, fun c => ?_⟩⟩⟩, fun g2 => absurd g g2⟩
      · refine c_of ok s h1 (by omega) (by omega) (by omega) ?_
        simp (disch := first | omega | decide | assumption | exact st_ne s0 (by decide) (by decide) (by decide) | exact dyn_ne (by assumption) (by decide) | fail) only [Int.reduceAdd, Int.reduceSub, Int.reduceNeg, ii_add, ii_sub, ii_mul, ii_lt, ii_le, ii_eq, ixn_ii, ixo_ii, rem_ii, nb_1, nb_0, nb_bb, bb_0, hI_gv, Int.toNat_of_nonneg, Int.cast_ofNat_Int, ht_sI, ht_sJ, ht_sR, hn_sI, hn_sJ, hn_sR, hR_sI, hR_sJ, kI_v, kV_v, kJ_v, true_and, and_true, forall_eq, tg, ln, rf, ne_eq, not_false_eq_true, forall_const, not_true_eq_false, false_implies]
        refine ⟨fun c => yes ?_, fun c => no ?_⟩
        · unfold ic; rw [if_pos a, decide_eq_true ⟨b, c⟩]
        · unfold ic; rw [if_pos a, decide_eq_false (fun e => c e.2)]
      · refine no ?_
        unfold ic; rw [if_pos a, decide_eq_false (fun e => b e.1)]
      · refine yes ?_
        unfold ic; rw [if_neg a, if_pos b, decide_eq_true c]
      · refine no ?_
        unfold ic; rw [if_neg a, if_pos b, decide_eq_false c]
      · refine no ?_
        unfold ic; rw [if_neg a, if_neg b, decide_eq_false (by omega)]
      · refine c_linkAt ok s h1 (by omega) (by omega) (by omega) ?_
        have := q7 (k - 1) (by omega) (by omega)
        simp (disch := first | omega | decide | assumption | exact st_ne s0 (by decide) (by decide) (by decide) | exact dyn_ne (by assumption) (by decide) | fail) only [Int.reduceAdd, Int.reduceSub, Int.reduceNeg, ii_add, ii_sub, ii_mul, ii_lt, ii_le, ii_eq, ixn_ii, ixo_ii, rem_ii, nb_1, nb_0, nb_bb, bb_0, hI_gv, Int.toNat_of_nonneg, Int.cast_ofNat_Int, ht_sI, ht_sJ, ht_sR, hn_sI, hn_sJ, hn_sR, hR_sI, hR_sJ, kI_v, kV_v, kJ_v, true_and, and_true, forall_eq, tg, ln, rf, ne_eq, not_false_eq_true, forall_const, not_true_eq_false, false_implies]
        refine ⟨fun d => yes ?_, fun d => no ?_⟩
        · unfold ic; rw [if_neg a, if_neg b, decide_eq_true ⟨by omega, d⟩]
        · unfold ic; rw [if_neg a, if_neg b, decide_eq_false (fun e => d e.2)]
    · obtain rfl : n = 0 := by omega
      rw [sm_0, Int.add_zero] at q
      exact ⟨fun g2 => absurd g2 g, fun _ => q⟩
theorem c_counts_6 (ok : tr_ok E) (s : mst ad h m one two H L) (v : vok m one two H L) {w i key : Int} (w1 : 0 ≤ w) (w2 : w ≤ 3) (i1 : 0 ≤ i) (i2 : i ≤ 24) (k1 : -1 ≤ key) (k2 : key < m 2) : ∀ (n : Nat) (p a : Int), p + n = m 106 → 0 ≤ p → Q (.inl (some (.inr (.inl (jj (a + sm (fun p => sm (ctK m w i key p) 0 (fd m p 6 + 1).toNat) p n)))))) h → tr_G E 193 Q 6 [some (.inr (.inr (ad 23))), some (.inl (ii w)), some (.inl (ii i)), some (.inl (ii key)), some (.inr (.inl (jj a))), none, some (.inl (ii p)), none, none] [] h 0 0
  | n, p, a, hk, h1, q => by
    refine T_X8_counts_6 ok ?_
    have vm := v_m v
    simp (disch := first | omega | decide | assumption | exact st_ne s0 (by decide) (by decide) (by decide) | exact dyn_ne (by assumption) (by decide) | fail) only [Int.reduceAdd, Int.reduceSub, Int.reduceNeg, ii_add, ii_sub, ii_mul, ii_lt, ii_le, ii_eq, ixn_ii, ixo_ii, rem_ii, nb_1, nb_0, nb_bb, bb_0, hI_gv, Int.toNat_of_nonneg, Int.cast_ofNat_Int, ht_sI, ht_sJ, ht_sR, hn_sI, hn_sJ, hn_sR, hR_sI, hR_sJ, kI_v, kV_v, kJ_v, true_and, and_true, forall_eq, tg, ln, rf, ne_eq, not_false_eq_true, forall_const, not_true_eq_false, false_implies, W_X8_counts_6, st_t s.1, st_n s.1, st_r s.1, s.2.1]
    refine ⟨by omega, fun h2 => ?_, fun g => ?_⟩
    · obtain ⟨n, rfl⟩ : ∃ n', n = n' + 1 := ⟨n - 1, by omega⟩
      obtain ⟨q0, q1, q2, q3, q4, q5, q6, q7⟩ := v_p v h1 h2
      rw [sm_s, ← Int.add_assoc] at q
      refine c_counts_21 ok s v w1 w2 i1 i2 k1 k2 h1 h2 (fd m p 6 + 1).toNat 0 a (by omega) (by omega) ?_
      exact c_counts_6 ok s v w1 w2 i1 i2 k1 k2 n (p + 1) _ (by omega) (by omega) q
    · obtain rfl : n = 0 := by omega
      rw [sm_0, Int.add_zero] at q; exact q
theorem c_counts (ok : tr_ok E) (s : mst ad h m one two H L) (v : vok m one two H L) {w i key : Int} (w1 : 0 ≤ w) (w2 : w ≤ 3) (i1 : 0 ≤ i) (i2 : i ≤ 24) (k1 : -1 ≤ key) (k2 : key < m 2) (q : Q (.inl (some (.inr (.inl (jj (cts m w i key)))))) h) : tr_C E 193 [.inr (.inr (ad 23)), .inl (ii w), .inl (ii i), .inl (ii key)] h Q := by
  refine T_X8_counts ok ?_
  have vm := v_m v
  refine c_counts_6 ok s v w1 w2 i1 i2 k1 k2 (m 106).toNat 0 0 (by omega) (by omega) ?_
  rw [Int.zero_add]; exact q
theorem c_reckoned_80 (ok : tr_ok E) (s : mst ad h m one two H L) (v : vok m one two H L) {w i t : Int} (w1 : 0 ≤ w) (w2 : w ≤ 3) (i1 : 0 ≤ i) (i2 : i ≤ 24) (t1 : 3 ≤ t) (t2 : t ≤ 6) : ∀ (n : Nat) (key a b : Int), key + n = m 2 → 0 ≤ key → Q (.inl (some (.inr (.inl (if t < 5 then frc (jj (a + sm (fun key => gq m (cts m w i (-1)) false (cts m w i key)) key n)) (jj (m 3)) (decide (t = 4)) else frc (jj (b + sm (fun key => gq m (cts m w i (-1)) true (cts m w i key)) key n)) (jj (m 3 * m 3 * m 2)) (decide (t = 6))))))) h → tr_G E 194 Q 80 [some (.inr (.inr (ad 23))), some (.inl (ii w)), some (.inl (ii i)), some (.inl (ii t)), some (.inr (.inl (jj (m 2)))), none, some (.inr (.inl (jj (m 3)))), none, some (.inr (.inl (jj (cts m w i (-1))))), none, some (.inr (.inl (jj a))), none, some (.inr (.inl (jj b))), none, some (.inl (ii key)), none, none] [] h 0 0
  | n, key, a, b, hk, k0, q => by
    refine T_X8_reckoned_80 ok ?_
    have s0 := s.1
    have em := s.2.1
    obtain ⟨vH, vL, vl, v0, v1, v2, v3, v4, v5, vr, vm, vp⟩ := id v
    have hc := cube_rg v3.1 v3.2 v2.2
    simp (disch := first | omega | decide | assumption | exact st_ne s0 (by decide) (by decide) (by decide) | exact dyn_ne (by assumption) (by decide) | fail) only [Int.reduceAdd, Int.reduceSub, Int.reduceNeg, ii_add, ii_sub, ii_mul, ii_lt, ii_le, ii_eq, ixn_ii, ixo_ii, rem_ii, nb_1, nb_0, nb_bb, bb_0, hI_gv, Int.toNat_of_nonneg, Int.cast_ofNat_Int, ht_sI, ht_sJ, ht_sR, hn_sI, hn_sJ, hn_sR, hR_sI, hR_sJ, kI_v, kV_v, kJ_v, true_and, and_true, forall_eq, tg, ln, rf, ne_eq, not_false_eq_true, forall_const, not_true_eq_false, false_implies, W_X8_reckoned_80, st_t s0, st_n s0, st_r s0, em]
    refine ⟨by omega, fun g => ?_, fun g => ?_⟩
    · obtain ⟨n, rfl⟩ : ∃ n', n = n' + 1 := ⟨n - 1, by omega⟩
      rw [sm_s, sm_s, ← Int.add_assoc, ← Int.add_assoc] at q
      refine c_counts ok s v w1 w2 i1 i2 (by omega) (by omega) ?_
      simp (disch := first | omega | decide | assumption | exact st_ne s0 (by decide) (by decide) (by decide) | exact dyn_ne (by assumption) (by decide) | fail) only [Int.reduceAdd, Int.reduceSub, Int.reduceNeg, ii_add, ii_sub, ii_mul, ii_lt, ii_le, ii_eq, ixn_ii, ixo_ii, rem_ii, nb_1, nb_0, nb_bb, bb_0, hI_gv, Int.toNat_of_nonneg, Int.cast_ofNat_Int, ht_sI, ht_sJ, ht_sR, hn_sI, hn_sJ, hn_sR, hR_sI, hR_sJ, kI_v, kV_v, kJ_v, true_and, and_true, forall_eq, tg, ln, rf, ne_eq, not_false_eq_true, forall_const, not_true_eq_false, false_implies, jj_mul, jj_sub, jj_add]
      exact c_reckoned_80 ok s v w1 w2 i1 i2 t1 t2 n (key + 1) _ _ (by omega) (by omega) q
    · obtain rfl : n = 0 := by omega
      rw [sm_0, sm_0, Int.add_zero, Int.add_zero] at q
      simp (disch := first | omega | decide | assumption | exact st_ne s0 (by decide) (by decide) (by decide) | exact dyn_ne (by assumption) (by decide) | fail) only [Int.reduceAdd, Int.reduceSub, Int.reduceNeg, ii_add, ii_sub, ii_mul, ii_lt, ii_le, ii_eq, ixn_ii, ixo_ii, rem_ii, nb_1, nb_0, nb_bb, bb_0, hI_gv, Int.toNat_of_nonneg, Int.cast_ofNat_Int, ht_sI, ht_sJ, ht_sR, hn_sI, hn_sJ, hn_sR, hR_sI, hR_sJ, kI_v, kV_v, kJ_v, true_and, and_true, forall_eq, tg, ln, rf, ne_eq, not_false_eq_true, forall_const, not_true_eq_false, false_implies, jj_mul]
      refine ⟨fun g2 => ⟨fun g3 => ?_, fun g3 => ?_⟩, fun g2 => ⟨fun g3 => ?_, fun g3 => ?_⟩⟩
      · rw [if_pos g2, decide_eq_true g3] at q
        refine c_part (b := true) ok (jj_n0 (by omega) (by omega)) ?_
        exact q
      · rw [if_pos g2, decide_eq_false g3] at q
        refine c_part (b := false) ok (jj_n0 (by omega) (by omega)) ?_
        exact q
      · rw [if_neg g2, decide_eq_true g3] at q
        refine c_part (b := true) ok (jj_n0 hc.1 hc.2) ?_
        exact q
      · rw [if_neg g2, decide_eq_false g3] at q
        refine c_part (b := false) ok (jj_n0 hc.1 hc.2) ?_
        exact q
theorem c_reckoned (ok : tr_ok E) (s : mst ad h m one two H L) (v : vok m one two H L) {w i t : Int} (w1 : 0 ≤ w) (w2 : w ≤ 3) (i1 : 0 ≤ i) (i2 : i ≤ 24) (t1 : 0 ≤ t) (t2 : t ≤ 6) (q : Q (.inl (some (.inr (.inl (esS m w i t))))) h) : tr_C E 194 [.inr (.inr (ad 23)), .inl (ii w), .inl (ii i), .inl (ii t)] h Q := by
  refine T_X8_reckoned ok ?_
  have s0 := s.1
  have em := s.2.1
  obtain ⟨vH, vL, vl, v0, v1, v2, v3, v4, v5, vr, vm, vp⟩ := id v
  unfold esS at q
  simp (disch := first | omega | decide | assumption | exact st_ne s0 (by decide) (by decide) (by decide) | exact dyn_ne (by assumption) (by decide) | fail) only [Int.reduceAdd, Int.reduceSub, Int.reduceNeg, ii_add, ii_sub, ii_mul, ii_lt, ii_le, ii_eq, ixn_ii, ixo_ii, rem_ii, nb_1, nb_0, nb_bb, bb_0, hI_gv, Int.toNat_of_nonneg, Int.cast_ofNat_Int, ht_sI, ht_sJ, ht_sR, hn_sI, hn_sJ, hn_sR, hR_sI, hR_sJ, kI_v, kV_v, kJ_v, true_and, and_true, forall_eq, tg, ln, rf, ne_eq, not_false_eq_true, forall_const, not_true_eq_false, false_implies, W_X8_reckoned, st_t s0, st_n s0, st_r s0, em]
  refine ⟨by omega, by omega, ?_⟩
  refine c_counts ok s v w1 w2 i1 i2 (by omega) (by omega) ?_
  simp (disch := first | omega | decide | assumption | exact st_ne s0 (by decide) (by decide) (by decide) | exact dyn_ne (by assumption) (by decide) | fail) only [Int.reduceAdd, Int.reduceSub, Int.reduceNeg, ii_add, ii_sub, ii_mul, ii_lt, ii_le, ii_eq, ixn_ii, ixo_ii, rem_ii, nb_1, nb_0, nb_bb, bb_0, hI_gv, Int.toNat_of_nonneg, Int.cast_ofNat_Int, ht_sI, ht_sJ, ht_sR, hn_sI, hn_sJ, hn_sR, hR_sI, hR_sJ, kI_v, kV_v, kJ_v, true_and, and_true, forall_eq, tg, ln, rf, ne_eq, not_false_eq_true, forall_const, not_true_eq_false, false_implies, st_t s0, st_n s0, st_r s0, em, i64_ii, jz]
  refine ⟨fun g => ?_, fun g => ⟨fun g2 => ⟨by omega, ?_⟩, fun g2 => ?_⟩⟩
  · rw [if_neg (by omega), if_pos g] at q; exact q
  · rw [if_pos g2] at q
    refine c_counts ok s v w1 w2 i1 i2 (by omega) (by omega) ?_
    simp (disch := first | omega | decide | assumption | exact st_ne s0 (by decide) (by decide) (by decide) | exact dyn_ne (by assumption) (by decide) | fail) only [Int.reduceAdd, Int.reduceSub, Int.reduceNeg, ii_add, ii_sub, ii_mul, ii_lt, ii_le, ii_eq, ixn_ii, ixo_ii, rem_ii, nb_1, nb_0, nb_bb, bb_0, hI_gv, Int.toNat_of_nonneg, Int.cast_ofNat_Int, ht_sI, ht_sJ, ht_sR, hn_sI, hn_sJ, hn_sR, hR_sI, hR_sJ, kI_v, kV_v, kJ_v, true_and, and_true, forall_eq, tg, ln, rf, ne_eq, not_false_eq_true, forall_const, not_true_eq_false, false_implies, jj_mul]
    refine ⟨fun g3 => ?_, fun g3 => ?_⟩
    · rw [decide_eq_true g3] at q
      refine c_part (b := true) ok (jj_n0 (by omega) (by omega)) ?_
      exact q
    · rw [decide_eq_false g3] at q
      refine c_part (b := false) ok (jj_n0 (by omega) (by omega)) ?_
      exact q
  · rw [if_neg g2, if_neg g] at q
    refine c_reckoned_80 ok s v w1 w2 i1 i2 (by omega) t2 (m 2).toNat 0 0 0 (by omega) (by omega) ?_
    rw [Int.zero_add, Int.zero_add]; exact q
theorem M_estimate (ok : tr_ok E) (s : mst ad h m one two H L) (v : vok m one two H L) {w i t : Int} (w1 : -2147483648 ≤ w) (w2 : w ≤ 2147483647) (i1 : -2147483648 ≤ i) (i2 : i ≤ 2147483647) (t1 : -2147483648 ≤ t) (t2 : t ≤ 2147483647) (q : (0 ≤ w ∧ w ≤ 3) ∧ (0 ≤ t ∧ t ≤ 6) → icd H L w i = true → ∀ h', mpo ad h 0 0 h' → Q (.inl (some (.inr (.inl (esS m w i t))))) h') (r : ¬ ((0 ≤ w ∧ w ≤ 3) ∧ (0 ≤ t ∧ t ≤ 6)) → ∀ h', mpo ad h 2 1 h' → Q (.inl (some (.inr (.inl (jj 0))))) h') (r2 : (0 ≤ w ∧ w ≤ 3) ∧ (0 ≤ t ∧ t ≤ 6) → icd H L w i = false → ∀ h', mpo ad h 1 0 h' → Q (.inl (some (.inr (.inl (jj 0))))) h') : tr_C E 195 [.inr (.inr (ad 23)), .inl (ii w), .inl (ii i), .inl (ii t)] h Q := by
  refine T_X8_estimate ok ?_
  have ms := m_start s.1
  have s1 := mst_q s ms.1
  have s0 := s1.1
  have bad : ¬ ((0 ≤ w ∧ w ≤ 3) ∧ (0 ≤ t ∧ t ≤ 6)) → tr_G E 195 Q 30 [some (.inr (.inr (ad 23))), some (.inl (ii w)), some (.inl (ii i)), some (.inl (ii t))] [.inl (ii 0), .inr (.inr (ad 23))] (hsI h (ad 23) 0 (ii 0)) 0 0 := by
    intro g
    refine T_X8_estimate_30 ok ?_
    simp (disch := first | omega | decide | assumption | exact st_ne s0 (by decide) (by decide) (by decide) | exact dyn_ne (by assumption) (by decide) | fail) only [Int.reduceAdd, Int.reduceSub, Int.reduceNeg, ii_add, ii_sub, ii_mul, ii_lt, ii_le, ii_eq, ixn_ii, ixo_ii, rem_ii, nb_1, nb_0, nb_bb, bb_0, hI_gv, Int.toNat_of_nonneg, Int.cast_ofNat_Int, ht_sI, ht_sJ, ht_sR, hn_sI, hn_sJ, hn_sR, hR_sI, hR_sJ, kI_v, kV_v, kJ_v, true_and, and_true, forall_eq, tg, ln, rf, ne_eq, not_false_eq_true, forall_const, not_true_eq_false, false_implies, W_X8_estimate_30, st_t s.1, jz]
    refine c_fine0 ok s.1 ms (by omega) (by omega) (by omega) (by omega) (fun h' p => ?_)
    simp (disch := first | omega | decide | assumption | exact st_ne s0 (by decide) (by decide) (by decide) | exact dyn_ne (by assumption) (by decide) | fail) only [Int.reduceAdd, Int.reduceSub, Int.reduceNeg, ii_add, ii_sub, ii_mul, ii_lt, ii_le, ii_eq, ixn_ii, ixo_ii, rem_ii, nb_1, nb_0, nb_bb, bb_0, hI_gv, Int.toNat_of_nonneg, Int.cast_ofNat_Int, ht_sI, ht_sJ, ht_sR, hn_sI, hn_sJ, hn_sR, hR_sI, hR_sJ, kI_v, kV_v, kJ_v, true_and, and_true, forall_eq, tg, ln, rf, ne_eq, not_false_eq_true, forall_const, not_true_eq_false, false_implies, Int.reduceEq, Int.reduceLT, Int.reduceLE, implies_true, and_self, reduceCtorEq, false_and,]
    exact r g h' p
  simp (disch := first | omega | decide | assumption | exact st_ne s0 (by decide) (by decide) (by decide) | exact dyn_ne (by assumption) (by decide) | fail) only [Int.reduceAdd, Int.reduceSub, Int.reduceNeg, ii_add, ii_sub, ii_mul, ii_lt, ii_le, ii_eq, ixn_ii, ixo_ii, rem_ii, nb_1, nb_0, nb_bb, bb_0, hI_gv, Int.toNat_of_nonneg, Int.cast_ofNat_Int, ht_sI, ht_sJ, ht_sR, hn_sI, hn_sJ, hn_sR, hR_sI, hR_sJ, kI_v, kV_v, kJ_v, true_and, and_true, forall_eq, tg, ln, rf, ne_eq, not_false_eq_true, forall_const, not_true_eq_false, false_implies, W_X8_estimate, st_t s.1]
  refine c_within ok w1 w2 (by omega) (by omega) (by omega) (by omega) ?_
  simp (disch := first | omega | decide | assumption | exact st_ne s0 (by decide) (by decide) (by decide) | exact dyn_ne (by assumption) (by decide) | fail) only [Int.reduceAdd, Int.reduceSub, Int.reduceNeg, ii_add, ii_sub, ii_mul, ii_lt, ii_le, ii_eq, ixn_ii, ixo_ii, rem_ii, nb_1, nb_0, nb_bb, bb_0, hI_gv, Int.toNat_of_nonneg, Int.cast_ofNat_Int, ht_sI, ht_sJ, ht_sR, hn_sI, hn_sJ, hn_sR, hR_sI, hR_sJ, kI_v, kV_v, kJ_v, true_and, and_true, forall_eq, tg, ln, rf, ne_eq, not_false_eq_true, forall_const, not_true_eq_false, false_implies]
  refine ⟨fun g => ?_, fun g => ?_⟩
  · rw [decide_eq_false_iff_not] at g
    exact bad (fun e => g e.1)
  · rw [Bool.not_eq_false, decide_eq_true_eq] at g
    refine c_within ok t1 t2 (by omega) (by omega) (by omega) (by omega) ?_
    simp (disch := first | omega | decide | assumption | exact st_ne s0 (by decide) (by decide) (by decide) | exact dyn_ne (by assumption) (by decide) | fail) only [Int.reduceAdd, Int.reduceSub, Int.reduceNeg, ii_add, ii_sub, ii_mul, ii_lt, ii_le, ii_eq, ixn_ii, ixo_ii, rem_ii, nb_1, nb_0, nb_bb, bb_0, hI_gv, Int.toNat_of_nonneg, Int.cast_ofNat_Int, ht_sI, ht_sJ, ht_sR, hn_sI, hn_sJ, hn_sR, hR_sI, hR_sJ, kI_v, kV_v, kJ_v, true_and, and_true, forall_eq, tg, ln, rf, ne_eq, not_false_eq_true, forall_const, not_true_eq_false, false_implies]
    refine ⟨fun g2 => ?_, fun g2 => ?_⟩
    · rw [decide_eq_false_iff_not] at g2
      exact bad (fun e => g2 e.2)
    · rw [Bool.not_eq_false, decide_eq_true_eq] at g2
      refine T_X8_estimate_30 ok ?_
      simp (disch := first | omega | decide | assumption | exact st_ne s0 (by decide) (by decide) (by decide) | exact dyn_ne (by assumption) (by decide) | fail) only [Int.reduceAdd, Int.reduceSub, Int.reduceNeg, ii_add, ii_sub, ii_mul, ii_lt, ii_le, ii_eq, ixn_ii, ixo_ii, rem_ii, nb_1, nb_0, nb_bb, bb_0, hI_gv, Int.toNat_of_nonneg, Int.cast_ofNat_Int, ht_sI, ht_sJ, ht_sR, hn_sI, hn_sJ, hn_sR, hR_sI, hR_sJ, kI_v, kV_v, kJ_v, true_and, and_true, forall_eq, tg, ln, rf, ne_eq, not_false_eq_true, forall_const, not_true_eq_false, false_implies, W_X8_estimate_30, st_t s.1, jz]
      refine c_fine1 ok s1.1 ms.2.1 ?_
      simp (disch := first | omega | decide | assumption | exact st_ne s0 (by decide) (by decide) (by decide) | exact dyn_ne (by assumption) (by decide) | fail) only [Int.reduceAdd, Int.reduceSub, Int.reduceNeg, ii_add, ii_sub, ii_mul, ii_lt, ii_le, ii_eq, ixn_ii, ixo_ii, rem_ii, nb_1, nb_0, nb_bb, bb_0, hI_gv, Int.toNat_of_nonneg, Int.cast_ofNat_Int, ht_sI, ht_sJ, ht_sR, hn_sI, hn_sJ, hn_sR, hR_sI, hR_sJ, kI_v, kV_v, kJ_v, true_and, and_true, forall_eq, tg, ln, rf, ne_eq, not_false_eq_true, forall_const, not_true_eq_false, false_implies, Int.reduceEq, Int.reduceLT, Int.reduceLE, implies_true, and_self, reduceCtorEq, false_and, st_t s.1]
      have qq := q ⟨g, g2⟩
      have rr := r2 ⟨g, g2⟩
      clear q r r2 bad
      have hi := fun e => icd_rg (w := w) (i := i) v e
      refine ⟨fun a => ?_, fun a => ⟨fun b => ⟨fun c => ?_, fun c => ?_⟩, fun b => ?_⟩⟩
      · have e : icd H L w i = decide (0 ≤ i ∧ i < H) := by unfold icd; rw [if_pos a]
        rw [e] at qq rr hi
        refine c_isHop ok s1 v i1 i2 ?_
        simp (disch := first | omega | decide | assumption | exact st_ne s0 (by decide) (by decide) (by decide) | exact dyn_ne (by assumption) (by decide) | fail) only [Int.reduceAdd, Int.reduceSub, Int.reduceNeg, ii_add, ii_sub, ii_mul, ii_lt, ii_le, ii_eq, ixn_ii, ixo_ii, rem_ii, nb_1, nb_0, nb_bb, bb_0, hI_gv, Int.toNat_of_nonneg, Int.cast_ofNat_Int, ht_sI, ht_sJ, ht_sR, hn_sI, hn_sJ, hn_sR, hR_sI, hR_sJ, kI_v, kV_v, kJ_v, true_and, and_true, forall_eq, tg, ln, rf, ne_eq, not_false_eq_true, forall_const, not_true_eq_false, false_implies, st_t s.1]
        refine c_fineb ok s.1 ms (by omega) (by omega) (by omega) (by omega) (fun g5 => ?_) (fun g5 h' p => ?_)
        · simp (disch := first | omega | decide | assumption | exact st_ne s0 (by decide) (by decide) (by decide) | exact dyn_ne (by assumption) (by decide) | fail) only [Int.reduceAdd, Int.reduceSub, Int.reduceNeg, ii_add, ii_sub, ii_mul, ii_lt, ii_le, ii_eq, ixn_ii, ixo_ii, rem_ii, nb_1, nb_0, nb_bb, bb_0, hI_gv, Int.toNat_of_nonneg, Int.cast_ofNat_Int, ht_sI, ht_sJ, ht_sR, hn_sI, hn_sJ, hn_sR, hR_sI, hR_sJ, kI_v, kV_v, kJ_v, true_and, and_true, forall_eq, tg, ln, rf, ne_eq, not_false_eq_true, forall_const, not_true_eq_false, false_implies, Int.reduceEq, Int.reduceLT, Int.reduceLE, implies_true, and_self, reduceCtorEq, false_and, st_t s.1]
          refine c_reckoned ok s1 v g.1 g.2 (hi g5).1 (hi g5).2 g2.1 g2.2 ?_
          exact qq g5 _ ms
        · simp (disch := first | omega | decide | assumption | exact st_ne s0 (by decide) (by decide) (by decide) | exact dyn_ne (by assumption) (by decide) | fail) only [Int.reduceAdd, Int.reduceSub, Int.reduceNeg, ii_add, ii_sub, ii_mul, ii_lt, ii_le, ii_eq, ixn_ii, ixo_ii, rem_ii, nb_1, nb_0, nb_bb, bb_0, hI_gv, Int.toNat_of_nonneg, Int.cast_ofNat_Int, ht_sI, ht_sJ, ht_sR, hn_sI, hn_sJ, hn_sR, hR_sI, hR_sJ, kI_v, kV_v, kJ_v, true_and, and_true, forall_eq, tg, ln, rf, ne_eq, not_false_eq_true, forall_const, not_true_eq_false, false_implies, Int.reduceEq, Int.reduceLT, Int.reduceLE, implies_true, and_self, reduceCtorEq, false_and,]
          exact rr g5 h' p
      · have e : icd H L w i = true := by unfold icd; rw [if_neg a, if_pos b, decide_eq_true c]
        refine c_fine1 ok s1.1 ms.2.1 ?_
        simp (disch := first | omega | decide | assumption | exact st_ne s0 (by decide) (by decide) (by decide) | exact dyn_ne (by assumption) (by decide) | fail) only [Int.reduceAdd, Int.reduceSub, Int.reduceNeg, ii_add, ii_sub, ii_mul, ii_lt, ii_le, ii_eq, ixn_ii, ixo_ii, rem_ii, nb_1, nb_0, nb_bb, bb_0, hI_gv, Int.toNat_of_nonneg, Int.cast_ofNat_Int, ht_sI, ht_sJ, ht_sR, hn_sI, hn_sJ, hn_sR, hR_sI, hR_sJ, kI_v, kV_v, kJ_v, true_and, and_true, forall_eq, tg, ln, rf, ne_eq, not_false_eq_true, forall_const, not_true_eq_false, false_implies, Int.reduceEq, Int.reduceLT, Int.reduceLE, implies_true, and_self, reduceCtorEq, false_and, st_t s.1]
        refine c_reckoned ok s1 v g.1 g.2 (hi e).1 (hi e).2 g2.1 g2.2 ?_
        exact qq e _ ms
      · have e : icd H L w i = false := by unfold icd; rw [if_neg a, if_pos b, decide_eq_false c]
        refine c_fine0 ok s.1 ms (by omega) (by omega) (by omega) (by omega) (fun h' p => ?_)
        simp (disch := first | omega | decide | assumption | exact st_ne s0 (by decide) (by decide) (by decide) | exact dyn_ne (by assumption) (by decide) | fail) only [Int.reduceAdd, Int.reduceSub, Int.reduceNeg, ii_add, ii_sub, ii_mul, ii_lt, ii_le, ii_eq, ixn_ii, ixo_ii, rem_ii, nb_1, nb_0, nb_bb, bb_0, hI_gv, Int.toNat_of_nonneg, Int.cast_ofNat_Int, ht_sI, ht_sJ, ht_sR, hn_sI, hn_sJ, hn_sR, hR_sI, hR_sJ, kI_v, kV_v, kJ_v, true_and, and_true, forall_eq, tg, ln, rf, ne_eq, not_false_eq_true, forall_const, not_true_eq_false, false_implies, Int.reduceEq, Int.reduceLT, Int.reduceLE, implies_true, and_self, reduceCtorEq, false_and,]
        exact rr e h' p
      · have e : icd H L w i = decide (0 ≤ i ∧ i < L) := by unfold icd; rw [if_neg a, if_neg b]
        rw [e] at qq rr hi
        refine c_isLink ok s1 v i1 i2 ?_
        simp (disch := first | omega | decide | assumption | exact st_ne s0 (by decide) (by decide) (by decide) | exact dyn_ne (by assumption) (by decide) | fail) only [Int.reduceAdd, Int.reduceSub, Int.reduceNeg, ii_add, ii_sub, ii_mul, ii_lt, ii_le, ii_eq, ixn_ii, ixo_ii, rem_ii, nb_1, nb_0, nb_bb, bb_0, hI_gv, Int.toNat_of_nonneg, Int.cast_ofNat_Int, ht_sI, ht_sJ, ht_sR, hn_sI, hn_sJ, hn_sR, hR_sI, hR_sJ, kI_v, kV_v, kJ_v, true_and, and_true, forall_eq, tg, ln, rf, ne_eq, not_false_eq_true, forall_const, not_true_eq_false, false_implies, st_t s.1]
        refine c_fineb ok s.1 ms (by omega) (by omega) (by omega) (by omega) (fun g5 => ?_) (fun g5 h' p => ?_)
        · simp (disch := first | omega | decide | assumption | exact st_ne s0 (by decide) (by decide) (by decide) | exact dyn_ne (by assumption) (by decide) | fail) only [Int.reduceAdd, Int.reduceSub, Int.reduceNeg, ii_add, ii_sub, ii_mul, ii_lt, ii_le, ii_eq, ixn_ii, ixo_ii, rem_ii, nb_1, nb_0, nb_bb, bb_0, hI_gv, Int.toNat_of_nonneg, Int.cast_ofNat_Int, ht_sI, ht_sJ, ht_sR, hn_sI, hn_sJ, hn_sR, hR_sI, hR_sJ, kI_v, kV_v, kJ_v, true_and, and_true, forall_eq, tg, ln, rf, ne_eq, not_false_eq_true, forall_const, not_true_eq_false, false_implies, Int.reduceEq, Int.reduceLT, Int.reduceLE, implies_true, and_self, reduceCtorEq, false_and, st_t s.1]
          refine c_reckoned ok s1 v g.1 g.2 (hi g5).1 (hi g5).2 g2.1 g2.2 ?_
          exact qq g5 _ ms
        · simp (disch := first | omega | decide | assumption | exact st_ne s0 (by decide) (by decide) (by decide) | exact dyn_ne (by assumption) (by decide) | fail) only [Int.reduceAdd, Int.reduceSub, Int.reduceNeg, ii_add, ii_sub, ii_mul, ii_lt, ii_le, ii_eq, ixn_ii, ixo_ii, rem_ii, nb_1, nb_0, nb_bb, bb_0, hI_gv, Int.toNat_of_nonneg, Int.cast_ofNat_Int, ht_sI, ht_sJ, ht_sR, hn_sI, hn_sJ, hn_sR, hR_sI, hR_sJ, kI_v, kV_v, kJ_v, true_and, and_true, forall_eq, tg, ln, rf, ne_eq, not_false_eq_true, forall_const, not_true_eq_false, false_implies, Int.reduceEq, Int.reduceLT, Int.reduceLE, implies_true, and_self, reduceCtorEq, false_and,]
          exact rr g5 h' p
end EST2
