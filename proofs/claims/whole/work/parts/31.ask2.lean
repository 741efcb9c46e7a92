/-! ASKING, GONE ON: packet, trail, told, print, unlike, clashes, leastLabels, bestMask -/
theorem clh_rg {m : Int → Int} {l : Int} (hm : 0 ≤ m 106) (hm2 : m 106 ≤ 40) : 0 ≤ clh m l ∧ clh m l ≤ 1600 := by
  unfold clh
  have := sm_rg (f := fun a => sm (fun b => b2 (clb m l a b)) 0 a.toNat) (lo := 0) (hi := 40) (m 106).toNat 0 (fun j h1 h2 => by
    have := sm_rg (f := fun b => b2 (clb m l j b)) (lo := 0) (hi := 1) j.toNat 0 (fun j _ _ => b2_rg _)
    constructor <;> omega)
  constructor <;> omega
theorem unl_rg {m : Int → Int} {mk : Int} (hm : 0 ≤ m 106) (hm2 : m 106 ≤ 40) : 0 ≤ unl m mk ∧ unl m mk ≤ 40 := by
  have := sm_rg (f := fun p => b2 (al (fun o => decide (mixB m o 0 mk ≠ mixB m p 0 mk)) 0 p.toNat)) (lo := 0) (hi := 1) (m 106).toNat 0 (fun j h1 h2 => b2_rg _)
  unfold unl
  constructor <;> omega
theorem cnt_1 (m : Int → Int) : cnk m (m 1) (m 4) = cnt m 1 := by
  unfold cnk cnt
  refine sm_congr _ _ (fun j _ _ => ?_)
  rw [if_neg (by decide), if_pos rfl, chk_chs]
theorem ckl_clh (m : Int → Int) (l : Int) : ckl m (m 1) (m 4) l = clh m l := rfl
section ASK2
variable {E : tr_Env} {ad : Nat → Nat} {h : tr_H} {Q : tr_Q} {m one two : Int → Int} {H L : Int}
def pkS (m : Int → Int) (p w : Int) : Int := if w < 6 then fd m p w else if w = 6 then fd m p 6 + 1 else if w = 7 then lab m p else cm m p
theorem K_packet (ok : tr_ok E) (c : kst ad h m one two H L) (v : vok m one two H L) {p w : Int} (h3 : -2147483648 ≤ p) (h4 : p ≤ 2147483647) (h5 : -2147483648 ≤ w) (h6 : w ≤ 2147483647) (q : 0 ≤ p ∧ p < m 106 → 0 ≤ w ∧ w ≤ 8 → Q (.inl (some (.inl (ii (pkS m p w))))) h) (r : ¬ (0 ≤ p ∧ p < m 106) → Q (.inr 0) (rfz ad h 0)) (r2 : 0 ≤ p ∧ p < m 106 → ¬ (0 ≤ w ∧ w ≤ 8) → Q (.inr 1) (rfz ad h 1)) : tr_C E 85 [.inr (.inr (ad 1)), .inl (ii p), .inl (ii w)] h Q := by
  refine T_X7_packet ok ?_
  have s0 := c.1
  obtain ⟨c0, n, c2, c3, c4, c5⟩ := id c.2
  have vm := v_m v
  obtain ⟨n0, n1, n2, ⟨sa, sb, sc⟩, ⟨ea, eb, ec⟩, ⟨ua, ub, uc⟩, ⟨ra, rb, rc⟩, ⟨ga, gb, g0, g1, g2, g3, g4⟩, nd⟩ := id n
  simp (disch := first | omega | decide | assumption | exact st_ne s0 (by decide) (by decide) (by decide) | exact dyn_ne (by assumption) (by decide) | fail) only [Int.reduceAdd, Int.reduceSub, Int.reduceNeg, ii_add, ii_sub, ii_mul, ii_lt, ii_le, ii_eq, ixn_ii, ixo_ii, rem_ii, nb_1, nb_0, nb_bb, bb_0, hI_gv, Int.toNat_of_nonneg, Int.cast_ofNat_Int, ht_sI, ht_sJ, ht_sR, hn_sI, hn_sJ, hn_sR, hR_sI, hR_sJ, kI_v, kV_v, kJ_v, true_and, and_true, forall_eq, tg, ln, rf, ne_eq, not_false_eq_true, forall_const, not_true_eq_false, false_implies, W_X7_packet, st_t s0, c0]
  refine k_hasPacket ok c.2 v h3 h4 ?_
  simp (disch := first | omega | decide | assumption | exact st_ne s0 (by decide) (by decide) (by decide) | exact dyn_ne (by assumption) (by decide) | fail) only [Int.reduceAdd, Int.reduceSub, Int.reduceNeg, ii_add, ii_sub, ii_mul, ii_lt, ii_le, ii_eq, ixn_ii, ixo_ii, rem_ii, nb_1, nb_0, nb_bb, bb_0, hI_gv, Int.toNat_of_nonneg, Int.cast_ofNat_Int, ht_sI, ht_sJ, ht_sR, hn_sI, hn_sJ, hn_sR, hR_sI, hR_sJ, kI_v, kV_v, kJ_v, true_and, and_true, forall_eq, tg, ln, rf, ne_eq, not_false_eq_true, forall_const, not_true_eq_false, false_implies, st_t s0]
  refine k_fndb ok s0 (fun g => ?_) (fun g => ?_)
  · rw [decide_eq_true_eq] at g
    simp (disch := first | omega | decide | assumption | exact st_ne s0 (by decide) (by decide) (by decide) | exact dyn_ne (by assumption) (by decide) | fail) only [Int.reduceAdd, Int.reduceSub, Int.reduceNeg, ii_add, ii_sub, ii_mul, ii_lt, ii_le, ii_eq, ixn_ii, ixo_ii, rem_ii, nb_1, nb_0, nb_bb, bb_0, hI_gv, Int.toNat_of_nonneg, Int.cast_ofNat_Int, ht_sI, ht_sJ, ht_sR, hn_sI, hn_sJ, hn_sR, hR_sI, hR_sJ, kI_v, kV_v, kJ_v, true_and, and_true, forall_eq, tg, ln, rf, ne_eq, not_false_eq_true, forall_const, not_true_eq_false, false_implies]
    have bad : ¬ (0 ≤ w ∧ w ≤ 8) → tr_G E 85 Q 28 [some (.inr (.inr (ad 1))), some (.inl (ii p)), some (.inl (ii w)), none] [.inl (ii 0), .inr (.inr (ad 1))] h 1 6 := by
      intro g2
      refine T_X7_packet_28 ok ?_
      simp (disch := first | omega | decide | assumption | exact st_ne s0 (by decide) (by decide) (by decide) | exact dyn_ne (by assumption) (by decide) | fail) only [Int.reduceAdd, Int.reduceSub, Int.reduceNeg, ii_add, ii_sub, ii_mul, ii_lt, ii_le, ii_eq, ixn_ii, ixo_ii, rem_ii, nb_1, nb_0, nb_bb, bb_0, hI_gv, Int.toNat_of_nonneg, Int.cast_ofNat_Int, ht_sI, ht_sJ, ht_sR, hn_sI, hn_sJ, hn_sR, hR_sI, hR_sJ, kI_v, kV_v, kJ_v, true_and, and_true, forall_eq, tg, ln, rf, ne_eq, not_false_eq_true, forall_const, not_true_eq_false, false_implies, W_X7_packet_28, st_t s0]
      exact k_req0 ok s0 (r2 g g2)
    refine ⟨fun g2 => bad (by omega), fun g2 => ⟨fun g3 => ?_, fun g3 => bad (by omega)⟩⟩
    refine T_X7_packet_28 ok ?_
    have hq := q g (by omega)
    have pk := c5 p g.1 g.2
    obtain ⟨k0, ka, kb, kc, kd, ke, kf, kg, kh, -⟩ := id pk
    simp (disch := first | omega | decide | assumption | exact st_ne s0 (by decide) (by decide) (by decide) | exact dyn_ne (by assumption) (by decide) | fail) only [Int.reduceAdd, Int.reduceSub, Int.reduceNeg, ii_add, ii_sub, ii_mul, ii_lt, ii_le, ii_eq, ixn_ii, ixo_ii, rem_ii, nb_1, nb_0, nb_bb, bb_0, hI_gv, Int.toNat_of_nonneg, Int.cast_ofNat_Int, ht_sI, ht_sJ, ht_sR, hn_sI, hn_sJ, hn_sR, hR_sI, hR_sJ, kI_v, kV_v, kJ_v, true_and, and_true, forall_eq, tg, ln, rf, ne_eq, not_false_eq_true, forall_const, not_true_eq_false, false_implies, W_X7_packet_28, st_t s0]
    refine k_req1 ok ?_
    unfold pkS at hq
    rcases (by omega : w = 0 ∨ w = 1 ∨ w = 2 ∨ w = 3 ∨ w = 4 ∨ w = 5 ∨ w = 6 ∨ w = 7 ∨ w = 8) with rfl | rfl | rfl | rfl | rfl | rfl | rfl | rfl | rfl
    · simp (disch := first | omega | decide | assumption | exact st_ne s0 (by decide) (by decide) (by decide) | exact dyn_ne (by assumption) (by decide) | fail) only [Int.reduceAdd, Int.reduceSub, Int.reduceNeg, ii_add, ii_sub, ii_mul, ii_lt, ii_le, ii_eq, ixn_ii, ixo_ii, rem_ii, nb_1, nb_0, nb_bb, bb_0, hI_gv, Int.toNat_of_nonneg, Int.cast_ofNat_Int, ht_sI, ht_sJ, ht_sR, hn_sI, hn_sJ, hn_sR, hR_sI, hR_sJ, kI_v, kV_v, kJ_v, true_and, and_true, forall_eq, tg, ln, rf, ne_eq, not_false_eq_true, forall_const, not_true_eq_false, false_implies, Int.reduceEq, Int.reduceLT, Int.reduceLE, implies_true, and_self, reduceCtorEq, false_and, st_t s0, c0, c2, c3, n0, k0, ka, kb, kc, kd, ke, kf, kg, kh]
      exact ⟨by omega, hq⟩
    · simp (disch := first | omega | decide | assumption | exact st_ne s0 (by decide) (by decide) (by decide) | exact dyn_ne (by assumption) (by decide) | fail) only [Int.reduceAdd, Int.reduceSub, Int.reduceNeg, ii_add, ii_sub, ii_mul, ii_lt, ii_le, ii_eq, ixn_ii, ixo_ii, rem_ii, nb_1, nb_0, nb_bb, bb_0, hI_gv, Int.toNat_of_nonneg, Int.cast_ofNat_Int, ht_sI, ht_sJ, ht_sR, hn_sI, hn_sJ, hn_sR, hR_sI, hR_sJ, kI_v, kV_v, kJ_v, true_and, and_true, forall_eq, tg, ln, rf, ne_eq, not_false_eq_true, forall_const, not_true_eq_false, false_implies, Int.reduceEq, Int.reduceLT, Int.reduceLE, implies_true, and_self, reduceCtorEq, false_and, st_t s0, c0, c2, c3, n0, k0, ka, kb, kc, kd, ke, kf, kg, kh]
      exact ⟨by omega, hq⟩
    · simp (disch := first | omega | decide | assumption | exact st_ne s0 (by decide) (by decide) (by decide) | exact dyn_ne (by assumption) (by decide) | fail) only [Int.reduceAdd, Int.reduceSub, Int.reduceNeg, ii_add, ii_sub, ii_mul, ii_lt, ii_le, ii_eq, ixn_ii, ixo_ii, rem_ii, nb_1, nb_0, nb_bb, bb_0, hI_gv, Int.toNat_of_nonneg, Int.cast_ofNat_Int, ht_sI, ht_sJ, ht_sR, hn_sI, hn_sJ, hn_sR, hR_sI, hR_sJ, kI_v, kV_v, kJ_v, true_and, and_true, forall_eq, tg, ln, rf, ne_eq, not_false_eq_true, forall_const, not_true_eq_false, false_implies, Int.reduceEq, Int.reduceLT, Int.reduceLE, implies_true, and_self, reduceCtorEq, false_and, st_t s0, c0, c2, c3, n0, k0, ka, kb, kc, kd, ke, kf, kg, kh]
      exact ⟨by omega, hq⟩
    · simp (disch := first | omega | decide | assumption | exact st_ne s0 (by decide) (by decide) (by decide) | exact dyn_ne (by assumption) (by decide) | fail) only [Int.reduceAdd, Int.reduceSub, Int.reduceNeg, ii_add, ii_sub, ii_mul, ii_lt, ii_le, ii_eq, ixn_ii, ixo_ii, rem_ii, nb_1, nb_0, nb_bb, bb_0, hI_gv, Int.toNat_of_nonneg, Int.cast_ofNat_Int, ht_sI, ht_sJ, ht_sR, hn_sI, hn_sJ, hn_sR, hR_sI, hR_sJ, kI_v, kV_v, kJ_v, true_and, and_true, forall_eq, tg, ln, rf, ne_eq, not_false_eq_true, forall_const, not_true_eq_false, false_implies, Int.reduceEq, Int.reduceLT, Int.reduceLE, implies_true, and_self, reduceCtorEq, false_and, st_t s0, c0, c2, c3, n0, k0, ka, kb, kc, kd, ke, kf, kg, kh]
      exact ⟨by omega, hq⟩
    · simp (disch := first | omega | decide | assumption | exact st_ne s0 (by decide) (by decide) (by decide) | exact dyn_ne (by assumption) (by decide) | fail) only [Int.reduceAdd, Int.reduceSub, Int.reduceNeg, ii_add, ii_sub, ii_mul, ii_lt, ii_le, ii_eq, ixn_ii, ixo_ii, rem_ii, nb_1, nb_0, nb_bb, bb_0, hI_gv, Int.toNat_of_nonneg, Int.cast_ofNat_Int, ht_sI, ht_sJ, ht_sR, hn_sI, hn_sJ, hn_sR, hR_sI, hR_sJ, kI_v, kV_v, kJ_v, true_and, and_true, forall_eq, tg, ln, rf, ne_eq, not_false_eq_true, forall_const, not_true_eq_false, false_implies, Int.reduceEq, Int.reduceLT, Int.reduceLE, implies_true, and_self, reduceCtorEq, false_and, st_t s0, c0, c2, c3, n0, k0, ka, kb, kc, kd, ke, kf, kg, kh]
      exact ⟨by omega, hq⟩
    · simp (disch := first | omega | decide | assumption | exact st_ne s0 (by decide) (by decide) (by decide) | exact dyn_ne (by assumption) (by decide) | fail) only [Int.reduceAdd, Int.reduceSub, Int.reduceNeg, ii_add, ii_sub, ii_mul, ii_lt, ii_le, ii_eq, ixn_ii, ixo_ii, rem_ii, nb_1, nb_0, nb_bb, bb_0, hI_gv, Int.toNat_of_nonneg, Int.cast_ofNat_Int, ht_sI, ht_sJ, ht_sR, hn_sI, hn_sJ, hn_sR, hR_sI, hR_sJ, kI_v, kV_v, kJ_v, true_and, and_true, forall_eq, tg, ln, rf, ne_eq, not_false_eq_true, forall_const, not_true_eq_false, false_implies, Int.reduceEq, Int.reduceLT, Int.reduceLE, implies_true, and_self, reduceCtorEq, false_and, st_t s0, c0, c2, c3, n0, k0, ka, kb, kc, kd, ke, kf, kg, kh]
      exact ⟨by omega, hq⟩
    · simp (disch := first | omega | decide | assumption | exact st_ne s0 (by decide) (by decide) (by decide) | exact dyn_ne (by assumption) (by decide) | fail) only [Int.reduceAdd, Int.reduceSub, Int.reduceNeg, ii_add, ii_sub, ii_mul, ii_lt, ii_le, ii_eq, ixn_ii, ixo_ii, rem_ii, nb_1, nb_0, nb_bb, bb_0, hI_gv, Int.toNat_of_nonneg, Int.cast_ofNat_Int, ht_sI, ht_sJ, ht_sR, hn_sI, hn_sJ, hn_sR, hR_sI, hR_sJ, kI_v, kV_v, kJ_v, true_and, and_true, forall_eq, tg, ln, rf, ne_eq, not_false_eq_true, forall_const, not_true_eq_false, false_implies, Int.reduceEq, Int.reduceLT, Int.reduceLE, implies_true, and_self, reduceCtorEq, false_and, st_t s0, c0, c2, c3, n0, k0, ka, kb, kc, kd, ke, kf, kg, kh]
      exact ⟨by omega, hq⟩
    · simp (disch := first | omega | decide | assumption | exact st_ne s0 (by decide) (by decide) (by decide) | exact dyn_ne (by assumption) (by decide) | fail) only [Int.reduceAdd, Int.reduceSub, Int.reduceNeg, ii_add, ii_sub, ii_mul, ii_lt, ii_le, ii_eq, ixn_ii, ixo_ii, rem_ii, nb_1, nb_0, nb_bb, bb_0, hI_gv, Int.toNat_of_nonneg, Int.cast_ofNat_Int, ht_sI, ht_sJ, ht_sR, hn_sI, hn_sJ, hn_sR, hR_sI, hR_sJ, kI_v, kV_v, kJ_v, true_and, and_true, forall_eq, tg, ln, rf, ne_eq, not_false_eq_true, forall_const, not_true_eq_false, false_implies, Int.reduceEq, Int.reduceLT, Int.reduceLE, implies_true, and_self, reduceCtorEq, false_and, st_t s0, c0, c2, c3, n0, k0, ka, kb, kc, kd, ke, kf, kg, kh]
      exact ⟨by omega, k_labelOf ok n pk v hq⟩
    · simp (disch := first | omega | decide | assumption | exact st_ne s0 (by decide) (by decide) (by decide) | exact dyn_ne (by assumption) (by decide) | fail) only [Int.reduceAdd, Int.reduceSub, Int.reduceNeg, ii_add, ii_sub, ii_mul, ii_lt, ii_le, ii_eq, ixn_ii, ixo_ii, rem_ii, nb_1, nb_0, nb_bb, bb_0, hI_gv, Int.toNat_of_nonneg, Int.cast_ofNat_Int, ht_sI, ht_sJ, ht_sR, hn_sI, hn_sJ, hn_sR, hR_sI, hR_sJ, kI_v, kV_v, kJ_v, true_and, and_true, forall_eq, tg, ln, rf, ne_eq, not_false_eq_true, forall_const, not_true_eq_false, false_implies, Int.reduceEq, Int.reduceLT, Int.reduceLE, implies_true, and_self, reduceCtorEq, false_and, st_t s0, c0, c2, c3, n0, k0, ka, kb, kc, kd, ke, kf, kg, kh]
      exact ⟨by omega, k_countChosen ok n pk v g.1 g.2 hq⟩
  · rw [decide_eq_false_iff_not] at g
    exact r g
theorem M_packet (ok : tr_ok E) (s : mst ad h m one two H L) (v : vok m one two H L) {p w : Int} (h3 : -2147483648 ≤ p) (h4 : p ≤ 2147483647) (h5 : -2147483648 ≤ w) (h6 : w ≤ 2147483647) (q : 0 ≤ p ∧ p < m 106 → 0 ≤ w ∧ w ≤ 8 → ∀ h', mpo ad h 0 0 h' → Q (.inl (some (.inl (ii (pkS m p w))))) h') (r : ¬ (0 ≤ p ∧ p < m 106) → ∀ h', mpo ad h 1 0 h' → Q (.inl (some (.inl (ii 0)))) h') (r2 : 0 ≤ p ∧ p < m 106 → ¬ (0 ≤ w ∧ w ≤ 8) → ∀ h', mpo ad h 2 1 h' → Q (.inl (some (.inl (ii 0)))) h') : tr_C E 170 [.inr (.inr (ad 23)), .inl (ii p), .inl (ii w)] h Q := by
  refine T_X8_packet ok ?_
  have ms := m_start s.1
  have s1 := mst_q s ms.1
  have vm := v_m v
  simp (disch := first | omega | decide | assumption | exact st_ne s0 (by decide) (by decide) (by decide) | exact dyn_ne (by assumption) (by decide) | fail) only [Int.reduceAdd, Int.reduceSub, Int.reduceNeg, ii_add, ii_sub, ii_mul, ii_lt, ii_le, ii_eq, ixn_ii, ixo_ii, rem_ii, nb_1, nb_0, nb_bb, bb_0, hI_gv, Int.toNat_of_nonneg, Int.cast_ofNat_Int, ht_sI, ht_sJ, ht_sR, hn_sI, hn_sJ, hn_sR, hR_sI, hR_sJ, kI_v, kV_v, kJ_v, true_and, and_true, forall_eq, tg, ln, rf, ne_eq, not_false_eq_true, forall_const, not_true_eq_false, false_implies, W_X8_packet, st_t s.1]
  refine c_isPacket ok s1 v h3 h4 ?_
  simp (disch := first | omega | decide | assumption | exact st_ne s0 (by decide) (by decide) (by decide) | exact dyn_ne (by assumption) (by decide) | fail) only [Int.reduceAdd, Int.reduceSub, Int.reduceNeg, ii_add, ii_sub, ii_mul, ii_lt, ii_le, ii_eq, ixn_ii, ixo_ii, rem_ii, nb_1, nb_0, nb_bb, bb_0, hI_gv, Int.toNat_of_nonneg, Int.cast_ofNat_Int, ht_sI, ht_sJ, ht_sR, hn_sI, hn_sJ, hn_sR, hR_sI, hR_sJ, kI_v, kV_v, kJ_v, true_and, and_true, forall_eq, tg, ln, rf, ne_eq, not_false_eq_true, forall_const, not_true_eq_false, false_implies, st_t s.1]
  refine c_fineb ok s.1 ms (by omega) (by omega) (by omega) (by omega) (fun g => ?_) (fun g h' p => ?_)
  · rw [decide_eq_true_eq] at g
    simp (disch := first | omega | decide | assumption | exact st_ne s0 (by decide) (by decide) (by decide) | exact dyn_ne (by assumption) (by decide) | fail) only [Int.reduceAdd, Int.reduceSub, Int.reduceNeg, ii_add, ii_sub, ii_mul, ii_lt, ii_le, ii_eq, ixn_ii, ixo_ii, rem_ii, nb_1, nb_0, nb_bb, bb_0, hI_gv, Int.toNat_of_nonneg, Int.cast_ofNat_Int, ht_sI, ht_sJ, ht_sR, hn_sI, hn_sJ, hn_sR, hR_sI, hR_sJ, kI_v, kV_v, kJ_v, true_and, and_true, forall_eq, tg, ln, rf, ne_eq, not_false_eq_true, forall_const, not_true_eq_false, false_implies, Int.reduceEq, Int.reduceLT, Int.reduceLE, implies_true, and_self, reduceCtorEq, false_and,]
    refine c_within ok h5 h6 (by omega) (by omega) (by omega) (by omega) ?_
    simp (disch := first | omega | decide | assumption | exact st_ne s0 (by decide) (by decide) (by decide) | exact dyn_ne (by assumption) (by decide) | fail) only [Int.reduceAdd, Int.reduceSub, Int.reduceNeg, ii_add, ii_sub, ii_mul, ii_lt, ii_le, ii_eq, ixn_ii, ixo_ii, rem_ii, nb_1, nb_0, nb_bb, bb_0, hI_gv, Int.toNat_of_nonneg, Int.cast_ofNat_Int, ht_sI, ht_sJ, ht_sR, hn_sI, hn_sJ, hn_sR, hR_sI, hR_sJ, kI_v, kV_v, kJ_v, true_and, and_true, forall_eq, tg, ln, rf, ne_eq, not_false_eq_true, forall_const, not_true_eq_false, false_implies, st_t s.1]
    refine c_fineb ok s.1 ms (by omega) (by omega) (by omega) (by omega) (fun g2 => ?_) (fun g2 h' p => ?_)
    · rw [decide_eq_true_eq] at g2
      have hq := q g g2 _ ms
      unfold pkS at hq
      simp (disch := first | omega | decide | assumption | exact st_ne s0 (by decide) (by decide) (by decide) | exact dyn_ne (by assumption) (by decide) | fail) only [Int.reduceAdd, Int.reduceSub, Int.reduceNeg, ii_add, ii_sub, ii_mul, ii_lt, ii_le, ii_eq, ixn_ii, ixo_ii, rem_ii, nb_1, nb_0, nb_bb, bb_0, hI_gv, Int.toNat_of_nonneg, Int.cast_ofNat_Int, ht_sI, ht_sJ, ht_sR, hn_sI, hn_sJ, hn_sR, hR_sI, hR_sJ, kI_v, kV_v, kJ_v, true_and, and_true, forall_eq, tg, ln, rf, ne_eq, not_false_eq_true, forall_const, not_true_eq_false, false_implies, Int.reduceEq, Int.reduceLT, Int.reduceLE, implies_true, and_self, reduceCtorEq, false_and, st_t s.1, st_n s.1, st_r s.1]
      refine ⟨fun g4 => ?_, fun g4 => ⟨fun g5 => ?_, fun g5 => ⟨fun g6 => ?_, fun g6 => ?_⟩⟩⟩
      · rw [if_pos g4] at hq
        exact c_of ok s1 g.1 (by omega) (by omega) (by omega) hq
      · rw [if_neg g4, if_pos g5] at hq
        refine c_of ok s1 g.1 (by omega) (by omega) (by omega) ?_
        simp (disch := first | omega | decide | assumption | exact st_ne s0 (by decide) (by decide) (by decide) | exact dyn_ne (by assumption) (by decide) | fail) only [Int.reduceAdd, Int.reduceSub, Int.reduceNeg, ii_add, ii_sub, ii_mul, ii_lt, ii_le, ii_eq, ixn_ii, ixo_ii, rem_ii, nb_1, nb_0, nb_bb, bb_0, hI_gv, Int.toNat_of_nonneg, Int.cast_ofNat_Int, ht_sI, ht_sJ, ht_sR, hn_sI, hn_sJ, hn_sR, hR_sI, hR_sJ, kI_v, kV_v, kJ_v, true_and, and_true, forall_eq, tg, ln, rf, ne_eq, not_false_eq_true, forall_const, not_true_eq_false, false_implies]
        exact hq
      · rw [if_neg g4, if_neg g5, if_pos g6] at hq
        exact c_labelOf ok s1 v g.1 g.2 hq
      · rw [if_neg g4, if_neg g5, if_neg g6] at hq
        exact c_chosenMany ok s1 v g.1 g.2 hq
    · rw [decide_eq_false_iff_not] at g2
      simp (disch := first | omega | decide | assumption | exact st_ne s0 (by decide) (by decide) (by decide) | exact dyn_ne (by assumption) (by decide) | fail) only [Int.reduceAdd, Int.reduceSub, Int.reduceNeg, ii_add, ii_sub, ii_mul, ii_lt, ii_le, ii_eq, ixn_ii, ixo_ii, rem_ii, nb_1, nb_0, nb_bb, bb_0, hI_gv, Int.toNat_of_nonneg, Int.cast_ofNat_Int, ht_sI, ht_sJ, ht_sR, hn_sI, hn_sJ, hn_sR, hR_sI, hR_sJ, kI_v, kV_v, kJ_v, true_and, and_true, forall_eq, tg, ln, rf, ne_eq, not_false_eq_true, forall_const, not_true_eq_false, false_implies, Int.reduceEq, Int.reduceLT, Int.reduceLE, implies_true, and_self, reduceCtorEq, false_and,]
      exact r2 g g2 h' p
  · rw [decide_eq_false_iff_not] at g
    simp (disch := first | omega | decide | assumption | exact st_ne s0 (by decide) (by decide) (by decide) | exact dyn_ne (by assumption) (by decide) | fail) only [Int.reduceAdd, Int.reduceSub, Int.reduceNeg, ii_add, ii_sub, ii_mul, ii_lt, ii_le, ii_eq, ixn_ii, ixo_ii, rem_ii, nb_1, nb_0, nb_bb, bb_0, hI_gv, Int.toNat_of_nonneg, Int.cast_ofNat_Int, ht_sI, ht_sJ, ht_sR, hn_sI, hn_sJ, hn_sR, hR_sI, hR_sJ, kI_v, kV_v, kJ_v, true_and, and_true, forall_eq, tg, ln, rf, ne_eq, not_false_eq_true, forall_const, not_true_eq_false, false_implies, Int.reduceEq, Int.reduceLT, Int.reduceLE, implies_true, and_self, reduceCtorEq, false_and,]
    exact r g h' p
def trS (m two : Int → Int) (p k w : Int) : Int := if w = 0 then hop m two p k else if w = 1 then lkk m p k else if w = 2 then fd m p 4 - k else if w = 3 then mixA m p k else b2 (chs m p k)
theorem K_trail (ok : tr_ok E) (c : kst ad h m one two H L) (v : vok m one two H L) {p k w : Int} (h3 : -2147483648 ≤ p) (h4 : p ≤ 2147483647) (h5 : -2147483648 ≤ w) (h6 : w ≤ 2147483647) (h7 : -2147483648 ≤ k) (h8 : k ≤ 2147483647) (q : (0 ≤ p ∧ p < m 106) ∧ (0 ≤ k ∧ k ≤ fd m p 6) → 0 ≤ w ∧ w ≤ 4 → Q (.inl (some (.inl (ii (trS m two p k w))))) h) (r : ¬ ((0 ≤ p ∧ p < m 106) ∧ (0 ≤ k ∧ k ≤ fd m p 6)) → Q (.inr 0) (rfz ad h 0)) (r2 : (0 ≤ p ∧ p < m 106) ∧ (0 ≤ k ∧ k ≤ fd m p 6) → ¬ (0 ≤ w ∧ w ≤ 4) → Q (.inr 1) (rfz ad h 1)) : tr_C E 86 [.inr (.inr (ad 1)), .inl (ii p), .inl (ii k), .inl (ii w)] h Q := by
  refine T_X7_trail ok ?_
  have s0 := c.1
  obtain ⟨c0, n, c2, c3, c4, c5⟩ := id c.2
  have vm := v_m v
  obtain ⟨n0, n1, n2, ⟨sa, sb, sc⟩, ⟨ea, eb, ec⟩, ⟨ua, ub, uc⟩, ⟨ra, rb, rc⟩, ⟨ga, gb, g0, g1, g2, g3, g4⟩, nd⟩ := id n
  simp (disch := first | omega | decide | assumption | exact st_ne s0 (by decide) (by decide) (by decide) | exact dyn_ne (by assumption) (by decide) | fail) only [Int.reduceAdd, Int.reduceSub, Int.reduceNeg, ii_add, ii_sub, ii_mul, ii_lt, ii_le, ii_eq, ixn_ii, ixo_ii, rem_ii, nb_1, nb_0, nb_bb, bb_0, hI_gv, Int.toNat_of_nonneg, Int.cast_ofNat_Int, ht_sI, ht_sJ, ht_sR, hn_sI, hn_sJ, hn_sR, hR_sI, hR_sJ, kI_v, kV_v, kJ_v, true_and, and_true, forall_eq, tg, ln, rf, ne_eq, not_false_eq_true, forall_const, not_true_eq_false, false_implies, W_X7_trail, st_t s0, c0]
  refine k_hasPacket ok c.2 v h3 h4 ?_
  simp (disch := first | omega | decide | assumption | exact st_ne s0 (by decide) (by decide) (by decide) | exact dyn_ne (by assumption) (by decide) | fail) only [Int.reduceAdd, Int.reduceSub, Int.reduceNeg, ii_add, ii_sub, ii_mul, ii_lt, ii_le, ii_eq, ixn_ii, ixo_ii, rem_ii, nb_1, nb_0, nb_bb, bb_0, hI_gv, Int.toNat_of_nonneg, Int.cast_ofNat_Int, ht_sI, ht_sJ, ht_sR, hn_sI, hn_sJ, hn_sR, hR_sI, hR_sJ, kI_v, kV_v, kJ_v, true_and, and_true, forall_eq, tg, ln, rf, ne_eq, not_false_eq_true, forall_const, not_true_eq_false, false_implies, st_t s0]
  refine k_fndb ok s0 (fun g => ?_) (fun g => ?_)
  · rw [decide_eq_true_eq] at g
    have pk := c5 p g.1 g.2
    obtain ⟨q0, q1, q2, q3, q4, q5, q6, q7⟩ := v_p v g.1 g.2
    obtain ⟨k0, ka, kb, kc, kd, ke, kf, kg, kh, ⟨ha, hb, hc⟩, ⟨la, lb, lc⟩, kdy⟩ := id pk
    have bad : ¬ (0 ≤ k ∧ k ≤ fd m p 6) → tr_G E 86 Q 42 [some (.inr (.inr (ad 1))), none, some (.inl (ii k)), some (.inl (ii w)), some (.inr (.inr (hR h (hR h (hR h (ad 1) 3) 1) p.toNat)))] [.inl (ii 0), .inr (.inr (ad 1))] h 2 12 := by
      intro g2
      refine T_X7_trail_42 ok ?_
      simp (disch := first | omega | decide | assumption | exact st_ne s0 (by decide) (by decide) (by decide) | exact dyn_ne (by assumption) (by decide) | fail) only [Int.reduceAdd, Int.reduceSub, Int.reduceNeg, ii_add, ii_sub, ii_mul, ii_lt, ii_le, ii_eq, ixn_ii, ixo_ii, rem_ii, nb_1, nb_0, nb_bb, bb_0, hI_gv, Int.toNat_of_nonneg, Int.cast_ofNat_Int, ht_sI, ht_sJ, ht_sR, hn_sI, hn_sJ, hn_sR, hR_sI, hR_sJ, kI_v, kV_v, kJ_v, true_and, and_true, forall_eq, tg, ln, rf, ne_eq, not_false_eq_true, forall_const, not_true_eq_false, false_implies, W_X7_trail_42, st_t s0]
      exact k_fnd0 ok s0 (r (fun e => g2 e.2))
    simp (disch := first | omega | decide | assumption | exact st_ne s0 (by decide) (by decide) (by decide) | exact dyn_ne (by assumption) (by decide) | fail) only [Int.reduceAdd, Int.reduceSub, Int.reduceNeg, ii_add, ii_sub, ii_mul, ii_lt, ii_le, ii_eq, ixn_ii, ixo_ii, rem_ii, nb_1, nb_0, nb_bb, bb_0, hI_gv, Int.toNat_of_nonneg, Int.cast_ofNat_Int, ht_sI, ht_sJ, ht_sR, hn_sI, hn_sJ, hn_sR, hR_sI, hR_sJ, kI_v, kV_v, kJ_v, true_and, and_true, forall_eq, tg, ln, rf, ne_eq, not_false_eq_true, forall_const, not_true_eq_false, false_implies, st_t s0, c0, c2, c3, k0, kg]
    refine ⟨by omega, fun g2 => bad (by omega), fun g2 => ⟨fun g3 => ?_, fun g3 => bad (by omega)⟩⟩
    have g4 : (0 ≤ p ∧ p < m 106) ∧ (0 ≤ k ∧ k ≤ fd m p 6) := ⟨g, by omega, by omega⟩
    refine T_X7_trail_42 ok ?_
    simp (disch := first | omega | decide | assumption | exact st_ne s0 (by decide) (by decide) (by decide) | exact dyn_ne (by assumption) (by decide) | fail) only [Int.reduceAdd, Int.reduceSub, Int.reduceNeg, ii_add, ii_sub, ii_mul, ii_lt, ii_le, ii_eq, ixn_ii, ixo_ii, rem_ii, nb_1, nb_0, nb_bb, bb_0, hI_gv, Int.toNat_of_nonneg, Int.cast_ofNat_Int, ht_sI, ht_sJ, ht_sR, hn_sI, hn_sJ, hn_sR, hR_sI, hR_sJ, kI_v, kV_v, kJ_v, true_and, and_true, forall_eq, tg, ln, rf, ne_eq, not_false_eq_true, forall_const, not_true_eq_false, false_implies, W_X7_trail_42, st_t s0]
    refine k_fnd1 ok ?_
    have bad2 : ¬ (0 ≤ w ∧ w ≤ 4) → tr_G E 86 Q 60 [some (.inr (.inr (ad 1))), none, some (.inl (ii k)), some (.inl (ii w)), some (.inr (.inr (hR h (hR h (hR h (ad 1) 3) 1) p.toNat)))] [.inl (ii 0), .inr (.inr (ad 1))] h 1 6 := by
      intro g2
      refine T_X7_trail_60 ok ?_
      simp (disch := first | omega | decide | assumption | exact st_ne s0 (by decide) (by decide) (by decide) | exact dyn_ne (by assumption) (by decide) | fail) only [Int.reduceAdd, Int.reduceSub, Int.reduceNeg, ii_add, ii_sub, ii_mul, ii_lt, ii_le, ii_eq, ixn_ii, ixo_ii, rem_ii, nb_1, nb_0, nb_bb, bb_0, hI_gv, Int.toNat_of_nonneg, Int.cast_ofNat_Int, ht_sI, ht_sJ, ht_sR, hn_sI, hn_sJ, hn_sR, hR_sI, hR_sJ, kI_v, kV_v, kJ_v, true_and, and_true, forall_eq, tg, ln, rf, ne_eq, not_false_eq_true, forall_const, not_true_eq_false, false_implies, W_X7_trail_60, st_t s0]
      exact k_req0 ok s0 (r2 g4 g2)
    simp (disch := first | omega | decide | assumption | exact st_ne s0 (by decide) (by decide) (by decide) | exact dyn_ne (by assumption) (by decide) | fail) only [Int.reduceAdd, Int.reduceSub, Int.reduceNeg, ii_add, ii_sub, ii_mul, ii_lt, ii_le, ii_eq, ixn_ii, ixo_ii, rem_ii, nb_1, nb_0, nb_bb, bb_0, hI_gv, Int.toNat_of_nonneg, Int.cast_ofNat_Int, ht_sI, ht_sJ, ht_sR, hn_sI, hn_sJ, hn_sR, hR_sI, hR_sJ, kI_v, kV_v, kJ_v, true_and, and_true, forall_eq, tg, ln, rf, ne_eq, not_false_eq_true, forall_const, not_true_eq_false, false_implies]
    refine ⟨fun g5 => bad2 (by omega), fun g5 => ⟨fun g6 => ?_, fun g6 => bad2 (by omega)⟩⟩
    refine T_X7_trail_60 ok ?_
    simp (disch := first | omega | decide | assumption | exact st_ne s0 (by decide) (by decide) (by decide) | exact dyn_ne (by assumption) (by decide) | fail) only [Int.reduceAdd, Int.reduceSub, Int.reduceNeg, ii_add, ii_sub, ii_mul, ii_lt, ii_le, ii_eq, ixn_ii, ixo_ii, rem_ii, nb_1, nb_0, nb_bb, bb_0, hI_gv, Int.toNat_of_nonneg, Int.cast_ofNat_Int, ht_sI, ht_sJ, ht_sR, hn_sI, hn_sJ, hn_sR, hR_sI, hR_sJ, kI_v, kV_v, kJ_v, true_and, and_true, forall_eq, tg, ln, rf, ne_eq, not_false_eq_true, forall_const, not_true_eq_false, false_implies, W_X7_trail_60, st_t s0]
    refine k_req1 ok ?_
    have hq := q g4 (by omega)
    unfold trS at hq
    simp (disch := first | omega | decide | assumption | exact st_ne s0 (by decide) (by decide) (by decide) | exact dyn_ne (by assumption) (by decide) | fail) only [Int.reduceAdd, Int.reduceSub, Int.reduceNeg, ii_add, ii_sub, ii_mul, ii_lt, ii_le, ii_eq, ixn_ii, ixo_ii, rem_ii, nb_1, nb_0, nb_bb, bb_0, hI_gv, Int.toNat_of_nonneg, Int.cast_ofNat_Int, ht_sI, ht_sJ, ht_sR, hn_sI, hn_sJ, hn_sR, hR_sI, hR_sJ, kI_v, kV_v, kJ_v, true_and, and_true, forall_eq, tg, ln, rf, ne_eq, not_false_eq_true, forall_const, not_true_eq_false, false_implies, st_t s0, c0, n0, k0, ka, kb, kc, kd, ke, kf, kg, kh, ha, hb, hc, la, lb, lc]
    refine ⟨fun e0 => ⟨by omega, ?_⟩, fun e0 => ⟨fun e1 => ⟨by omega, ?_⟩, fun e1 => ⟨fun e2 => ?_, fun e2 => ⟨fun e3 => ?_, fun e3 => ?_⟩⟩⟩⟩
    · rw [if_pos e0] at hq; exact hq
    · rw [if_neg e0, if_pos e1] at hq; exact hq
    · rw [if_neg e0, if_neg e1, if_pos e2] at hq; exact hq
    · rw [if_neg e0, if_neg e1, if_neg e2, if_pos e3] at hq
      exact k_mixOf ok n pk v g.1 g.2 (by omega) (by omega) hq
    · rw [if_neg e0, if_neg e1, if_neg e2, if_neg e3] at hq
      refine k_chooses ok n pk v g.1 g.2 (by omega) (by omega) ?_
      simp (disch := first | omega | decide | assumption | exact st_ne s0 (by decide) (by decide) (by decide) | exact dyn_ne (by assumption) (by decide) | fail) only [Int.reduceAdd, Int.reduceSub, Int.reduceNeg, ii_add, ii_sub, ii_mul, ii_lt, ii_le, ii_eq, ixn_ii, ixo_ii, rem_ii, nb_1, nb_0, nb_bb, bb_0, hI_gv, Int.toNat_of_nonneg, Int.cast_ofNat_Int, ht_sI, ht_sJ, ht_sR, hn_sI, hn_sJ, hn_sR, hR_sI, hR_sJ, kI_v, kV_v, kJ_v, true_and, and_true, forall_eq, tg, ln, rf, ne_eq, not_false_eq_true, forall_const, not_true_eq_false, false_implies]
      refine ⟨fun g7 => ?_, fun g7 => ?_⟩
      · rw [g7] at hq; exact hq
      · rw [Bool.not_eq_false] at g7
        rw [g7] at hq; exact hq
  · rw [decide_eq_false_iff_not] at g
    exact r (fun e => g e.1)
theorem M_trail (ok : tr_ok E) (s : mst ad h m one two H L) (v : vok m one two H L) {p k w : Int} (h3 : -2147483648 ≤ p) (h4 : p ≤ 2147483647) (h5 : -2147483648 ≤ w) (h6 : w ≤ 2147483647) (h7 : -2147483648 ≤ k) (h8 : k ≤ 2147483647) (q : (0 ≤ p ∧ p < m 106) ∧ (0 ≤ k ∧ k ≤ fd m p 6) → 0 ≤ w ∧ w ≤ 4 → ∀ h', mpo ad h 0 0 h' → Q (.inl (some (.inl (ii (trS m two p k w))))) h') (r : ¬ ((0 ≤ p ∧ p < m 106) ∧ (0 ≤ k ∧ k ≤ fd m p 6)) → ∀ h', mpo ad h 1 0 h' → Q (.inl (some (.inl (ii 0)))) h') (r2 : (0 ≤ p ∧ p < m 106) ∧ (0 ≤ k ∧ k ≤ fd m p 6) → ¬ (0 ≤ w ∧ w ≤ 4) → ∀ h', mpo ad h 2 1 h' → Q (.inl (some (.inl (ii 0)))) h') : tr_C E 171 [.inr (.inr (ad 23)), .inl (ii p), .inl (ii k), .inl (ii w)] h Q := by
  refine T_X8_trail ok ?_
  have ms := m_start s.1
  have s1 := mst_q s ms.1
  have vm := v_m v
  have bad : ¬ ((0 ≤ p ∧ p < m 106) ∧ (0 ≤ k ∧ k ≤ fd m p 6)) → tr_G E 171 Q 34 [some (.inr (.inr (ad 23))), some (.inl (ii p)), some (.inl (ii k)), some (.inl (ii w))] [.inl (ii 0), .inr (.inr (ad 23))] (hsI h (ad 23) 0 (ii 0)) 0 0 := by
    intro g2
    refine T_X8_trail_34 ok ?_
    simp (disch := first | omega | decide | assumption | exact st_ne s0 (by decide) (by decide) (by decide) | exact dyn_ne (by assumption) (by decide) | fail) only [Int.reduceAdd, Int.reduceSub, Int.reduceNeg, ii_add, ii_sub, ii_mul, ii_lt, ii_le, ii_eq, ixn_ii, ixo_ii, rem_ii, nb_1, nb_0, nb_bb, bb_0, hI_gv, Int.toNat_of_nonneg, Int.cast_ofNat_Int, ht_sI, ht_sJ, ht_sR, hn_sI, hn_sJ, hn_sR, hR_sI, hR_sJ, kI_v, kV_v, kJ_v, true_and, and_true, forall_eq, tg, ln, rf, ne_eq, not_false_eq_true, forall_const, not_true_eq_false, false_implies, W_X8_trail_34, st_t s.1]
    refine c_fine0 ok s.1 ms (by omega) (by omega) (by omega) (by omega) (fun h' p => ?_)
    simp (disch := first | omega | decide | assumption | exact st_ne s0 (by decide) (by decide) (by decide) | exact dyn_ne (by assumption) (by decide) | fail) only [Int.reduceAdd, Int.reduceSub, Int.reduceNeg, ii_add, ii_sub, ii_mul, ii_lt, ii_le, ii_eq, ixn_ii, ixo_ii, rem_ii, nb_1, nb_0, nb_bb, bb_0, hI_gv, Int.toNat_of_nonneg, Int.cast_ofNat_Int, ht_sI, ht_sJ, ht_sR, hn_sI, hn_sJ, hn_sR, hR_sI, hR_sJ, kI_v, kV_v, kJ_v, true_and, and_true, forall_eq, tg, ln, rf, ne_eq, not_false_eq_true, forall_const, not_true_eq_false, false_implies, Int.reduceEq, Int.reduceLT, Int.reduceLE, implies_true, and_self, reduceCtorEq, false_and,]
    exact r g2 h' p
  simp (disch := first | omega | decide | assumption | exact st_ne s0 (by decide) (by decide) (by decide) | exact dyn_ne (by assumption) (by decide) | fail) only [Int.reduceAdd, Int.reduceSub, Int.reduceNeg, ii_add, ii_sub, ii_mul, ii_lt, ii_le, ii_eq, ixn_ii, ixo_ii, rem_ii, nb_1, nb_0, nb_bb, bb_0, hI_gv, Int.toNat_of_nonneg, Int.cast_ofNat_Int, ht_sI, ht_sJ, ht_sR, hn_sI, hn_sJ, hn_sR, hR_sI, hR_sJ, kI_v, kV_v, kJ_v, true_and, and_true, forall_eq, tg, ln, rf, ne_eq, not_false_eq_true, forall_const, not_true_eq_false, false_implies, W_X8_trail, st_t s.1]
  refine c_isPacket ok s1 v h3 h4 ?_
  simp (disch := first | omega | decide | assumption | exact st_ne s0 (by decide) (by decide) (by decide) | exact dyn_ne (by assumption) (by decide) | fail) only [Int.reduceAdd, Int.reduceSub, Int.reduceNeg, ii_add, ii_sub, ii_mul, ii_lt, ii_le, ii_eq, ixn_ii, ixo_ii, rem_ii, nb_1, nb_0, nb_bb, bb_0, hI_gv, Int.toNat_of_nonneg, Int.cast_ofNat_Int, ht_sI, ht_sJ, ht_sR, hn_sI, hn_sJ, hn_sR, hR_sI, hR_sJ, kI_v, kV_v, kJ_v, true_and, and_true, forall_eq, tg, ln, rf, ne_eq, not_false_eq_true, forall_const, not_true_eq_false, false_implies, st_t s.1]
  refine ⟨fun g => ?_, fun g => ?_⟩
  · rw [decide_eq_false_iff_not] at g
    exact bad (fun e => g e.1)
  · rw [Bool.not_eq_false, decide_eq_true_eq] at g
    obtain ⟨q0, q1, q2, q3, q4, q5, q6, q7⟩ := v_p v g.1 g.2
    refine c_of ok s1 g.1 (by omega) (by omega) (by omega) ?_
    simp (disch := first | omega | decide | assumption | exact st_ne s0 (by decide) (by decide) (by decide) | exact dyn_ne (by assumption) (by decide) | fail) only [Int.reduceAdd, Int.reduceSub, Int.reduceNeg, ii_add, ii_sub, ii_mul, ii_lt, ii_le, ii_eq, ixn_ii, ixo_ii, rem_ii, nb_1, nb_0, nb_bb, bb_0, hI_gv, Int.toNat_of_nonneg, Int.cast_ofNat_Int, ht_sI, ht_sJ, ht_sR, hn_sI, hn_sJ, hn_sR, hR_sI, hR_sJ, kI_v, kV_v, kJ_v, true_and, and_true, forall_eq, tg, ln, rf, ne_eq, not_false_eq_true, forall_const, not_true_eq_false, false_implies]
    refine c_within ok h7 h8 (by omega) (by omega) (by omega) (by omega) ?_
    simp (disch := first | omega | decide | assumption | exact st_ne s0 (by decide) (by decide) (by decide) | exact dyn_ne (by assumption) (by decide) | fail) only [Int.reduceAdd, Int.reduceSub, Int.reduceNeg, ii_add, ii_sub, ii_mul, ii_lt, ii_le, ii_eq, ixn_ii, ixo_ii, rem_ii, nb_1, nb_0, nb_bb, bb_0, hI_gv, Int.toNat_of_nonneg, Int.cast_ofNat_Int, ht_sI, ht_sJ, ht_sR, hn_sI, hn_sJ, hn_sR, hR_sI, hR_sJ, kI_v, kV_v, kJ_v, true_and, and_true, forall_eq, tg, ln, rf, ne_eq, not_false_eq_true, forall_const, not_true_eq_false, false_implies]
    refine ⟨fun g2 => ?_, fun g2 => ?_⟩
    · rw [decide_eq_false_iff_not] at g2
      exact bad (fun e => g2 e.2)
    · rw [Bool.not_eq_false, decide_eq_true_eq] at g2
      refine T_X8_trail_34 ok ?_
      simp (disch := first | omega | decide | assumption | exact st_ne s0 (by decide) (by decide) (by decide) | exact dyn_ne (by assumption) (by decide) | fail) only [Int.reduceAdd, Int.reduceSub, Int.reduceNeg, ii_add, ii_sub, ii_mul, ii_lt, ii_le, ii_eq, ixn_ii, ixo_ii, rem_ii, nb_1, nb_0, nb_bb, bb_0, hI_gv, Int.toNat_of_nonneg, Int.cast_ofNat_Int, ht_sI, ht_sJ, ht_sR, hn_sI, hn_sJ, hn_sR, hR_sI, hR_sJ, kI_v, kV_v, kJ_v, true_and, and_true, forall_eq, tg, ln, rf, ne_eq, not_false_eq_true, forall_const, not_true_eq_false, false_implies, W_X8_trail_34, st_t s.1]
      refine c_fine1 ok s1.1 ms.2.1 ?_
      simp (disch := first | omega | decide | assumption | exact st_ne s0 (by decide) (by decide) (by decide) | exact dyn_ne (by assumption) (by decide) | fail) only [Int.reduceAdd, Int.reduceSub, Int.reduceNeg, ii_add, ii_sub, ii_mul, ii_lt, ii_le, ii_eq, ixn_ii, ixo_ii, rem_ii, nb_1, nb_0, nb_bb, bb_0, hI_gv, Int.toNat_of_nonneg, Int.cast_ofNat_Int, ht_sI, ht_sJ, ht_sR, hn_sI, hn_sJ, hn_sR, hR_sI, hR_sJ, kI_v, kV_v, kJ_v, true_and, and_true, forall_eq, tg, ln, rf, ne_eq, not_false_eq_true, forall_const, not_true_eq_false, false_implies, Int.reduceEq, Int.reduceLT, Int.reduceLE, implies_true, and_self, reduceCtorEq, false_and,]
      refine c_within ok h5 h6 (by omega) (by omega) (by omega) (by omega) ?_
      simp (disch := first | omega | decide | assumption | exact st_ne s0 (by decide) (by decide) (by decide) | exact dyn_ne (by assumption) (by decide) | fail) only [Int.reduceAdd, Int.reduceSub, Int.reduceNeg, ii_add, ii_sub, ii_mul, ii_lt, ii_le, ii_eq, ixn_ii, ixo_ii, rem_ii, nb_1, nb_0, nb_bb, bb_0, hI_gv, Int.toNat_of_nonneg, Int.cast_ofNat_Int, ht_sI, ht_sJ, ht_sR, hn_sI, hn_sJ, hn_sR, hR_sI, hR_sJ, kI_v, kV_v, kJ_v, true_and, and_true, forall_eq, tg, ln, rf, ne_eq, not_false_eq_true, forall_const, not_true_eq_false, false_implies, st_t s.1]
      refine c_fineb ok s.1 ms (by omega) (by omega) (by omega) (by omega) (fun g3 => ?_) (fun g3 h' p => ?_)
      · rw [decide_eq_true_eq] at g3
        have hq := q ⟨g, g2⟩ g3 _ ms
        unfold trS at hq
        simp (disch := first | omega | decide | assumption | exact st_ne s0 (by decide) (by decide) (by decide) | exact dyn_ne (by assumption) (by decide) | fail) only [Int.reduceAdd, Int.reduceSub, Int.reduceNeg, ii_add, ii_sub, ii_mul, ii_lt, ii_le, ii_eq, ixn_ii, ixo_ii, rem_ii, nb_1, nb_0, nb_bb, bb_0, hI_gv, Int.toNat_of_nonneg, Int.cast_ofNat_Int, ht_sI, ht_sJ, ht_sR, hn_sI, hn_sJ, hn_sR, hR_sI, hR_sJ, kI_v, kV_v, kJ_v, true_and, and_true, forall_eq, tg, ln, rf, ne_eq, not_false_eq_true, forall_const, not_true_eq_false, false_implies, Int.reduceEq, Int.reduceLT, Int.reduceLE, implies_true, and_self, reduceCtorEq, false_and, st_t s.1]
        refine ⟨fun e0 => ?_, fun e0 => ⟨fun e1 => ⟨fun e4 => ?_, fun e4 => ?_⟩, fun e1 => ⟨fun e2 => ?_, fun e2 => ⟨fun e3 => ?_, fun e3 => ?_⟩⟩⟩⟩
        · rw [if_pos e0] at hq
          exact c_hopAt ok s1 v g.1 g.2 (by omega) (by omega) hq
        · rw [if_neg e0, if_pos e1] at hq
          unfold lkk at hq
          rw [if_pos e4] at hq
          exact hq
        · rw [if_neg e0, if_pos e1] at hq
          unfold lkk at hq
          rw [if_neg e4] at hq
          exact c_linkAt ok s1 g.1 (by omega) (by omega) (by omega) hq
        · rw [if_neg e0, if_neg e1, if_pos e2] at hq
          refine c_of ok s1 g.1 (by omega) (by omega) (by omega) ?_
          simp (disch := first | omega | decide | assumption | exact st_ne s0 (by decide) (by decide) (by decide) | exact dyn_ne (by assumption) (by decide) | fail) only [Int.reduceAdd, Int.reduceSub, Int.reduceNeg, ii_add, ii_sub, ii_mul, ii_lt, ii_le, ii_eq, ixn_ii, ixo_ii, rem_ii, nb_1, nb_0, nb_bb, bb_0, hI_gv, Int.toNat_of_nonneg, Int.cast_ofNat_Int, ht_sI, ht_sJ, ht_sR, hn_sI, hn_sJ, hn_sR, hR_sI, hR_sJ, kI_v, kV_v, kJ_v, true_and, and_true, forall_eq, tg, ln, rf, ne_eq, not_false_eq_true, forall_const, not_true_eq_false, false_implies]
          exact hq
        · rw [if_neg e0, if_neg e1, if_neg e2, if_pos e3] at hq
          exact c_mixAt ok s1 v g.1 g.2 (by omega) (by omega) hq
        · rw [if_neg e0, if_neg e1, if_neg e2, if_neg e3] at hq
          refine c_isChosen ok s1 v g.1 g.2 (by omega) (by omega) ?_
          simp (disch := first | omega | decide | assumption | exact st_ne s0 (by decide) (by decide) (by decide) | exact dyn_ne (by assumption) (by decide) | fail) only [Int.reduceAdd, Int.reduceSub, Int.reduceNeg, ii_add, ii_sub, ii_mul, ii_lt, ii_le, ii_eq, ixn_ii, ixo_ii, rem_ii, nb_1, nb_0, nb_bb, bb_0, hI_gv, Int.toNat_of_nonneg, Int.cast_ofNat_Int, ht_sI, ht_sJ, ht_sR, hn_sI, hn_sJ, hn_sR, hR_sI, hR_sJ, kI_v, kV_v, kJ_v, true_and, and_true, forall_eq, tg, ln, rf, ne_eq, not_false_eq_true, forall_const, not_true_eq_false, false_implies]
          refine ⟨fun g7 => ?_, fun g7 => ?_⟩
          · rw [g7] at hq; exact hq
          · rw [Bool.not_eq_false] at g7
            rw [g7] at hq; exact hq
      · rw [decide_eq_false_iff_not] at g3
        simp (disch := first | omega | decide | assumption | exact st_ne s0 (by decide) (by decide) (by decide) | exact dyn_ne (by assumption) (by decide) | fail) only [Int.reduceAdd, Int.reduceSub, Int.reduceNeg, ii_add, ii_sub, ii_mul, ii_lt, ii_le, ii_eq, ixn_ii, ixo_ii, rem_ii, nb_1, nb_0, nb_bb, bb_0, hI_gv, Int.toNat_of_nonneg, Int.cast_ofNat_Int, ht_sI, ht_sJ, ht_sR, hn_sI, hn_sJ, hn_sR, hR_sI, hR_sJ, kI_v, kV_v, kJ_v, true_and, and_true, forall_eq, tg, ln, rf, ne_eq, not_false_eq_true, forall_const, not_true_eq_false, false_implies, Int.reduceEq, Int.reduceLT, Int.reduceLE, implies_true, and_self, reduceCtorEq, false_and,]
        exact r2 ⟨g, g2⟩ g3 h' p
end ASK2
