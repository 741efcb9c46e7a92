/-! WALKS: joints, walk, walkAt -/
def wln (a : Ac) (k : Int) : Int := a.fb (k + 1) - 1 - a.fb k
def whp (two : Int → Int) (a : Ac) (k : Int) : Int := if wln a k = 0 then a.fh k else two (a.fM (a.fb (k + 1) - 2))
section WKP
variable {H L : Int} {a : Ac}
theorem f_bg (f : fok H L a) : ∀ (m : Nat) (k : Int), 0 ≤ k → k + m ≤ a.fw → a.fb k + m ≤ a.fb (k + m)
  | 0, k, _, _ => by simp
  | m + 1, k, h1, h2 => by
    have e1 := f_bg f m k h1 (by omega)
    have e2 := f.2.2.1 (k + m) (by omega) (by omega)
    rw [show k + ((m + 1 : Nat) : Int) = k + m + 1 by omega]
    omega
theorem f_le (f : fok H L a) {k j : Int} (h1 : 0 ≤ k) (h2 : k ≤ j) (h3 : j ≤ a.fw) : a.fb k + (j - k) ≤ a.fb j := by
  have := f_bg f (j - k).toNat k h1 (by omega)
  rw [show k + ((j - k).toNat : Int) = j by omega] at this
  omega
theorem f_b0 (f : fok H L a) {k : Int} (h1 : 0 ≤ k) (h2 : k ≤ a.fw) : k ≤ a.fb k ∧ a.fb k ≤ 520 ∧ a.fb k - k ≤ 520 := by
  have e1 := f_le f (Int.le_refl 0) h1 h2
  have e2 := f_le f h1 h2 (Int.le_refl _)
  have e3 := f.2.1
  have e4 := f.2.2.2.1
  omega
theorem f_ln (f : fok H L a) {k : Int} (h1 : 0 ≤ k) (h2 : k < a.fw) : 0 ≤ wln a k ∧ wln a k ≤ 520 ∧ a.fb k + wln a k + 1 = a.fb (k + 1) ∧ a.fb (k + 1) ≤ a.fb a.fw := by
  have e1 := f.2.2.1 k h1 h2
  have e2 := f_b0 f h1 (by omega)
  have e3 := f_b0 f (k := k + 1) (by omega) (by omega)
  have e4 := f_le f (k := k + 1) (j := a.fw) (by omega) (by omega) (Int.le_refl _)
  unfold wln
  omega
theorem f_hp {m one two : Int → Int} (v : vok m one two H L) (f : fok H L a) {k : Int} (h1 : 0 ≤ k) (h2 : k < a.fw) : 0 ≤ whp two a k ∧ whp two a k < H := by
  have e := f_ln f h1 h2
  unfold whp
  split
  · exact f.2.2.2.2.2.2 k h1 h2
  · have := f.2.2.2.2.1 k (a.fb (k + 1) - 2) h1 h2 (by omega) (by omega)
    exact (v_l v this.1 this.2).2.2
theorem jts_p {c : Int} (k : aok H L c a) (g : 0 < jts a) : ovr a = false ∧ 0 < a.se ∧ jts a = a.se ∧ fok H L a := by
  unfold jts at g ⊢
  by_cases o : ovr a = true
  · rw [if_pos o] at g; omega
  · rw [if_neg o] at g ⊢
    rw [Bool.not_eq_true] at o
    exact ⟨o, g, rfl, k.2.2 g⟩
end WKP
section WKM
variable {E : tr_Env} {ad : Nat → Nat} {h h0 : tr_H} {Q : tr_Q} {m one two : Int → Int} {H L : Int} {a : Ac}
theorem c_longAt (ok : tr_ok E) (s0 : stat ad h) (ra : acR ad h a) (f : fok H L a) (g : 0 < a.se) {k : Int} (k0 : 0 ≤ k) (k1 : k < a.fw) (q : Q (.inl (some (.inl (ii (wln a k))))) h) : tr_C E 183 [.inr (.inr (ad 23)), .inl (ii k)] h Q := by
  refine T_X8_longAt ok ?_
  obtain ⟨r1, r2, r3, r4⟩ := ra.2.2 g
  have e1 := f_b0 f k0 (by omega)
  have e2 := f_b0 f (k := k + 1) (by omega) (by omega)
  have x1 := r3 k k0 (by omega)
  have x2 := r3 (k + 1) (by omega) (by omega)
  have fw := f.1
  have el : a.fb (k + 1) - (k + 1) - (a.fb k - k) = wln a k := by unfold wln; omega
  simp (disch := first | omega | decide | assumption | exact st_ne s0 (by decide) (by decide) (by decide) | exact dyn_ne (by assumption) (by decide) | fail) only [Int.reduceAdd, Int.reduceSub, Int.reduceNeg, ii_add, ii_sub, ii_mul, ii_lt, ii_le, ii_eq, ixn_ii, ixo_ii, rem_ii, nb_1, nb_0, nb_bb, bb_0, hI_gv, Int.toNat_of_nonneg, Int.cast_ofNat_Int, ht_sI, ht_sJ, ht_sR, hn_sI, hn_sJ, hn_sR, hR_sI, hR_sJ, kI_v, kV_v, kJ_v, true_and, and_true, forall_eq, tg, ln, rf, ne_eq, not_false_eq_true, forall_const, not_true_eq_false, false_implies, W_X8_longAt, st_t s0, st_n s0, st_r s0, x1, x2, el]
  exact ⟨by omega, by omega, q⟩
theorem c_lastHop (ok : tr_ok E) (s : mst ad h m one two H L) (v : vok m one two H L) (ra : acR ad h a) (f : fok H L a) (g : 0 < a.se) {k : Int} (k0 : 0 ≤ k) (k1 : k < a.fw) (q : Q (.inl (some (.inl (ii (whp two a k))))) h) : tr_C E 184 [.inr (.inr (ad 23)), .inl (ii k)] h Q := by
  refine T_X8_lastHop ok ?_
  obtain ⟨s0, em, e1, e2, eH, eL⟩ := id s
  simp (disch := first | omega | decide | assumption | exact st_ne s0 (by decide) (by decide) (by decide) | exact dyn_ne (by assumption) (by decide) | fail) only [Int.reduceAdd, Int.reduceSub, Int.reduceNeg, ii_add, ii_sub, ii_mul, ii_lt, ii_le, ii_eq, ixn_ii, ixo_ii, rem_ii, nb_1, nb_0, nb_bb, bb_0, hI_gv, Int.toNat_of_nonneg, Int.cast_ofNat_Int, ht_sI, ht_sJ, ht_sR, hn_sI, hn_sJ, hn_sR, hR_sI, hR_sJ, kI_v, kV_v, kJ_v, true_and, and_true, forall_eq, tg, ln, rf, ne_eq, not_false_eq_true, forall_const, not_true_eq_false, false_implies, W_X8_lastHop, st_t s0]
  refine c_longAt ok s0 ra f g k0 k1 ?_
  obtain ⟨r1, r2, r3, r4⟩ := ra.2.2 g
  have b1 := f_b0 f k0 (by omega)
  have b2 := f_b0 f (k := k + 1) (by omega) (by omega)
  have lnn := f_ln f k0 k1
  have x2 := r3 (k + 1) (by omega) (by omega)
  have x3 := r2 k k0 k1
  have fw := f.1
  have vL := v_L v
  unfold whp at q
  have h12 := hI_gv
  simp (disch := first | omega | decide | assumption | exact st_ne s0 (by decide) (by decide) (by decide) | exact dyn_ne (by assumption) (by decide) | fail) only [Int.reduceAdd, Int.reduceSub, Int.reduceNeg, ii_add, ii_sub, ii_mul, ii_lt, ii_le, ii_eq, ixn_ii, ixo_ii, rem_ii, nb_1, nb_0, nb_bb, bb_0, hI_gv, Int.toNat_of_nonneg, Int.cast_ofNat_Int, ht_sI, ht_sJ, ht_sR, hn_sI, hn_sJ, hn_sR, hR_sI, hR_sJ, kI_v, kV_v, kJ_v, true_and, and_true, forall_eq, tg, ln, rf, ne_eq, not_false_eq_true, forall_const, not_true_eq_false, false_implies, st_t s0, st_n s0, st_r s0, x2, x3]
  refine ⟨fun g2 => ⟨by omega, ?_⟩, fun g2 => ?_⟩
  · rw [if_pos g2] at q; exact q
  · rw [if_neg g2] at q
    have hb := f.2.2.2.2.1 k (a.fb (k + 1) - 2) k0 k1 (by omega) (by omega)
    have x4 := r4 k (a.fb (k + 1) - 2) k0 k1 (by omega) (by omega)
    have ix : a.fb (k + 1) - (k + 1) - 1 = a.fb (k + 1) - 2 - k := by omega
    have i0 : 0 ≤ a.fb (k + 1) - 2 - k := by omega
    simp (disch := first | omega | decide | assumption | exact st_ne s0 (by decide) (by decide) (by decide) | exact dyn_ne (by assumption) (by decide) | fail) only [Int.reduceAdd, Int.reduceSub, Int.reduceNeg, ii_add, ii_sub, ii_mul, ii_lt, ii_le, ii_eq, ixn_ii, ixo_ii, rem_ii, nb_1, nb_0, nb_bb, bb_0, hI_gv, Int.toNat_of_nonneg, Int.cast_ofNat_Int, ht_sI, ht_sJ, ht_sR, hn_sI, hn_sJ, hn_sR, hR_sI, hR_sJ, kI_v, kV_v, kJ_v, true_and, and_true, forall_eq, tg, ln, rf, ne_eq, not_false_eq_true, forall_const, not_true_eq_false, false_implies, ix, x4, e2]
    exact ⟨by omega, by omega, by omega, q⟩
def wkS (two : Int → Int) (a : Ac) (w k : Int) : Int := if w = 0 then (if jts a = -2 then -2 else if jts a = 0 then -3 else a.fw) else if w = 1 then a.fh k else if w = 2 then wln a k else whp two a k
theorem M_joints (ok : tr_ok E) (s : mst ad h m one two H L) (v : vok m one two H L) {l : Int} (l1 : -2147483648 ≤ l) (l2 : l ≤ 2147483647) (q : 0 ≤ l ∧ l < m 5 → ∀ h', mpo ad h 0 0 h' → Q (.inl (some (.inl (ii (jts (jn m one two H L l)))))) h') (r : ¬ (0 ≤ l ∧ l < m 5) → ∀ h', mpo ad h 1 1 h' → Q (.inl (some (.inl (ii 0)))) h') : tr_C E 182 [.inr (.inr (ad 23)), .inl (ii l)] h Q := by
  refine T_X8_joints ok ?_
  have ms := m_start s.1
  have s1 := mst_q s ms.1
  have v5 := v_5 v
  simp (disch := first | omega | decide | assumption | exact st_ne s0 (by decide) (by decide) (by decide) | exact dyn_ne (by assumption) (by decide) | fail) only [Int.reduceAdd, Int.reduceSub, Int.reduceNeg, ii_add, ii_sub, ii_mul, ii_lt, ii_le, ii_eq, ixn_ii, ixo_ii, rem_ii, nb_1, nb_0, nb_bb, bb_0, hI_gv, Int.toNat_of_nonneg, Int.cast_ofNat_Int, ht_sI, ht_sJ, ht_sR, hn_sI, hn_sJ, hn_sR, hR_sI, hR_sJ, kI_v, kV_v, kJ_v, true_and, and_true, forall_eq, tg, ln, rf, ne_eq, not_false_eq_true, forall_const, not_true_eq_false, false_implies, W_X8_joints, st_t s.1]
  refine c_isLabel ok s1 v l1 l2 ?_
  simp (disch := first | omega | decide | assumption | exact st_ne s0 (by decide) (by decide) (by decide) | exact dyn_ne (by assumption) (by decide) | fail) only [Int.reduceAdd, Int.reduceSub, Int.reduceNeg, ii_add, ii_sub, ii_mul, ii_lt, ii_le, ii_eq, ixn_ii, ixo_ii, rem_ii, nb_1, nb_0, nb_bb, bb_0, hI_gv, Int.toNat_of_nonneg, Int.cast_ofNat_Int, ht_sI, ht_sJ, ht_sR, hn_sI, hn_sJ, hn_sR, hR_sI, hR_sJ, kI_v, kV_v, kJ_v, true_and, and_true, forall_eq, tg, ln, rf, ne_eq, not_false_eq_true, forall_const, not_true_eq_false, false_implies, st_t s.1]
  refine c_fineb ok s.1 ms (by omega) (by omega) (by omega) (by omega) (fun g => ?_) (fun g h' p => ?_)
  · rw [decide_eq_true_eq] at g
    simp (disch := first | omega | decide | assumption | exact st_ne s0 (by decide) (by decide) (by decide) | exact dyn_ne (by assumption) (by decide) | fail) only [Int.reduceAdd, Int.reduceSub, Int.reduceNeg, ii_add, ii_sub, ii_mul, ii_lt, ii_le, ii_eq, ixn_ii, ixo_ii, rem_ii, nb_1, nb_0, nb_bb, bb_0, hI_gv, Int.toNat_of_nonneg, Int.cast_ofNat_Int, ht_sI, ht_sJ, ht_sR, hn_sI, hn_sJ, hn_sR, hR_sI, hR_sJ, kI_v, kV_v, kJ_v, true_and, and_true, forall_eq, tg, ln, rf, ne_eq, not_false_eq_true, forall_const, not_true_eq_false, false_implies, Int.reduceEq, Int.reduceLT, Int.reduceLE, implies_true, and_self, reduceCtorEq, false_and, st_t s.1]
    exact c_jointsOf ok s1 v g.1 (by omega) (fun h' f' _ _ => q g h' (mpo_j s.1 ms f'))
  · rw [decide_eq_false_iff_not] at g
    simp (disch := first | omega | decide | assumption | exact st_ne s0 (by decide) (by decide) (by decide) | exact dyn_ne (by assumption) (by decide) | fail) only [Int.reduceAdd, Int.reduceSub, Int.reduceNeg, ii_add, ii_sub, ii_mul, ii_lt, ii_le, ii_eq, ixn_ii, ixo_ii, rem_ii, nb_1, nb_0, nb_bb, bb_0, hI_gv, Int.toNat_of_nonneg, Int.cast_ofNat_Int, ht_sI, ht_sJ, ht_sR, hn_sI, hn_sJ, hn_sR, hR_sI, hR_sJ, kI_v, kV_v, kJ_v, true_and, and_true, forall_eq, tg, ln, rf, ne_eq, not_false_eq_true, forall_const, not_true_eq_false, false_implies, Int.reduceEq, Int.reduceLT, Int.reduceLE, implies_true, and_self, reduceCtorEq, false_and,]
    exact r g h' p
theorem M_walk (ok : tr_ok E) (s : mst ad h m one two H L) (v : vok m one two H L) {l k w : Int} (l1 : -2147483648 ≤ l) (l2 : l ≤ 2147483647) (k1 : -2147483648 ≤ k) (k2 : k ≤ 2147483647) (w1 : -2147483648 ≤ w) (w2 : w ≤ 2147483647) (q : (0 ≤ l ∧ l < m 5) ∧ (0 ≤ w ∧ w ≤ 3) → (w = 0 ∨ 0 < jts (jn m one two H L l) ∧ 0 ≤ k ∧ k < (jn m one two H L l).fw) → ∀ h', mpo ad h 0 0 h' → Q (.inl (some (.inl (ii (wkS two (jn m one two H L l) w k))))) h') (r : ¬ ((0 ≤ l ∧ l < m 5) ∧ (0 ≤ w ∧ w ≤ 3)) → ∀ h', mpo ad h 2 1 h' → Q (.inl (some (.inl (ii 0)))) h') (r2 : (0 ≤ l ∧ l < m 5) ∧ (0 ≤ w ∧ w ≤ 3) → ¬ (w = 0 ∨ 0 < jts (jn m one two H L l) ∧ 0 ≤ k ∧ k < (jn m one two H L l).fw) → ∀ h', mpo ad h 1 0 h' → Q (.inl (some (.inl (ii 0)))) h') : tr_C E 185 [.inr (.inr (ad 23)), .inl (ii l), .inl (ii k), .inl (ii w)] h Q := by
  refine T_X8_walk ok ?_
  have ms := m_start s.1
  have s1 := mst_q s ms.1
  have s0 := s1.1
  have v5 := v_5 v
  have bad : ¬ ((0 ≤ l ∧ l < m 5) ∧ (0 ≤ w ∧ w ≤ 3)) → tr_G E 185 Q 28 [some (.inr (.inr (ad 23))), some (.inl (ii l)), some (.inl (ii k)), some (.inl (ii w)), none] [.inl (ii 0), .inr (.inr (ad 23))] (hsI h (ad 23) 0 (ii 0)) 0 0 := by
    intro g
    refine T_X8_walk_28 ok ?_
    simp (disch := first | omega | decide | assumption | exact st_ne s0 (by decide) (by decide) (by decide) | exact dyn_ne (by assumption) (by decide) | fail) only [Int.reduceAdd, Int.reduceSub, Int.reduceNeg, ii_add, ii_sub, ii_mul, ii_lt, ii_le, ii_eq, ixn_ii, ixo_ii, rem_ii, nb_1, nb_0, nb_bb, bb_0, hI_gv, Int.toNat_of_nonneg, Int.cast_ofNat_Int, ht_sI, ht_sJ, ht_sR, hn_sI, hn_sJ, hn_sR, hR_sI, hR_sJ, kI_v, kV_v, kJ_v, true_and, and_true, forall_eq, tg, ln, rf, ne_eq, not_false_eq_true, forall_const, not_true_eq_false, false_implies, W_X8_walk_28, st_t s.1]
    refine c_fine0 ok s.1 ms (by omega) (by omega) (by omega) (by omega) (fun h' p => ?_)
    simp (disch := first | omega | decide | assumption | exact st_ne s0 (by decide) (by decide) (by decide) | exact dyn_ne (by assumption) (by decide) | fail) only [Int.reduceAdd, Int.reduceSub, Int.reduceNeg, ii_add, ii_sub, ii_mul, ii_lt, ii_le, ii_eq, ixn_ii, ixo_ii, rem_ii, nb_1, nb_0, nb_bb, bb_0, hI_gv, Int.toNat_of_nonneg, Int.cast_ofNat_Int, ht_sI, ht_sJ, ht_sR, hn_sI, hn_sJ, hn_sR, hR_sI, hR_sJ, kI_v, kV_v, kJ_v, true_and, and_true, forall_eq, tg, ln, rf, ne_eq, not_false_eq_true, forall_const, not_true_eq_false, false_implies, Int.reduceEq, Int.reduceLT, Int.reduceLE, implies_true, and_self, reduceCtorEq, false_and,]
    exact r g h' p
  simp (disch := first | omega | decide | assumption | exact st_ne s0 (by decide) (by decide) (by decide) | exact dyn_ne (by assumption) (by decide) | fail) only [Int.reduceAdd, Int.reduceSub, Int.reduceNeg, ii_add, ii_sub, ii_mul, ii_lt, ii_le, ii_eq, ixn_ii, ixo_ii, rem_ii, nb_1, nb_0, nb_bb, bb_0, hI_gv, Int.toNat_of_nonneg, Int.cast_ofNat_Int, ht_sI, ht_sJ, ht_sR, hn_sI, hn_sJ, hn_sR, hR_sI, hR_sJ, kI_v, kV_v, kJ_v, true_and, and_true, forall_eq, tg, ln, rf, ne_eq, not_false_eq_true, forall_const, not_true_eq_false, false_implies, W_X8_walk, st_t s.1]
  refine c_isLabel ok s1 v l1 l2 ?_
  simp (disch := first | omega | decide | assumption | exact st_ne s0 (by decide) (by decide) (by decide) | exact dyn_ne (by assumption) (by decide) | fail) only [Int.reduceAdd, Int.reduceSub, Int.reduceNeg, ii_add, ii_sub, ii_mul, ii_lt, ii_le, ii_eq, ixn_ii, ixo_ii, rem_ii, nb_1, nb_0, nb_bb, bb_0, hI_gv, Int.toNat_of_nonneg, Int.cast_ofNat_Int, ht_sI, ht_sJ, ht_sR, hn_sI, hn_sJ, hn_sR, hR_sI, hR_sJ, kI_v, kV_v, kJ_v, true_and, and_true, forall_eq, tg, ln, rf, ne_eq, not_false_eq_true, forall_const, not_true_eq_false, false_implies]
  refine ⟨fun g => ?_, fun g => ?_⟩
  · rw [decide_eq_false_iff_not] at g
    exact bad (fun e => g e.1)
  · rw [Bool.not_eq_false, decide_eq_true_eq] at g
    refine c_within ok w1 w2 (by omega) (by omega) (by omega) (by omega) ?_
    simp (disch := first | omega | decide | assumption | exact st_ne s0 (by decide) (by decide) (by decide) | exact dyn_ne (by assumption) (by decide) | fail) only [Int.reduceAdd, Int.reduceSub, Int.reduceNeg, ii_add, ii_sub, ii_mul, ii_lt, ii_le, ii_eq, ixn_ii, ixo_ii, rem_ii, nb_1, nb_0, nb_bb, bb_0, hI_gv, Int.toNat_of_nonneg, Int.cast_ofNat_Int, ht_sI, ht_sJ, ht_sR, hn_sI, hn_sJ, hn_sR, hR_sI, hR_sJ, kI_v, kV_v, kJ_v, true_and, and_true, forall_eq, tg, ln, rf, ne_eq, not_false_eq_true, forall_const, not_true_eq_false, false_implies]
    refine ⟨fun g2 => ?_, fun g2 => ?_⟩
    · rw [decide_eq_false_iff_not] at g2
      exact bad (fun e => g2 e.2)
    · rw [Bool.not_eq_false, decide_eq_true_eq] at g2
      refine T_X8_walk_28 ok ?_
      simp (disch := first | omega | decide | assumption | exact st_ne s0 (by decide) (by decide) (by decide) | exact dyn_ne (by assumption) (by decide) | fail) only [Int.reduceAdd, Int.reduceSub, Int.reduceNeg, ii_add, ii_sub, ii_mul, ii_lt, ii_le, ii_eq, ixn_ii, ixo_ii, rem_ii, nb_1, nb_0, nb_bb, bb_0, hI_gv, Int.toNat_of_nonneg, Int.cast_ofNat_Int, ht_sI, ht_sJ, ht_sR, hn_sI, hn_sJ, hn_sR, hR_sI, hR_sJ, kI_v, kV_v, kJ_v, true_and, and_true, forall_eq, tg, ln, rf, ne_eq, not_false_eq_true, forall_const, not_true_eq_false, false_implies, W_X8_walk_28, st_t s.1]
      refine c_fine1 ok s1.1 ms.2.1 ?_
      simp (disch := first | omega | decide | assumption | exact st_ne s0 (by decide) (by decide) (by decide) | exact dyn_ne (by assumption) (by decide) | fail) only [Int.reduceAdd, Int.reduceSub, Int.reduceNeg, ii_add, ii_sub, ii_mul, ii_lt, ii_le, ii_eq, ixn_ii, ixo_ii, rem_ii, nb_1, nb_0, nb_bb, bb_0, hI_gv, Int.toNat_of_nonneg, Int.cast_ofNat_Int, ht_sI, ht_sJ, ht_sR, hn_sI, hn_sJ, hn_sR, hR_sI, hR_sJ, kI_v, kV_v, kJ_v, true_and, and_true, forall_eq, tg, ln, rf, ne_eq, not_false_eq_true, forall_const, not_true_eq_false, false_implies, Int.reduceEq, Int.reduceLT, Int.reduceLE, implies_true, and_self, reduceCtorEq, false_and, st_t s.1]
      refine c_jointsOf ok s1 v g.1 (by omega) (fun h1 f1 ra r25 => ?_)
      have ka := jn_aok (l := l) v
      have jr := jts_rg (l := l) v
      have mp := mpo_j s.1 ms f1
      have t1 := mst_j s1 f1
      have t0 := t1.1
      have qq := q ⟨g, g2⟩
      have rr := r2 ⟨g, g2⟩
      clear q r r2 bad
      generalize jn m one two H L l = a at *
      simp (disch := first | omega | decide | assumption | exact st_ne s0 (by decide) (by decide) (by decide) | exact dyn_ne (by assumption) (by decide) | fail) only [Int.reduceAdd, Int.reduceSub, Int.reduceNeg, ii_add, ii_sub, ii_mul, ii_lt, ii_le, ii_eq, ixn_ii, ixo_ii, rem_ii, nb_1, nb_0, nb_bb, bb_0, hI_gv, Int.toNat_of_nonneg, Int.cast_ofNat_Int, ht_sI, ht_sJ, ht_sR, hn_sI, hn_sJ, hn_sR, hR_sI, hR_sJ, kI_v, kV_v, kJ_v, true_and, and_true, forall_eq, tg, ln, rf, ne_eq, not_false_eq_true, forall_const, not_true_eq_false, false_implies, st_t t0]
      by_cases gj : 0 < jts a
      · obtain ⟨o, se, ej, fk⟩ := jts_p ka gj
        obtain ⟨a1, a2, a3, a4⟩ := ra.2.2 se
        have fw := fk.1
        have nj2 : ¬ jts a = -2 := by omega
        have nj0 : ¬ jts a = 0 := by omega
        simp (disch := first | omega | decide | assumption | exact st_ne s0 (by decide) (by decide) (by decide) | exact dyn_ne (by assumption) (by decide) | fail) only [Int.reduceAdd, Int.reduceSub, Int.reduceNeg, ii_add, ii_sub, ii_mul, ii_lt, ii_le, ii_eq, ixn_ii, ixo_ii, rem_ii, nb_1, nb_0, nb_bb, bb_0, hI_gv, Int.toNat_of_nonneg, Int.cast_ofNat_Int, ht_sI, ht_sJ, ht_sR, hn_sI, hn_sJ, hn_sR, hR_sI, hR_sJ, kI_v, kV_v, kJ_v, true_and, and_true, forall_eq, tg, ln, rf, ne_eq, not_false_eq_true, forall_const, not_true_eq_false, false_implies, a1, nj2, nj0]
        refine ⟨fun e0 => ?_, fun e0 => ⟨fun e1 => by omega, fun _ => ?_⟩⟩
        · have hq := qq (Or.inl e0) h1 mp
          unfold wkS at hq
          rw [if_pos e0, if_neg nj2, if_neg nj0] at hq
          exact hq
        · have bad3 : ¬ (0 ≤ k ∧ k ≤ a.fw - 1) → tr_G E 185 Q 101 [some (.inr (.inr (ad 23))), none, some (.inl (ii k)), some (.inl (ii w)), none] [.inl (ii 0), .inr (.inr (ad 23))] h1 0 0 := by
            intro g4
            refine T_X8_walk_101 ok ?_
            simp (disch := first | omega | decide | assumption | exact st_ne s0 (by decide) (by decide) (by decide) | exact dyn_ne (by assumption) (by decide) | fail) only [Int.reduceAdd, Int.reduceSub, Int.reduceNeg, ii_add, ii_sub, ii_mul, ii_lt, ii_le, ii_eq, ixn_ii, ixo_ii, rem_ii, nb_1, nb_0, nb_bb, bb_0, hI_gv, Int.toNat_of_nonneg, Int.cast_ofNat_Int, ht_sI, ht_sJ, ht_sR, hn_sI, hn_sJ, hn_sR, hR_sI, hR_sJ, kI_v, kV_v, kJ_v, true_and, and_true, forall_eq, tg, ln, rf, ne_eq, not_false_eq_true, forall_const, not_true_eq_false, false_implies, W_X8_walk_101, st_t t0]
            refine c_fine0 ok s.1 mp (by omega) (by omega) (by omega) (by omega) (fun h' p => ?_)
            simp (disch := first | omega | decide | assumption | exact st_ne s0 (by decide) (by decide) (by decide) | exact dyn_ne (by assumption) (by decide) | fail) only [Int.reduceAdd, Int.reduceSub, Int.reduceNeg, ii_add, ii_sub, ii_mul, ii_lt, ii_le, ii_eq, ixn_ii, ixo_ii, rem_ii, nb_1, nb_0, nb_bb, bb_0, hI_gv, Int.toNat_of_nonneg, Int.cast_ofNat_Int, ht_sI, ht_sJ, ht_sR, hn_sI, hn_sJ, hn_sR, hR_sI, hR_sJ, kI_v, kV_v, kJ_v, true_and, and_true, forall_eq, tg, ln, rf, ne_eq, not_false_eq_true, forall_const, not_true_eq_false, false_implies, Int.reduceEq, Int.reduceLT, Int.reduceLE, implies_true, and_self, reduceCtorEq, false_and,]
            exact rr (by omega) h' p
          refine c_within ok k1 k2 (by omega) (by omega) (by omega) (by omega) ?_
          simp (disch := first | omega | decide | assumption | exact st_ne s0 (by decide) (by decide) (by decide) | exact dyn_ne (by assumption) (by decide) | fail) only [Int.reduceAdd, Int.reduceSub, Int.reduceNeg, ii_add, ii_sub, ii_mul, ii_lt, ii_le, ii_eq, ixn_ii, ixo_ii, rem_ii, nb_1, nb_0, nb_bb, bb_0, hI_gv, Int.toNat_of_nonneg, Int.cast_ofNat_Int, ht_sI, ht_sJ, ht_sR, hn_sI, hn_sJ, hn_sR, hR_sI, hR_sJ, kI_v, kV_v, kJ_v, true_and, and_true, forall_eq, tg, ln, rf, ne_eq, not_false_eq_true, forall_const, not_true_eq_false, false_implies]
          refine ⟨fun g4 => ?_, fun g4 => ?_⟩
          · rw [decide_eq_false_iff_not] at g4
            exact bad3 g4
          · rw [Bool.not_eq_false, decide_eq_true_eq] at g4
            have hq := qq (Or.inr ⟨gj, by omega, by omega⟩) h1 mp
            unfold wkS at hq
            rw [if_neg e0] at hq
            refine T_X8_walk_101 ok ?_
            simp (disch := first | omega | decide | assumption | exact st_ne s0 (by decide) (by decide) (by decide) | exact dyn_ne (by assumption) (by decide) | fail) only [Int.reduceAdd, Int.reduceSub, Int.reduceNeg, ii_add, ii_sub, ii_mul, ii_lt, ii_le, ii_eq, ixn_ii, ixo_ii, rem_ii, nb_1, nb_0, nb_bb, bb_0, hI_gv, Int.toNat_of_nonneg, Int.cast_ofNat_Int, ht_sI, ht_sJ, ht_sR, hn_sI, hn_sJ, hn_sR, hR_sI, hR_sJ, kI_v, kV_v, kJ_v, true_and, and_true, forall_eq, tg, ln, rf, ne_eq, not_false_eq_true, forall_const, not_true_eq_false, false_implies, W_X8_walk_101, st_t t0]
            refine c_fine1 ok t0 mp.2.1 ?_
            have x3 := a2 k (by omega) (by omega)
            have k0 : 0 ≤ k := g4.1
            simp (disch := first | omega | decide | assumption | exact st_ne s0 (by decide) (by decide) (by decide) | exact dyn_ne (by assumption) (by decide) | fail) only [Int.reduceAdd, Int.reduceSub, Int.reduceNeg, ii_add, ii_sub, ii_mul, ii_lt, ii_le, ii_eq, ixn_ii, ixo_ii, rem_ii, nb_1, nb_0, nb_bb, bb_0, hI_gv, Int.toNat_of_nonneg, Int.cast_ofNat_Int, ht_sI, ht_sJ, ht_sR, hn_sI, hn_sJ, hn_sR, hR_sI, hR_sJ, kI_v, kV_v, kJ_v, true_and, and_true, forall_eq, tg, ln, rf, ne_eq, not_false_eq_true, forall_const, not_true_eq_false, false_implies, Int.reduceEq, Int.reduceLT, Int.reduceLE, implies_true, and_self, reduceCtorEq, false_and, st_t t0, st_n t0, st_r t0, x3]
            refine ⟨fun e1 => ⟨by omega, ?_⟩, fun e1 => ⟨fun e2 => ?_, fun e2 => ?_⟩⟩
            · rw [if_pos e1] at hq; exact hq
            · rw [if_neg e1, if_pos e2] at hq
              exact c_longAt ok t0 ra fk se (by omega) (by omega) hq
            · rw [if_neg e1, if_neg e2] at hq
              exact c_lastHop ok t1 v ra fk se (by omega) (by omega) hq
      · refine ⟨fun e0 => ⟨fun e1 => ?_, fun e1 => ⟨fun e2 => ?_, fun e2 => ?_⟩⟩, fun e0 => ⟨fun _ => ?_, fun g => absurd (by omega) g⟩⟩
        · have hq := qq (Or.inl e0) h1 mp
          unfold wkS at hq
          rw [if_pos e0, if_pos e1] at hq; exact hq
        · have hq := qq (Or.inl e0) h1 mp
          unfold wkS at hq
          rw [if_pos e0, if_neg e1, if_pos e2] at hq; exact hq
        · unfold jts at gj e1 e2
          split at e1
          · omega
          · next o => rw [if_neg o] at gj e2; have := ka.2.1; omega
        · refine T_X8_walk_101 ok ?_
          simp (disch := first | omega | decide | assumption | exact st_ne s0 (by decide) (by decide) (by decide) | exact dyn_ne (by assumption) (by decide) | fail) only [Int.reduceAdd, Int.reduceSub, Int.reduceNeg, ii_add, ii_sub, ii_mul, ii_lt, ii_le, ii_eq, ixn_ii, ixo_ii, rem_ii, nb_1, nb_0, nb_bb, bb_0, hI_gv, Int.toNat_of_nonneg, Int.cast_ofNat_Int, ht_sI, ht_sJ, ht_sR, hn_sI, hn_sJ, hn_sR, hR_sI, hR_sJ, kI_v, kV_v, kJ_v, true_and, and_true, forall_eq, tg, ln, rf, ne_eq, not_false_eq_true, forall_const, not_true_eq_false, false_implies, W_X8_walk_101, st_t t0]
          refine c_fine0 ok s.1 mp (by omega) (by omega) (by omega) (by omega) (fun h' p => ?_)
          simp (disch := first | omega | decide | assumption | exact st_ne s0 (by decide) (by decide) (by decide) | exact dyn_ne (by assumption) (by decide) | fail) only [Int.reduceAdd, Int.reduceSub, Int.reduceNeg, ii_add, ii_sub, ii_mul, ii_lt, ii_le, ii_eq, ixn_ii, ixo_ii, rem_ii, nb_1, nb_0, nb_bb, bb_0, hI_gv, Int.toNat_of_nonneg, Int.cast_ofNat_Int, ht_sI, ht_sJ, ht_sR, hn_sI, hn_sJ, hn_sR, hR_sI, hR_sJ, kI_v, kV_v, kJ_v, true_and, and_true, forall_eq, tg, ln, rf, ne_eq, not_false_eq_true, forall_const, not_true_eq_false, false_implies, Int.reduceEq, Int.reduceLT, Int.reduceLE, implies_true, and_self, reduceCtorEq, false_and,]
          exact rr (by omega) h' p
end WKM
