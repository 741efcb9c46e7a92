/-! THE REFERENCE'S SMALL METHODS -/
section MOD
variable {E : tr_Env} {ad : Nat → Nat} {h : tr_H} {Q : tr_Q} {m one two : Int → Int} {H L : Int}
theorem c_of (ok : tr_ok E) (s : mst ad h m one two H L) {p w : Int} (h1 : 0 ≤ p) (h2 : p < 40) (h3 : 0 ≤ w) (h4 : w < 19) (q : Q (.inl (some (.inl (ii (fd m p w))))) h) : tr_C E 124 [.inr (.inr (ad 23)), .inl (ii p), .inl (ii w)] h Q := by
  refine T_X8_of ok ?_
  simp (disch := first | omega | decide | assumption | exact st_ne s0 (by decide) (by decide) (by decide) | exact dyn_ne (by assumption) (by decide) | fail) only [Int.reduceAdd, Int.reduceSub, Int.reduceNeg, ii_add, ii_sub, ii_mul, ii_lt, ii_le, ii_eq, ixn_ii, ixo_ii, rem_ii, nb_1, nb_0, nb_bb, bb_0, hI_gv, Int.toNat_of_nonneg, Int.cast_ofNat_Int, ht_sI, ht_sJ, ht_sR, hn_sI, hn_sJ, hn_sR, hR_sI, hR_sJ, kI_v, kV_v, kJ_v, true_and, and_true, forall_eq, tg, ln, rf, ne_eq, not_false_eq_true, forall_const, not_true_eq_false, false_implies, W_X8_of, st_t s.1, st_n s.1, st_r s.1, s.2.1]
  exact ⟨by omega, q⟩
theorem c_routeOf (ok : tr_ok E) (s : mst ad h m one two H L) {a d : Int} (h1 : 0 ≤ a) (h2 : a < 10) (h3 : 0 ≤ d) (h4 : d < 10) (q : Q (.inl (some (.inl (ii (m (6 + 10 * a + d)))))) h) : tr_C E 126 [.inr (.inr (ad 23)), .inl (ii a), .inl (ii d)] h Q := by
  refine T_X8_routeOf ok ?_
  simp (disch := first | omega | decide | assumption | exact st_ne s0 (by decide) (by decide) (by decide) | exact dyn_ne (by assumption) (by decide) | fail) only [Int.reduceAdd, Int.reduceSub, Int.reduceNeg, ii_add, ii_sub, ii_mul, ii_lt, ii_le, ii_eq, ixn_ii, ixo_ii, rem_ii, nb_1, nb_0, nb_bb, bb_0, hI_gv, Int.toNat_of_nonneg, Int.cast_ofNat_Int, ht_sI, ht_sJ, ht_sR, hn_sI, hn_sJ, hn_sR, hR_sI, hR_sJ, kI_v, kV_v, kJ_v, true_and, and_true, forall_eq, tg, ln, rf, ne_eq, not_false_eq_true, forall_const, not_true_eq_false, false_implies, W_X8_routeOf, st_t s.1, st_n s.1, st_r s.1, s.2.1]
  exact ⟨by omega, q⟩
theorem c_within (ok : tr_ok E) {a b c : Int} (h1 : -2147483648 ≤ a) (h2 : a ≤ 2147483647) (h3 : -2147483648 ≤ b) (h4 : b ≤ 2147483647) (h5 : -2147483648 ≤ c) (h6 : c ≤ 2147483647) (q : Q (.inl (some (.inl (bb (decide (b ≤ a ∧ a ≤ c)))))) h) : tr_C E 121 [.inl (ii a), .inl (ii b), .inl (ii c)] h Q := by
  refine T_X8_within ok ?_
  simp (disch := first | omega | decide | assumption | exact st_ne s0 (by decide) (by decide) (by decide) | exact dyn_ne (by assumption) (by decide) | fail) only [Int.reduceAdd, Int.reduceSub, Int.reduceNeg, ii_add, ii_sub, ii_mul, ii_lt, ii_le, ii_eq, ixn_ii, ixo_ii, rem_ii, nb_1, nb_0, nb_bb, bb_0, hI_gv, Int.toNat_of_nonneg, Int.cast_ofNat_Int, ht_sI, ht_sJ, ht_sR, hn_sI, hn_sJ, hn_sR, hR_sI, hR_sJ, kI_v, kV_v, kJ_v, true_and, and_true, forall_eq, tg, ln, rf, ne_eq, not_false_eq_true, forall_const, not_true_eq_false, false_implies, W_X8_within]
  refine ⟨fun g => ?_, fun g => ⟨fun g2 => ?_, fun g2 => ?_⟩⟩
  · rw [decide_eq_false (by omega)] at q; exact q
  · rw [decide_eq_true (by omega)] at q; exact q
  · rw [decide_eq_false (by omega)] at q; exact q
theorem c_thrown (ok : tr_ok E) (s : stat ad h) (q : Q (.inl (some (.inl (ii (gv h (ad 23) 0))))) h) : tr_C E 119 [.inr (.inr (ad 23))] h Q := by
  refine T_X8_thrown ok ?_
  simp (disch := first | omega | decide | assumption | exact st_ne s0 (by decide) (by decide) (by decide) | exact dyn_ne (by assumption) (by decide) | fail) only [Int.reduceAdd, Int.reduceSub, Int.reduceNeg, ii_add, ii_sub, ii_mul, ii_lt, ii_le, ii_eq, ixn_ii, ixo_ii, rem_ii, nb_1, nb_0, nb_bb, bb_0, hI_gv, Int.toNat_of_nonneg, Int.cast_ofNat_Int, ht_sI, ht_sJ, ht_sR, hn_sI, hn_sJ, hn_sR, hR_sI, hR_sJ, kI_v, kV_v, kJ_v, true_and, and_true, forall_eq, tg, ln, rf, ne_eq, not_false_eq_true, forall_const, not_true_eq_false, false_implies, W_X8_thrown, st_t s]
  exact q
theorem c_isCut (ok : tr_ok E) (s : mst ad h m one two H L) (v : vok m one two H L) {l : Int} (h1 : 0 ≤ l) (h2 : l < 24) (q : Q (.inl (some (.inl (bb (bt (m 0) l))))) h) : tr_C E 125 [.inr (.inr (ad 23)), .inl (ii l)] h Q := by
  refine T_X8_isCut ok ?_
  have v0 := v_0 v
  simp (disch := first | omega | decide | assumption | exact st_ne s0 (by decide) (by decide) (by decide) | exact dyn_ne (by assumption) (by decide) | fail) only [Int.reduceAdd, Int.reduceSub, Int.reduceNeg, ii_add, ii_sub, ii_mul, ii_lt, ii_le, ii_eq, ixn_ii, ixo_ii, rem_ii, nb_1, nb_0, nb_bb, bb_0, hI_gv, Int.toNat_of_nonneg, Int.cast_ofNat_Int, ht_sI, ht_sJ, ht_sR, hn_sI, hn_sJ, hn_sR, hR_sI, hR_sJ, kI_v, kV_v, kJ_v, true_and, and_true, forall_eq, tg, ln, rf, ne_eq, not_false_eq_true, forall_const, not_true_eq_false, false_implies, W_X8_isCut, st_t s.1, st_n s.1, st_r s.1, s.2.1, bt_ii]
  refine ⟨by omega, fun g => ?_, fun g => ?_⟩
  · rw [g] at q; exact q
  · rw [Bool.not_eq_true] at g; rw [g] at q; exact q
theorem c_linkAt (ok : tr_ok E) (s : mst ad h m one two H L) {p k : Int} (h1 : 0 ≤ p) (h2 : p < 40) (h3 : 0 ≤ k) (h4 : k < 12) (q : Q (.inl (some (.inl (ii (lk m p k))))) h) : tr_C E 128 [.inr (.inr (ad 23)), .inl (ii p), .inl (ii k)] h Q := by
  refine T_X8_linkAt ok ?_
  simp (disch := first | omega | decide | assumption | exact st_ne s0 (by decide) (by decide) (by decide) | exact dyn_ne (by assumption) (by decide) | fail) only [Int.reduceAdd, Int.reduceSub, Int.reduceNeg, ii_add, ii_sub, ii_mul, ii_lt, ii_le, ii_eq, ixn_ii, ixo_ii, rem_ii, nb_1, nb_0, nb_bb, bb_0, hI_gv, Int.toNat_of_nonneg, Int.cast_ofNat_Int, ht_sI, ht_sJ, ht_sR, hn_sI, hn_sJ, hn_sR, hR_sI, hR_sJ, kI_v, kV_v, kJ_v, true_and, and_true, forall_eq, tg, ln, rf, ne_eq, not_false_eq_true, forall_const, not_true_eq_false, false_implies, W_X8_linkAt, st_t s.1]
  refine c_of ok s h1 h2 (by omega) (by omega) ?_
  exact q
theorem c_hopAt (ok : tr_ok E) (s : mst ad h m one two H L) (v : vok m one two H L) {p k : Int} (h1 : 0 ≤ p) (h2 : p < m 106) (h3 : 0 ≤ k) (h4 : k ≤ fd m p 6) (q : Q (.inl (some (.inl (ii (hop m two p k))))) h) : tr_C E 129 [.inr (.inr (ad 23)), .inl (ii p), .inl (ii k)] h Q := by
  refine T_X8_hopAt ok ?_
  have vm := v_m v
  have vL := v_L v
  obtain ⟨q0, q1, q2, q3, q4, q5, q6, q7⟩ := v_p v h1 h2
  simp (disch := first | omega | decide | assumption | exact st_ne s0 (by decide) (by decide) (by decide) | exact dyn_ne (by assumption) (by decide) | fail) only [Int.reduceAdd, Int.reduceSub, Int.reduceNeg, ii_add, ii_sub, ii_mul, ii_lt, ii_le, ii_eq, ixn_ii, ixo_ii, rem_ii, nb_1, nb_0, nb_bb, bb_0, hI_gv, Int.toNat_of_nonneg, Int.cast_ofNat_Int, ht_sI, ht_sJ, ht_sR, hn_sI, hn_sJ, hn_sR, hR_sI, hR_sJ, kI_v, kV_v, kJ_v, true_and, and_true, forall_eq, tg, ln, rf, ne_eq, not_false_eq_true, forall_const, not_true_eq_false, false_implies, W_X8_hopAt, st_t s.1, st_r s.1]
  refine ⟨fun g => ?_, fun g => ?_⟩
  · refine c_of ok s h1 (by omega) (by omega) (by omega) ?_
    unfold hop at q; rw [if_pos g] at q; exact q
  · refine c_linkAt ok s h1 (by omega) (by omega) (by omega) ?_
    obtain ⟨a, b⟩ := q7 (k - 1) (by omega) (by omega)
    simp (disch := first | omega | decide | assumption | exact st_ne s0 (by decide) (by decide) (by decide) | exact dyn_ne (by assumption) (by decide) | fail) only [Int.reduceAdd, Int.reduceSub, Int.reduceNeg, ii_add, ii_sub, ii_mul, ii_lt, ii_le, ii_eq, ixn_ii, ixo_ii, rem_ii, nb_1, nb_0, nb_bb, bb_0, hI_gv, Int.toNat_of_nonneg, Int.cast_ofNat_Int, ht_sI, ht_sJ, ht_sR, hn_sI, hn_sJ, hn_sR, hR_sI, hR_sJ, kI_v, kV_v, kJ_v, true_and, and_true, forall_eq, tg, ln, rf, ne_eq, not_false_eq_true, forall_const, not_true_eq_false, false_implies, st_t s.1, st_n s.1, s.2.2.2.1]
    refine ⟨by omega, ?_⟩
    unfold hop at q; rw [if_neg g] at q; exact q
theorem c_mixed (ok : tr_ok E) {v f b : Int} (h1 : 0 ≤ v) (h2 : v < b) (h3 : 0 ≤ f) (h4 : f ≤ 10000) (h5 : 0 < b) (h6 : b ≤ 997) (q : Q (.inl (some (.inl (ii ((31 * v + f) % b))))) h) : tr_C E 130 [.inl (ii v), .inl (ii f), .inl (ii b)] h Q := by
  refine T_X8_mixed ok ?_
  simp (disch := first | omega | decide | assumption | exact st_ne s0 (by decide) (by decide) (by decide) | exact dyn_ne (by assumption) (by decide) | fail) only [Int.reduceAdd, Int.reduceSub, Int.reduceNeg, ii_add, ii_sub, ii_mul, ii_lt, ii_le, ii_eq, ixn_ii, ixo_ii, rem_ii, nb_1, nb_0, nb_bb, bb_0, hI_gv, Int.toNat_of_nonneg, Int.cast_ofNat_Int, ht_sI, ht_sJ, ht_sR, hn_sI, hn_sJ, hn_sR, hR_sI, hR_sJ, kI_v, kV_v, kJ_v, true_and, and_true, forall_eq, tg, ln, rf, ne_eq, not_false_eq_true, forall_const, not_true_eq_false, false_implies, W_X8_mixed]
  exact ⟨by omega, q⟩
theorem c_mixBy_6 (ok : tr_ok E) (s : mst ad h m one two H L) (v : vok m one two H L) {p k mk : Int} (h1 : 0 ≤ p) (h2 : p < m 106) (h3 : 0 ≤ k) (h4 : k ≤ fd m p 4) (h5 : 0 ≤ mk) (h6 : mk ≤ 31) : ∀ (n : Nat) (f a : Int), f + n = 5 → 0 ≤ f → 0 ≤ a → a < m 2 → Q (.inl (some (.inl (ii (mixL (m 2) mk (fa m p k) a f n))))) h → tr_G E 131 Q 6 [some (.inr (.inr (ad 23))), some (.inl (ii p)), some (.inl (ii k)), some (.inl (ii mk)), some (.inl (ii a)), some (.inl (ii f))] [] h 0 0
  | n, f, a, hn, g0, g1, g2, q => by
    refine T_X8_mixBy_6 ok ?_
    have vm := v_m v
    have vb := v_2 v
    have vH := v_H v
    obtain ⟨q0, q1, q2, q3, q4, q5, q6, q7⟩ := v_p v h1 h2
    simp (disch := first | omega | decide | assumption | exact st_ne s0 (by decide) (by decide) (by decide) | exact dyn_ne (by assumption) (by decide) | fail) only [Int.reduceAdd, Int.reduceSub, Int.reduceNeg, ii_add, ii_sub, ii_mul, ii_lt, ii_le, ii_eq, ixn_ii, ixo_ii, rem_ii, nb_1, nb_0, nb_bb, bb_0, hI_gv, Int.toNat_of_nonneg, Int.cast_ofNat_Int, ht_sI, ht_sJ, ht_sR, hn_sI, hn_sJ, hn_sR, hR_sI, hR_sJ, kI_v, kV_v, kJ_v, true_and, and_true, forall_eq, tg, ln, rf, ne_eq, not_false_eq_true, forall_const, not_true_eq_false, false_implies, W_X8_mixBy_6, st_t s.1, bt_ii]
    refine ⟨fun g => ?_, fun g => ?_⟩
    · obtain ⟨n, rfl⟩ : ∃ n', n = n' + 1 := ⟨n - 1, by omega⟩
      refine ⟨fun g3 => ⟨fun g4 => ?_, fun g4 => ?_⟩, fun g3 => ?_⟩
      · have hr : 0 ≤ fd m p f ∧ fd m p f ≤ 9999 := by
          rcases (by omega : f = 0 ∨ f = 1 ∨ f = 2 ∨ f = 3) with rfl | rfl | rfl | rfl <;> omega
        refine c_of ok s h1 (by omega) (by omega) (by omega) ?_
        simp (disch := first | omega | decide | assumption | exact st_ne s0 (by decide) (by decide) (by decide) | exact dyn_ne (by assumption) (by decide) | fail) only [Int.reduceAdd, Int.reduceSub, Int.reduceNeg, ii_add, ii_sub, ii_mul, ii_lt, ii_le, ii_eq, ixn_ii, ixo_ii, rem_ii, nb_1, nb_0, nb_bb, bb_0, hI_gv, Int.toNat_of_nonneg, Int.cast_ofNat_Int, ht_sI, ht_sJ, ht_sR, hn_sI, hn_sJ, hn_sR, hR_sI, hR_sJ, kI_v, kV_v, kJ_v, true_and, and_true, forall_eq, tg, ln, rf, ne_eq, not_false_eq_true, forall_const, not_true_eq_false, false_implies, st_t s.1, st_n s.1, st_r s.1, s.2.1]
        refine ⟨by omega, c_mixed ok g1 g2 (by omega) (by omega) (by omega) (by omega) ?_⟩
        simp (disch := first | omega | decide | assumption | exact st_ne s0 (by decide) (by decide) (by decide) | exact dyn_ne (by assumption) (by decide) | fail) only [Int.reduceAdd, Int.reduceSub, Int.reduceNeg, ii_add, ii_sub, ii_mul, ii_lt, ii_le, ii_eq, ixn_ii, ixo_ii, rem_ii, nb_1, nb_0, nb_bb, bb_0, hI_gv, Int.toNat_of_nonneg, Int.cast_ofNat_Int, ht_sI, ht_sJ, ht_sR, hn_sI, hn_sJ, hn_sR, hR_sI, hR_sJ, kI_v, kV_v, kJ_v, true_and, and_true, forall_eq, tg, ln, rf, ne_eq, not_false_eq_true, forall_const, not_true_eq_false, false_implies]
        refine c_mixBy_6 ok s v h1 h2 h3 h4 h5 h6 n (f + 1) _ (by omega) (by omega) (Int.emod_nonneg _ (by omega)) (Int.emod_lt_of_pos _ (by omega)) ?_
        unfold mixL at q
        rw [if_pos g3] at q
        unfold fa at q ⊢
        rw [if_pos g4] at q
        exact q
      · refine c_of ok s h1 (by omega) (by omega) (by omega) ?_
        simp (disch := first | omega | decide | assumption | exact st_ne s0 (by decide) (by decide) (by decide) | exact dyn_ne (by assumption) (by decide) | fail) only [Int.reduceAdd, Int.reduceSub, Int.reduceNeg, ii_add, ii_sub, ii_mul, ii_lt, ii_le, ii_eq, ixn_ii, ixo_ii, rem_ii, nb_1, nb_0, nb_bb, bb_0, hI_gv, Int.toNat_of_nonneg, Int.cast_ofNat_Int, ht_sI, ht_sJ, ht_sR, hn_sI, hn_sJ, hn_sR, hR_sI, hR_sJ, kI_v, kV_v, kJ_v, true_and, and_true, forall_eq, tg, ln, rf, ne_eq, not_false_eq_true, forall_const, not_true_eq_false, false_implies, st_t s.1, st_n s.1, st_r s.1, s.2.1]
        refine ⟨by omega, c_mixed ok g1 g2 (by omega) (by omega) (by omega) (by omega) ?_⟩
        simp (disch := first | omega | decide | assumption | exact st_ne s0 (by decide) (by decide) (by decide) | exact dyn_ne (by assumption) (by decide) | fail) only [Int.reduceAdd, Int.reduceSub, Int.reduceNeg, ii_add, ii_sub, ii_mul, ii_lt, ii_le, ii_eq, ixn_ii, ixo_ii, rem_ii, nb_1, nb_0, nb_bb, bb_0, hI_gv, Int.toNat_of_nonneg, Int.cast_ofNat_Int, ht_sI, ht_sJ, ht_sR, hn_sI, hn_sJ, hn_sR, hR_sI, hR_sJ, kI_v, kV_v, kJ_v, true_and, and_true, forall_eq, tg, ln, rf, ne_eq, not_false_eq_true, forall_const, not_true_eq_false, false_implies]
        refine c_mixBy_6 ok s v h1 h2 h3 h4 h5 h6 n (f + 1) _ (by omega) (by omega) (Int.emod_nonneg _ (by omega)) (Int.emod_lt_of_pos _ (by omega)) ?_
        unfold mixL at q
        rw [if_pos g3] at q
        unfold fa at q ⊢
        rw [if_neg g4] at q
        exact q
      · refine c_mixBy_6 ok s v h1 h2 h3 h4 h5 h6 n (f + 1) _ (by omega) (by omega) g1 g2 ?_
        unfold mixL at q
        rw [if_neg g3] at q
        exact q
    · obtain rfl : n = 0 := by omega
      exact q
theorem c_mixBy (ok : tr_ok E) (s : mst ad h m one two H L) (v : vok m one two H L) {p k mk : Int} (h1 : 0 ≤ p) (h2 : p < m 106) (h3 : 0 ≤ k) (h4 : k ≤ fd m p 4) (h5 : 0 ≤ mk) (h6 : mk ≤ 31) (q : Q (.inl (some (.inl (ii (mixB m p k mk))))) h) : tr_C E 131 [.inr (.inr (ad 23)), .inl (ii p), .inl (ii k), .inl (ii mk)] h Q := by
  refine T_X8_mixBy ok ?_
  exact c_mixBy_6 ok s v h1 h2 h3 h4 h5 h6 5 0 0 (by omega) (by omega) (by omega) (by have := v_2 v; omega) q
theorem c_mixAt (ok : tr_ok E) (s : mst ad h m one two H L) (v : vok m one two H L) {p k : Int} (h1 : 0 ≤ p) (h2 : p < m 106) (h3 : 0 ≤ k) (h4 : k ≤ fd m p 4) (q : Q (.inl (some (.inl (ii (mixA m p k))))) h) : tr_C E 132 [.inr (.inr (ad 23)), .inl (ii p), .inl (ii k)] h Q := by
  refine T_X8_mixAt ok ?_
  have v1 := v_1 v
  have v2 := v_2 v
  have v4 := v_4 v
  have vx := mixB_rg (p := p) (k := k) v (m 1)
  simp (disch := first | omega | decide | assumption | exact st_ne s0 (by decide) (by decide) (by decide) | exact dyn_ne (by assumption) (by decide) | fail) only [Int.reduceAdd, Int.reduceSub, Int.reduceNeg, ii_add, ii_sub, ii_mul, ii_lt, ii_le, ii_eq, ixn_ii, ixo_ii, rem_ii, nb_1, nb_0, nb_bb, bb_0, hI_gv, Int.toNat_of_nonneg, Int.cast_ofNat_Int, ht_sI, ht_sJ, ht_sR, hn_sI, hn_sJ, hn_sR, hR_sI, hR_sJ, kI_v, kV_v, kJ_v, true_and, and_true, forall_eq, tg, ln, rf, ne_eq, not_false_eq_true, forall_const, not_true_eq_false, false_implies, W_X8_mixAt, st_t s.1, st_n s.1, st_r s.1, s.2.1]
  refine ⟨by omega, c_mixBy ok s v h1 h2 h3 h4 (by omega) (by omega) ?_⟩
  simp (disch := first | omega | decide | assumption | exact st_ne s0 (by decide) (by decide) (by decide) | exact dyn_ne (by assumption) (by decide) | fail) only [Int.reduceAdd, Int.reduceSub, Int.reduceNeg, ii_add, ii_sub, ii_mul, ii_lt, ii_le, ii_eq, ixn_ii, ixo_ii, rem_ii, nb_1, nb_0, nb_bb, bb_0, hI_gv, Int.toNat_of_nonneg, Int.cast_ofNat_Int, ht_sI, ht_sJ, ht_sR, hn_sI, hn_sJ, hn_sR, hR_sI, hR_sJ, kI_v, kV_v, kJ_v, true_and, and_true, forall_eq, tg, ln, rf, ne_eq, not_false_eq_true, forall_const, not_true_eq_false, false_implies, st_t s.1, st_n s.1, st_r s.1, s.2.1]
  exact ⟨by omega, by omega, by omega, q⟩
theorem c_isChosen (ok : tr_ok E) (s : mst ad h m one two H L) (v : vok m one two H L) {p k : Int} (h1 : 0 ≤ p) (h2 : p < m 106) (h3 : 0 ≤ k) (h4 : k ≤ fd m p 4) (q : Q (.inl (some (.inl (bb (chs m p k))))) h) : tr_C E 133 [.inr (.inr (ad 23)), .inl (ii p), .inl (ii k)] h Q := by
  refine T_X8_isChosen ok ?_
  have v2 := v_2 v
  have v3 := v_3 v
  have vx := mixA_rg (p := p) (k := k) v
  simp (disch := first | omega | decide | assumption | exact st_ne s0 (by decide) (by decide) (by decide) | exact dyn_ne (by assumption) (by decide) | fail) only [Int.reduceAdd, Int.reduceSub, Int.reduceNeg, ii_add, ii_sub, ii_mul, ii_lt, ii_le, ii_eq, ixn_ii, ixo_ii, rem_ii, nb_1, nb_0, nb_bb, bb_0, hI_gv, Int.toNat_of_nonneg, Int.cast_ofNat_Int, ht_sI, ht_sJ, ht_sR, hn_sI, hn_sJ, hn_sR, hR_sI, hR_sJ, kI_v, kV_v, kJ_v, true_and, and_true, forall_eq, tg, ln, rf, ne_eq, not_false_eq_true, forall_const, not_true_eq_false, false_implies, W_X8_isChosen, st_t s.1]
  refine c_mixAt ok s v h1 h2 h3 h4 ?_
  simp (disch := first | omega | decide | assumption | exact st_ne s0 (by decide) (by decide) (by decide) | exact dyn_ne (by assumption) (by decide) | fail) only [Int.reduceAdd, Int.reduceSub, Int.reduceNeg, ii_add, ii_sub, ii_mul, ii_lt, ii_le, ii_eq, ixn_ii, ixo_ii, rem_ii, nb_1, nb_0, nb_bb, bb_0, hI_gv, Int.toNat_of_nonneg, Int.cast_ofNat_Int, ht_sI, ht_sJ, ht_sR, hn_sI, hn_sJ, hn_sR, hR_sI, hR_sJ, kI_v, kV_v, kJ_v, true_and, and_true, forall_eq, tg, ln, rf, ne_eq, not_false_eq_true, forall_const, not_true_eq_false, false_implies, st_t s.1, st_n s.1, st_r s.1, s.2.1]
  unfold chs at q
  refine ⟨by omega, fun g => ?_, fun g => ?_⟩
  · rw [decide_eq_true g] at q; exact q
  · rw [decide_eq_false g] at q; exact q
theorem c_hashOf_4 (ok : tr_ok E) (s : mst ad h m one two H L) (v : vok m one two H L) {p : Int} (h1 : 0 ≤ p) (h2 : p < m 106) : ∀ (n : Nat) (f a : Int), f + n = 4 → 0 ≤ f → 0 ≤ a → a < 9973 → Q (.inl (some (.inl (ii (hshL (fd m p) a f n))))) h → tr_G E 134 Q 4 [some (.inr (.inr (ad 23))), some (.inl (ii p)), some (.inl (ii a)), some (.inl (ii f))] [] h 0 0
  | n, f, a, hn, g0, g1, g2, q => by
    refine T_X8_hashOf_4 ok ?_
    have vm := v_m v
    obtain ⟨q0, q1, q2, q3, q4, q5, q6, q7⟩ := v_p v h1 h2
    have vH := v_H v
    simp (disch := first | omega | decide | assumption | exact st_ne s0 (by decide) (by decide) (by decide) | exact dyn_ne (by assumption) (by decide) | fail) only [Int.reduceAdd, Int.reduceSub, Int.reduceNeg, ii_add, ii_sub, ii_mul, ii_lt, ii_le, ii_eq, ixn_ii, ixo_ii, rem_ii, nb_1, nb_0, nb_bb, bb_0, hI_gv, Int.toNat_of_nonneg, Int.cast_ofNat_Int, ht_sI, ht_sJ, ht_sR, hn_sI, hn_sJ, hn_sR, hR_sI, hR_sJ, kI_v, kV_v, kJ_v, true_and, and_true, forall_eq, tg, ln, rf, ne_eq, not_false_eq_true, forall_const, not_true_eq_false, false_implies, W_X8_hashOf_4, st_t s.1]
    refine ⟨fun g => ?_, fun g => ?_⟩
    · obtain ⟨n, rfl⟩ : ∃ n', n = n' + 1 := ⟨n - 1, by omega⟩
      have hr : 0 ≤ fd m p f ∧ fd m p f ≤ 9999 := by
        rcases (by omega : f = 0 ∨ f = 1 ∨ f = 2 ∨ f = 3) with rfl | rfl | rfl | rfl <;> omega
      refine c_of ok s h1 (by omega) (by omega) (by omega) ?_
      simp (disch := first | omega | decide | assumption | exact st_ne s0 (by decide) (by decide) (by decide) | exact dyn_ne (by assumption) (by decide) | fail) only [Int.reduceAdd, Int.reduceSub, Int.reduceNeg, ii_add, ii_sub, ii_mul, ii_lt, ii_le, ii_eq, ixn_ii, ixo_ii, rem_ii, nb_1, nb_0, nb_bb, bb_0, hI_gv, Int.toNat_of_nonneg, Int.cast_ofNat_Int, ht_sI, ht_sJ, ht_sR, hn_sI, hn_sJ, hn_sR, hR_sI, hR_sJ, kI_v, kV_v, kJ_v, true_and, and_true, forall_eq, tg, ln, rf, ne_eq, not_false_eq_true, forall_const, not_true_eq_false, false_implies]
      refine ⟨by omega, ?_⟩
      exact c_hashOf_4 ok s v h1 h2 n (f + 1) _ (by omega) (by omega) (Int.emod_nonneg _ (by omega)) (Int.emod_lt_of_pos _ (by omega)) q
    · obtain rfl : n = 0 := by omega
      exact q
theorem c_hashOf (ok : tr_ok E) (s : mst ad h m one two H L) (v : vok m one two H L) {p : Int} (h1 : 0 ≤ p) (h2 : p < m 106) (q : Q (.inl (some (.inl (ii (hsh m p))))) h) : tr_C E 134 [.inr (.inr (ad 23)), .inl (ii p)] h Q := by
  refine T_X8_hashOf ok ?_
  exact c_hashOf_4 ok s v h1 h2 4 0 0 (by omega) (by omega) (by omega) (by omega) q
theorem c_labelOf (ok : tr_ok E) (s : mst ad h m one two H L) (v : vok m one two H L) {p : Int} (h1 : 0 ≤ p) (h2 : p < m 106) (q : Q (.inl (some (.inl (ii (lab m p))))) h) : tr_C E 135 [.inr (.inr (ad 23)), .inl (ii p)] h Q := by
  refine T_X8_labelOf ok ?_
  have v5 := v_5 v
  have vx := hsh_rg (m := m) (p := p)
  simp (disch := first | omega | decide | assumption | exact st_ne s0 (by decide) (by decide) (by decide) | exact dyn_ne (by assumption) (by decide) | fail) only [Int.reduceAdd, Int.reduceSub, Int.reduceNeg, ii_add, ii_sub, ii_mul, ii_lt, ii_le, ii_eq, ixn_ii, ixo_ii, rem_ii, nb_1, nb_0, nb_bb, bb_0, hI_gv, Int.toNat_of_nonneg, Int.cast_ofNat_Int, ht_sI, ht_sJ, ht_sR, hn_sI, hn_sJ, hn_sR, hR_sI, hR_sJ, kI_v, kV_v, kJ_v, true_and, and_true, forall_eq, tg, ln, rf, ne_eq, not_false_eq_true, forall_const, not_true_eq_false, false_implies, W_X8_labelOf, st_t s.1]
  refine c_hashOf ok s v h1 h2 ?_
  simp (disch := first | omega | decide | assumption | exact st_ne s0 (by decide) (by decide) (by decide) | exact dyn_ne (by assumption) (by decide) | fail) only [Int.reduceAdd, Int.reduceSub, Int.reduceNeg, ii_add, ii_sub, ii_mul, ii_lt, ii_le, ii_eq, ixn_ii, ixo_ii, rem_ii, nb_1, nb_0, nb_bb, bb_0, hI_gv, Int.toNat_of_nonneg, Int.cast_ofNat_Int, ht_sI, ht_sJ, ht_sR, hn_sI, hn_sJ, hn_sR, hR_sI, hR_sJ, kI_v, kV_v, kJ_v, true_and, and_true, forall_eq, tg, ln, rf, ne_eq, not_false_eq_true, forall_const, not_true_eq_false, false_implies, st_t s.1, st_n s.1, st_r s.1, s.2.1]
  exact ⟨by omega, by omega, q⟩
theorem c_isHop (ok : tr_ok E) (s : mst ad h m one two H L) (v : vok m one two H L) {a : Int} (h1 : -2147483648 ≤ a) (h2 : a ≤ 2147483647) (q : Q (.inl (some (.inl (bb (decide (0 ≤ a ∧ a < H)))))) h) : tr_C E 154 [.inr (.inr (ad 23)), .inl (ii a)] h Q := by
  refine T_X8_isHop ok ?_
  have vH := v_H v
  simp (disch := first | omega | decide | assumption | exact st_ne s0 (by decide) (by decide) (by decide) | exact dyn_ne (by assumption) (by decide) | fail) only [Int.reduceAdd, Int.reduceSub, Int.reduceNeg, ii_add, ii_sub, ii_mul, ii_lt, ii_le, ii_eq, ixn_ii, ixo_ii, rem_ii, nb_1, nb_0, nb_bb, bb_0, hI_gv, Int.toNat_of_nonneg, Int.cast_ofNat_Int, ht_sI, ht_sJ, ht_sR, hn_sI, hn_sJ, hn_sR, hR_sI, hR_sJ, kI_v, kV_v, kJ_v, true_and, and_true, forall_eq, tg, ln, rf, ne_eq, not_false_eq_true, forall_const, not_true_eq_false, false_implies, W_X8_isHop, st_t s.1, s.2.2.2.2.1]
  refine c_within ok (by omega) (by omega) (by omega) (by omega) (by omega) (by omega) ?_
  simp (disch := first | omega | decide | assumption | exact st_ne s0 (by decide) (by decide) (by decide) | exact dyn_ne (by assumption) (by decide) | fail) only [Int.reduceAdd, Int.reduceSub, Int.reduceNeg, ii_add, ii_sub, ii_mul, ii_lt, ii_le, ii_eq, ixn_ii, ixo_ii, rem_ii, nb_1, nb_0, nb_bb, bb_0, hI_gv, Int.toNat_of_nonneg, Int.cast_ofNat_Int, ht_sI, ht_sJ, ht_sR, hn_sI, hn_sJ, hn_sR, hR_sI, hR_sJ, kI_v, kV_v, kJ_v, true_and, and_true, forall_eq, tg, ln, rf, ne_eq, not_false_eq_true, forall_const, not_true_eq_false, false_implies]
  have e : (0 ≤ a ∧ a ≤ H - 1) = (0 ≤ a ∧ a < H) := by apply propext; omega
  rw [decide_eq_decide.mpr (iff_of_eq e)]
  exact q
theorem c_isLink (ok : tr_ok E) (s : mst ad h m one two H L) (v : vok m one two H L) {a : Int} (h1 : -2147483648 ≤ a) (h2 : a ≤ 2147483647) (q : Q (.inl (some (.inl (bb (decide (0 ≤ a ∧ a < L)))))) h) : tr_C E 155 [.inr (.inr (ad 23)), .inl (ii a)] h Q := by
  refine T_X8_isLink ok ?_
  have vH := v_L v
  simp (disch := first | omega | decide | assumption | exact st_ne s0 (by decide) (by decide) (by decide) | exact dyn_ne (by assumption) (by decide) | fail) only [Int.reduceAdd, Int.reduceSub, Int.reduceNeg, ii_add, ii_sub, ii_mul, ii_lt, ii_le, ii_eq, ixn_ii, ixo_ii, rem_ii, nb_1, nb_0, nb_bb, bb_0, hI_gv, Int.toNat_of_nonneg, Int.cast_ofNat_Int, ht_sI, ht_sJ, ht_sR, hn_sI, hn_sJ, hn_sR, hR_sI, hR_sJ, kI_v, kV_v, kJ_v, true_and, and_true, forall_eq, tg, ln, rf, ne_eq, not_false_eq_true, forall_const, not_true_eq_false, false_implies, W_X8_isLink, st_t s.1, s.2.2.2.2.2]
  refine c_within ok (by omega) (by omega) (by omega) (by omega) (by omega) (by omega) ?_
  simp (disch := first | omega | decide | assumption | exact st_ne s0 (by decide) (by decide) (by decide) | exact dyn_ne (by assumption) (by decide) | fail) only [Int.reduceAdd, Int.reduceSub, Int.reduceNeg, ii_add, ii_sub, ii_mul, ii_lt, ii_le, ii_eq, ixn_ii, ixo_ii, rem_ii, nb_1, nb_0, nb_bb, bb_0, hI_gv, Int.toNat_of_nonneg, Int.cast_ofNat_Int, ht_sI, ht_sJ, ht_sR, hn_sI, hn_sJ, hn_sR, hR_sI, hR_sJ, kI_v, kV_v, kJ_v, true_and, and_true, forall_eq, tg, ln, rf, ne_eq, not_false_eq_true, forall_const, not_true_eq_false, false_implies]
  have e : (0 ≤ a ∧ a ≤ L - 1) = (0 ≤ a ∧ a < L) := by apply propext; omega
  rw [decide_eq_decide.mpr (iff_of_eq e)]
  exact q
theorem c_isPacket (ok : tr_ok E) (s : mst ad h m one two H L) (v : vok m one two H L) {a : Int} (h1 : -2147483648 ≤ a) (h2 : a ≤ 2147483647) (q : Q (.inl (some (.inl (bb (decide (0 ≤ a ∧ a < m 106)))))) h) : tr_C E 169 [.inr (.inr (ad 23)), .inl (ii a)] h Q := by
  refine T_X8_isPacket ok ?_
  have vH := v_m v
  simp (disch := first | omega | decide | assumption | exact st_ne s0 (by decide) (by decide) (by decide) | exact dyn_ne (by assumption) (by decide) | fail) only [Int.reduceAdd, Int.reduceSub, Int.reduceNeg, ii_add, ii_sub, ii_mul, ii_lt, ii_le, ii_eq, ixn_ii, ixo_ii, rem_ii, nb_1, nb_0, nb_bb, bb_0, hI_gv, Int.toNat_of_nonneg, Int.cast_ofNat_Int, ht_sI, ht_sJ, ht_sR, hn_sI, hn_sJ, hn_sR, hR_sI, hR_sJ, kI_v, kV_v, kJ_v, true_and, and_true, forall_eq, tg, ln, rf, ne_eq, not_false_eq_true, forall_const, not_true_eq_false, false_implies, W_X8_isPacket, st_t s.1, st_n s.1, st_r s.1, s.2.1]
  refine ⟨by omega, c_within ok (by omega) (by omega) (by omega) (by omega) (by omega) (by omega) ?_⟩
  simp (disch := first | omega | decide | assumption | exact st_ne s0 (by decide) (by decide) (by decide) | exact dyn_ne (by assumption) (by decide) | fail) only [Int.reduceAdd, Int.reduceSub, Int.reduceNeg, ii_add, ii_sub, ii_mul, ii_lt, ii_le, ii_eq, ixn_ii, ixo_ii, rem_ii, nb_1, nb_0, nb_bb, bb_0, hI_gv, Int.toNat_of_nonneg, Int.cast_ofNat_Int, ht_sI, ht_sJ, ht_sR, hn_sI, hn_sJ, hn_sR, hR_sI, hR_sJ, kI_v, kV_v, kJ_v, true_and, and_true, forall_eq, tg, ln, rf, ne_eq, not_false_eq_true, forall_const, not_true_eq_false, false_implies]
  have e : (0 ≤ a ∧ a ≤ m 106 - 1) = (0 ≤ a ∧ a < m 106) := by apply propext; omega
  rw [decide_eq_decide.mpr (iff_of_eq e)]
  exact q
theorem c_isLabel (ok : tr_ok E) (s : mst ad h m one two H L) (v : vok m one two H L) {a : Int} (h1 : -2147483648 ≤ a) (h2 : a ≤ 2147483647) (q : Q (.inl (some (.inl (bb (decide (0 ≤ a ∧ a < m 5)))))) h) : tr_C E 181 [.inr (.inr (ad 23)), .inl (ii a)] h Q := by
  refine T_X8_isLabel ok ?_
  have vH := v_5 v
  simp (disch := first | omega | decide | assumption | exact st_ne s0 (by decide) (by decide) (by decide) | exact dyn_ne (by assumption) (by decide) | fail) only [Int.reduceAdd, Int.reduceSub, Int.reduceNeg, ii_add, ii_sub, ii_mul, ii_lt, ii_le, ii_eq, ixn_ii, ixo_ii, rem_ii, nb_1, nb_0, nb_bb, bb_0, hI_gv, Int.toNat_of_nonneg, Int.cast_ofNat_Int, ht_sI, ht_sJ, ht_sR, hn_sI, hn_sJ, hn_sR, hR_sI, hR_sJ, kI_v, kV_v, kJ_v, true_and, and_true, forall_eq, tg, ln, rf, ne_eq, not_false_eq_true, forall_const, not_true_eq_false, false_implies, W_X8_isLabel, st_t s.1, st_n s.1, st_r s.1, s.2.1]
  refine ⟨by omega, c_within ok (by omega) (by omega) (by omega) (by omega) (by omega) (by omega) ?_⟩
  simp (disch := first | omega | decide | assumption | exact st_ne s0 (by decide) (by decide) (by decide) | exact dyn_ne (by assumption) (by decide) | fail) only [Int.reduceAdd, Int.reduceSub, Int.reduceNeg, ii_add, ii_sub, ii_mul, ii_lt, ii_le, ii_eq, ixn_ii, ixo_ii, rem_ii, nb_1, nb_0, nb_bb, bb_0, hI_gv, Int.toNat_of_nonneg, Int.cast_ofNat_Int, ht_sI, ht_sJ, ht_sR, hn_sI, hn_sJ, hn_sR, hR_sI, hR_sJ, kI_v, kV_v, kJ_v, true_and, and_true, forall_eq, tg, ln, rf, ne_eq, not_false_eq_true, forall_const, not_true_eq_false, false_implies]
  have e : (0 ≤ a ∧ a ≤ m 5 - 1) = (0 ≤ a ∧ a < m 5) := by apply propext; omega
  rw [decide_eq_decide.mpr (iff_of_eq e)]
  exact q
end MOD
