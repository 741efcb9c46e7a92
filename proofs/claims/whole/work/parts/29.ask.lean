/-! ASKING: the questions that need no joining, of the class and of the reference -/
def pM (i : Nat) : Bool := Nat.beq i 24 || (Nat.ble 34 i && Nat.ble i 41)
def fM (z : Int) : Bool := decide (z = 0) || (decide (z = 25) || (decide (32 ≤ z) && decide (z ≤ 36)))
theorem pM_lt (j : Nat) (h : pM j = true) : j < 42 := by
  unfold pM at h
  simp only [Bool.or_eq_true, Bool.and_eq_true, Nat.ble_eq, Nat.beq_eq] at h
  omega
theorem mst_q {ad : Nat → Nat} {h h' : tr_H} {m one two : Int → Int} {H L : Int} (s : mst ad h m one two H L) (a : fr ad pM fM false h h') : mst ad h' m one two H L := mst_fr s a pM_lt rfl rfl rfl rfl rfl rfl
/-- what the reference says of a refusal: the code c, the reason k; 0 : none -/
def mpo (ad : Nat → Nat) (h : tr_H) (c k : Int) (h' : tr_H) : Prop := fr ad pM fM false h h' ∧ gv h' (ad 23) 0 = c ∧ gv h' (ad 24) = if c = 0 then gv h (ad 24) else ud (gv h (ad 24)) k (ii (gv h (ad 24) k + 1)).toInt
section ASK
variable {E : tr_Env} {ad : Nat → Nat} {h : tr_H} {Q : tr_Q} {m one two : Int → Int} {H L : Int}
theorem m_start (s : stat ad h) : mpo ad h 0 0 (hsI h (ad 23) 0 (ii 0)) := by
  refine ⟨fr_sFs rfl, ?_, ?_⟩
  · rw [gv_sIi (by decide) (by decide)]; exact ud_eq _ _ _
  · rw [gv_sIn (st_ne s (by decide) (by decide) (by decide))]; rfl
theorem c_fine1 (ok : tr_ok E) (s0 : stat ad h) {c k : Int} (t0 : gv h (ad 23) 0 = 0) (q : Q (.inl (some (.inl (ii 1)))) h) : tr_C E 120 [.inr (.inr (ad 23)), .inl (ii 1), .inl (ii c), .inl (ii k)] h Q := by
  refine T_X8_isFine ok ?_
  simp (disch := first | omega | decide | assumption | exact st_ne s0 (by decide) (by decide) (by decide) | exact dyn_ne (by assumption) (by decide) | fail) only [Int.reduceAdd, Int.reduceSub, Int.reduceNeg, ii_add, ii_sub, ii_mul, ii_lt, ii_le, ii_eq, ixn_ii, ixo_ii, rem_ii, nb_1, nb_0, nb_bb, bb_0, hI_gv, Int.toNat_of_nonneg, Int.cast_ofNat_Int, ht_sI, ht_sJ, ht_sR, hn_sI, hn_sJ, hn_sR, hR_sI, hR_sJ, kI_v, kV_v, kJ_v, true_and, and_true, forall_eq, tg, ln, rf, ne_eq, not_false_eq_true, forall_const, not_true_eq_false, false_implies, Int.reduceEq, Int.reduceLT, Int.reduceLE, implies_true, and_self, reduceCtorEq, false_and, W_X8_isFine, st_t s0, st_n s0, st_r s0, t0]
  exact q
theorem c_fine0 (ok : tr_ok E) {h0 : tr_H} (s : stat ad h0) (p : mpo ad h0 0 0 h) {c k : Int} (c1 : 1 ≤ c) (c2 : c ≤ 2) (k1 : 0 ≤ k) (k2 : k ≤ 2) (q : ∀ h', mpo ad h0 c k h' → Q (.inl (some (.inl (ii 0)))) h') : tr_C E 120 [.inr (.inr (ad 23)), .inl (ii 0), .inl (ii c), .inl (ii k)] h Q := by
  refine T_X8_isFine ok ?_
  obtain ⟨p1, p2, p3⟩ := p
  have s0 := st_fr s p1
  rw [if_pos rfl] at p3
  simp (disch := first | omega | decide | assumption | exact st_ne s0 (by decide) (by decide) (by decide) | exact dyn_ne (by assumption) (by decide) | fail) only [Int.reduceAdd, Int.reduceSub, Int.reduceNeg, ii_add, ii_sub, ii_mul, ii_lt, ii_le, ii_eq, ixn_ii, ixo_ii, rem_ii, nb_1, nb_0, nb_bb, bb_0, hI_gv, Int.toNat_of_nonneg, Int.cast_ofNat_Int, ht_sI, ht_sJ, ht_sR, hn_sI, hn_sJ, hn_sR, hR_sI, hR_sJ, kI_v, kV_v, kJ_v, true_and, and_true, forall_eq, tg, ln, rf, ne_eq, not_false_eq_true, forall_const, not_true_eq_false, false_implies, Int.reduceEq, Int.reduceLT, Int.reduceLE, implies_true, and_self, reduceCtorEq, false_and, W_X8_isFine, st_t s0, st_n s0, st_r s0, p2, gv_sIn, gv_sIi, ud_eq]
  refine ⟨by omega, by omega, fun g => by omega, fun g => ?_⟩
  refine q _ ⟨fr_sI (fr_sF p1 rfl) rfl, ?_, ?_⟩
  · simp (disch := first | omega | decide | assumption | exact st_ne s0 (by decide) (by decide) (by decide) | exact dyn_ne (by assumption) (by decide) | fail) only [Int.reduceAdd, Int.reduceSub, Int.reduceNeg, ii_add, ii_sub, ii_mul, ii_lt, ii_le, ii_eq, ixn_ii, ixo_ii, rem_ii, nb_1, nb_0, nb_bb, bb_0, hI_gv, Int.toNat_of_nonneg, Int.cast_ofNat_Int, ht_sI, ht_sJ, ht_sR, hn_sI, hn_sJ, hn_sR, hR_sI, hR_sJ, kI_v, kV_v, kJ_v, true_and, and_true, forall_eq, tg, ln, rf, ne_eq, not_false_eq_true, forall_const, not_true_eq_false, false_implies, gv_sIn, gv_sIi, ud_eq]
  · rw [gv_sI, gv_sIn (st_ne s0 (by decide) (by decide) (by decide)), p3, if_neg (by omega), Int.toNat_of_nonneg k1]
theorem c_fineb (ok : tr_ok E) {h0 : tr_H} (s : stat ad h0) (p : mpo ad h0 0 0 h) {b : Bool} {c k : Int} (c1 : 1 ≤ c) (c2 : c ≤ 2) (k1 : 0 ≤ k) (k2 : k ≤ 2) (q : b = true → Q (.inl (some (.inl (ii 1)))) h) (r : b = false → ∀ h', mpo ad h0 c k h' → Q (.inl (some (.inl (ii 0)))) h') : tr_C E 120 [.inr (.inr (ad 23)), .inl (bb b), .inl (ii c), .inl (ii k)] h Q := by
  cases b
  · exact c_fine0 ok s p c1 c2 k1 k2 (r rfl)
  · exact c_fine1 ok (st_fr s p.1) p.2.1 (q rfl)
/-- fates -/
theorem K_fates (ok : tr_ok E) (c : kst ad h m one two H L) (v : vok m one two H L) {f : Int} (h3 : -2147483648 ≤ f) (h4 : f ≤ 2147483647) (q : 0 ≤ f ∧ f ≤ 3 → Q (.inl (some (.inl (ii (cfa m f))))) h) (r : ¬ (0 ≤ f ∧ f ≤ 3) → Q (.inr 1) (rfz ad h 1)) : tr_C E 95 [.inr (.inr (ad 1)), .inl (ii f)] h Q := by
  refine T_X7_fates ok ?_
  have s0 := c.1
  simp (disch := first | omega | decide | assumption | exact st_ne s0 (by decide) (by decide) (by decide) | exact dyn_ne (by assumption) (by decide) | fail) only [Int.reduceAdd, Int.reduceSub, Int.reduceNeg, ii_add, ii_sub, ii_mul, ii_lt, ii_le, ii_eq, ixn_ii, ixo_ii, rem_ii, nb_1, nb_0, nb_bb, bb_0, hI_gv, Int.toNat_of_nonneg, Int.cast_ofNat_Int, ht_sI, ht_sJ, ht_sR, hn_sI, hn_sJ, hn_sR, hR_sI, hR_sJ, kI_v, kV_v, kJ_v, true_and, and_true, forall_eq, tg, ln, rf, ne_eq, not_false_eq_true, forall_const, not_true_eq_false, false_implies, W_X7_fates, st_t s0]
  refine ⟨fun g => k_req0 ok s0 (r (by omega)), fun g => ⟨fun g2 => k_req1 ok ?_, fun g2 => k_req0 ok s0 (r (by omega))⟩⟩
  simp (disch := first | omega | decide | assumption | exact st_ne s0 (by decide) (by decide) (by decide) | exact dyn_ne (by assumption) (by decide) | fail) only [Int.reduceAdd, Int.reduceSub, Int.reduceNeg, ii_add, ii_sub, ii_mul, ii_lt, ii_le, ii_eq, ixn_ii, ixo_ii, rem_ii, nb_1, nb_0, nb_bb, bb_0, hI_gv, Int.toNat_of_nonneg, Int.cast_ofNat_Int, ht_sI, ht_sJ, ht_sR, hn_sI, hn_sJ, hn_sR, hR_sI, hR_sJ, kI_v, kV_v, kJ_v, true_and, and_true, forall_eq, tg, ln, rf, ne_eq, not_false_eq_true, forall_const, not_true_eq_false, false_implies, st_t s0, c.2.1]
  exact k_countFates ok c.2 v (by omega) (by omega) (q (by omega))
theorem c_fates_26 (ok : tr_ok E) (s : mst ad h m one two H L) (v : vok m one two H L) {f : Int} (h1 : 0 ≤ f) (h2 : f ≤ 3) : ∀ (n : Nat) (i a : Int), i + n = m 106 → 0 ≤ i → 0 ≤ a → a ≤ i → Q (.inl (some (.inl (ii (a + sm (fun p => b2 (decide (fd m p 5 = f))) i n))))) h → tr_G E 197 Q 26 [some (.inr (.inr (ad 23))), some (.inl (ii f)), some (.inl (ii a)), some (.inl (ii i))] [] h 0 0
  | n, i, a, hk, g0, g1, g2, q => by
    refine T_X8_fates_26 ok ?_
    have vm := v_m v
    simp (disch := first | omega | decide | assumption | exact st_ne s0 (by decide) (by decide) (by decide) | exact dyn_ne (by assumption) (by decide) | fail) only [Int.reduceAdd, Int.reduceSub, Int.reduceNeg, ii_add, ii_sub, ii_mul, ii_lt, ii_le, ii_eq, ixn_ii, ixo_ii, rem_ii, nb_1, nb_0, nb_bb, bb_0, hI_gv, Int.toNat_of_nonneg, Int.cast_ofNat_Int, ht_sI, ht_sJ, ht_sR, hn_sI, hn_sJ, hn_sR, hR_sI, hR_sJ, kI_v, kV_v, kJ_v, true_and, and_true, forall_eq, tg, ln, rf, ne_eq, not_false_eq_true, forall_const, not_true_eq_false, false_implies, W_X8_fates_26, st_t s.1, st_n s.1, st_r s.1, s.2.1]
    refine ⟨by omega, fun g => ?_, fun g => ?_⟩
    · obtain ⟨n, rfl⟩ : ∃ n', n = n' + 1 := ⟨n - 1, by omega⟩
      obtain ⟨q0, q1, q2, q3, q4, q5, q6, q7⟩ := v_p v g0 g
      rw [sm_s, ← Int.add_assoc] at q
      refine c_of ok s g0 (by omega) (by omega) (by omega) ?_
      simp (disch := first | omega | decide | assumption | exact st_ne s0 (by decide) (by decide) (by decide) | exact dyn_ne (by assumption) (by decide) | fail) only [Int.reduceAdd, Int.reduceSub, Int.reduceNeg, ii_add, ii_sub, ii_mul, ii_lt, ii_le, ii_eq, ixn_ii, ixo_ii, rem_ii, nb_1, nb_0, nb_bb, bb_0, hI_gv, Int.toNat_of_nonneg, Int.cast_ofNat_Int, ht_sI, ht_sJ, ht_sR, hn_sI, hn_sJ, hn_sR, hR_sI, hR_sJ, kI_v, kV_v, kJ_v, true_and, and_true, forall_eq, tg, ln, rf, ne_eq, not_false_eq_true, forall_const, not_true_eq_false, false_implies]
      refine ⟨fun g3 => ?_, fun g3 => ?_⟩
      · refine c_fates_26 ok s v h1 h2 n (i + 1) _ (by omega) (by omega) (by omega) (by omega) ?_
        rw [decide_eq_true (by omega)] at q; exact q
      · refine c_fates_26 ok s v h1 h2 n (i + 1) _ (by omega) (by omega) (by omega) (by omega) ?_
        rw [decide_eq_false (by omega)] at q; exact q
    · obtain rfl : n = 0 := by omega
      rw [sm_0, Int.add_zero] at q; exact q
theorem M_fates (ok : tr_ok E) (s : mst ad h m one two H L) (v : vok m one two H L) {f : Int} (h3 : -2147483648 ≤ f) (h4 : f ≤ 2147483647) (q : 0 ≤ f ∧ f ≤ 3 → ∀ h', mpo ad h 0 0 h' → Q (.inl (some (.inl (ii (cfa m f))))) h') (r : ¬ (0 ≤ f ∧ f ≤ 3) → ∀ h', mpo ad h 1 1 h' → Q (.inl (some (.inl (ii 0)))) h') : tr_C E 197 [.inr (.inr (ad 23)), .inl (ii f)] h Q := by
  refine T_X8_fates ok ?_
  have ms := m_start s.1
  have s1 := mst_q s ms.1
  have vm := v_m v
  simp (disch := first | omega | decide | assumption | exact st_ne s0 (by decide) (by decide) (by decide) | exact dyn_ne (by assumption) (by decide) | fail) only [Int.reduceAdd, Int.reduceSub, Int.reduceNeg, ii_add, ii_sub, ii_mul, ii_lt, ii_le, ii_eq, ixn_ii, ixo_ii, rem_ii, nb_1, nb_0, nb_bb, bb_0, hI_gv, Int.toNat_of_nonneg, Int.cast_ofNat_Int, ht_sI, ht_sJ, ht_sR, hn_sI, hn_sJ, hn_sR, hR_sI, hR_sJ, kI_v, kV_v, kJ_v, true_and, and_true, forall_eq, tg, ln, rf, ne_eq, not_false_eq_true, forall_const, not_true_eq_false, false_implies, W_X8_fates, st_t s.1]
  refine c_within ok h3 h4 (by omega) (by omega) (by omega) (by omega) ?_
  simp (disch := first | omega | decide | assumption | exact st_ne s0 (by decide) (by decide) (by decide) | exact dyn_ne (by assumption) (by decide) | fail) only [Int.reduceAdd, Int.reduceSub, Int.reduceNeg, ii_add, ii_sub, ii_mul, ii_lt, ii_le, ii_eq, ixn_ii, ixo_ii, rem_ii, nb_1, nb_0, nb_bb, bb_0, hI_gv, Int.toNat_of_nonneg, Int.cast_ofNat_Int, ht_sI, ht_sJ, ht_sR, hn_sI, hn_sJ, hn_sR, hR_sI, hR_sJ, kI_v, kV_v, kJ_v, true_and, and_true, forall_eq, tg, ln, rf, ne_eq, not_false_eq_true, forall_const, not_true_eq_false, false_implies, st_t s.1]
  refine c_fineb ok s.1 ms (by omega) (by omega) (by omega) (by omega) (fun g => ?_) (fun g h' p => ?_)
  · rw [decide_eq_true_eq] at g
    simp (disch := first | omega | decide | assumption | exact st_ne s0 (by decide) (by decide) (by decide) | exact dyn_ne (by assumption) (by decide) | fail) only [Int.reduceAdd, Int.reduceSub, Int.reduceNeg, ii_add, ii_sub, ii_mul, ii_lt, ii_le, ii_eq, ixn_ii, ixo_ii, rem_ii, nb_1, nb_0, nb_bb, bb_0, hI_gv, Int.toNat_of_nonneg, Int.cast_ofNat_Int, ht_sI, ht_sJ, ht_sR, hn_sI, hn_sJ, hn_sR, hR_sI, hR_sJ, kI_v, kV_v, kJ_v, true_and, and_true, forall_eq, tg, ln, rf, ne_eq, not_false_eq_true, forall_const, not_true_eq_false, false_implies, Int.reduceEq, Int.reduceLT, Int.reduceLE, implies_true, and_self, reduceCtorEq, false_and,]
    refine c_fates_26 ok s1 v (by omega) (by omega) (m 106).toNat 0 0 (by omega) (by omega) (by omega) (by omega) ?_
    rw [Int.zero_add]; exact q g _ ms
  · rw [decide_eq_false_iff_not] at g
    simp (disch := first | omega | decide | assumption | exact st_ne s0 (by decide) (by decide) (by decide) | exact dyn_ne (by assumption) (by decide) | fail) only [Int.reduceAdd, Int.reduceSub, Int.reduceNeg, ii_add, ii_sub, ii_mul, ii_lt, ii_le, ii_eq, ixn_ii, ixo_ii, rem_ii, nb_1, nb_0, nb_bb, bb_0, hI_gv, Int.toNat_of_nonneg, Int.cast_ofNat_Int, ht_sI, ht_sJ, ht_sR, hn_sI, hn_sJ, hn_sR, hR_sI, hR_sJ, kI_v, kV_v, kJ_v, true_and, and_true, forall_eq, tg, ln, rf, ne_eq, not_false_eq_true, forall_const, not_true_eq_false, false_implies, Int.reduceEq, Int.reduceLT, Int.reduceLE, implies_true, and_self, reduceCtorEq, false_and,]
    exact r g h' p
/-- routeTold -/
theorem K_routeTold (ok : tr_ok E) (c : kst ad h m one two H L) (v : vok m one two H L) {a d : Int} (h3 : -2147483648 ≤ a) (h4 : a ≤ 2147483647) (h5 : -2147483648 ≤ d) (h6 : d ≤ 2147483647) (q : (0 ≤ a ∧ a < H) ∧ (0 ≤ d ∧ d < H) → Q (.inl (some (.inl (ii (m (6 + 10 * a + d)))))) h) (r : ¬ ((0 ≤ a ∧ a < H) ∧ (0 ≤ d ∧ d < H)) → Q (.inr 0) (rfz ad h 0)) : tr_C E 84 [.inr (.inr (ad 1)), .inl (ii a), .inl (ii d)] h Q := by
  refine T_X7_routeTold ok ?_
  have s0 := c.1
  have n := c.2.2.1
  have vH := v_H v
  obtain ⟨n0, n1, n2, ⟨sa, sb, sc⟩, ⟨ea, eb, ec⟩, ⟨ua, ub, uc⟩, ⟨ra, rb, rc⟩, ⟨ga, gb, g0, g1, g2, g3, g4⟩, nd⟩ := id n
  simp (disch := first | omega | decide | assumption | exact st_ne s0 (by decide) (by decide) (by decide) | exact dyn_ne (by assumption) (by decide) | fail) only [Int.reduceAdd, Int.reduceSub, Int.reduceNeg, ii_add, ii_sub, ii_mul, ii_lt, ii_le, ii_eq, ixn_ii, ixo_ii, rem_ii, nb_1, nb_0, nb_bb, bb_0, hI_gv, Int.toNat_of_nonneg, Int.cast_ofNat_Int, ht_sI, ht_sJ, ht_sR, hn_sI, hn_sJ, hn_sR, hR_sI, hR_sJ, kI_v, kV_v, kJ_v, true_and, and_true, forall_eq, tg, ln, rf, ne_eq, not_false_eq_true, forall_const, not_true_eq_false, false_implies, W_X7_routeTold, st_t s0, c.2.1, n0]
  refine k_hasHop ok n (by omega) (by omega) h3 h4 ?_
  simp (disch := first | omega | decide | assumption | exact st_ne s0 (by decide) (by decide) (by decide) | exact dyn_ne (by assumption) (by decide) | fail) only [Int.reduceAdd, Int.reduceSub, Int.reduceNeg, ii_add, ii_sub, ii_mul, ii_lt, ii_le, ii_eq, ixn_ii, ixo_ii, rem_ii, nb_1, nb_0, nb_bb, bb_0, hI_gv, Int.toNat_of_nonneg, Int.cast_ofNat_Int, ht_sI, ht_sJ, ht_sR, hn_sI, hn_sJ, hn_sR, hR_sI, hR_sJ, kI_v, kV_v, kJ_v, true_and, and_true, forall_eq, tg, ln, rf, ne_eq, not_false_eq_true, forall_const, not_true_eq_false, false_implies, st_t s0, c.2.1, n0]
  refine ⟨fun g => ?_, fun g => ?_⟩
  · rw [decide_eq_false_iff_not] at g
    exact k_fnd0 ok s0 (r (fun e => g e.1))
  · rw [Bool.not_eq_false, decide_eq_true_eq] at g
    refine k_hasHop ok n (by omega) (by omega) h5 h6 ?_
    simp (disch := first | omega | decide | assumption | exact st_ne s0 (by decide) (by decide) (by decide) | exact dyn_ne (by assumption) (by decide) | fail) only [Int.reduceAdd, Int.reduceSub, Int.reduceNeg, ii_add, ii_sub, ii_mul, ii_lt, ii_le, ii_eq, ixn_ii, ixo_ii, rem_ii, nb_1, nb_0, nb_bb, bb_0, hI_gv, Int.toNat_of_nonneg, Int.cast_ofNat_Int, ht_sI, ht_sJ, ht_sR, hn_sI, hn_sJ, hn_sR, hR_sI, hR_sJ, kI_v, kV_v, kJ_v, true_and, and_true, forall_eq, tg, ln, rf, ne_eq, not_false_eq_true, forall_const, not_true_eq_false, false_implies, st_t s0, c.2.1, n0]
    refine ⟨fun g2 => ?_, fun g2 => ?_⟩
    · rw [decide_eq_false_iff_not] at g2
      exact k_fnd0 ok s0 (r (fun e => g2 e.2))
    · rw [Bool.not_eq_false, decide_eq_true_eq] at g2
      refine k_fnd1 ok ?_
      simp (disch := first | omega | decide | assumption | exact st_ne s0 (by decide) (by decide) (by decide) | exact dyn_ne (by assumption) (by decide) | fail) only [Int.reduceAdd, Int.reduceSub, Int.reduceNeg, ii_add, ii_sub, ii_mul, ii_lt, ii_le, ii_eq, ixn_ii, ixo_ii, rem_ii, nb_1, nb_0, nb_bb, bb_0, hI_gv, Int.toNat_of_nonneg, Int.cast_ofNat_Int, ht_sI, ht_sJ, ht_sR, hn_sI, hn_sJ, hn_sR, hR_sI, hR_sJ, kI_v, kV_v, kJ_v, true_and, and_true, forall_eq, tg, ln, rf, ne_eq, not_false_eq_true, forall_const, not_true_eq_false, false_implies, st_t s0, c.2.1, n0, ra, rb, rc]
      refine ⟨by omega, ?_⟩
      have e : 6 + (a * 10 + d) = 6 + 10 * a + d := by omega
      rw [e]
      exact q ⟨g, g2⟩
theorem M_routeTold (ok : tr_ok E) (s : mst ad h m one two H L) (v : vok m one two H L) {a d : Int} (h3 : -2147483648 ≤ a) (h4 : a ≤ 2147483647) (h5 : -2147483648 ≤ d) (h6 : d ≤ 2147483647) (q : (0 ≤ a ∧ a < H) ∧ (0 ≤ d ∧ d < H) → ∀ h', mpo ad h 0 0 h' → Q (.inl (some (.inl (ii (m (6 + 10 * a + d)))))) h') (r : ¬ ((0 ≤ a ∧ a < H) ∧ (0 ≤ d ∧ d < H)) → ∀ h', mpo ad h 1 0 h' → Q (.inl (some (.inl (ii 0)))) h') : tr_C E 168 [.inr (.inr (ad 23)), .inl (ii a), .inl (ii d)] h Q := by
  refine T_X8_routeTold ok ?_
  have ms := m_start s.1
  have s1 := mst_q s ms.1
  have vH := v_H v
  simp (disch := first | omega | decide | assumption | exact st_ne s0 (by decide) (by decide) (by decide) | exact dyn_ne (by assumption) (by decide) | fail) only [Int.reduceAdd, Int.reduceSub, Int.reduceNeg, ii_add, ii_sub, ii_mul, ii_lt, ii_le, ii_eq, ixn_ii, ixo_ii, rem_ii, nb_1, nb_0, nb_bb, bb_0, hI_gv, Int.toNat_of_nonneg, Int.cast_ofNat_Int, ht_sI, ht_sJ, ht_sR, hn_sI, hn_sJ, hn_sR, hR_sI, hR_sJ, kI_v, kV_v, kJ_v, true_and, and_true, forall_eq, tg, ln, rf, ne_eq, not_false_eq_true, forall_const, not_true_eq_false, false_implies, W_X8_routeTold, st_t s.1]
  refine c_isHop ok s1 v h3 h4 ?_
  simp (disch := first | omega | decide | assumption | exact st_ne s0 (by decide) (by decide) (by decide) | exact dyn_ne (by assumption) (by decide) | fail) only [Int.reduceAdd, Int.reduceSub, Int.reduceNeg, ii_add, ii_sub, ii_mul, ii_lt, ii_le, ii_eq, ixn_ii, ixo_ii, rem_ii, nb_1, nb_0, nb_bb, bb_0, hI_gv, Int.toNat_of_nonneg, Int.cast_ofNat_Int, ht_sI, ht_sJ, ht_sR, hn_sI, hn_sJ, hn_sR, hR_sI, hR_sJ, kI_v, kV_v, kJ_v, true_and, and_true, forall_eq, tg, ln, rf, ne_eq, not_false_eq_true, forall_const, not_true_eq_false, false_implies, st_t s.1]
  refine ⟨fun g => ?_, fun g => ?_⟩
  · rw [decide_eq_false_iff_not] at g
    refine c_fine0 ok s.1 ms (by omega) (by omega) (by omega) (by omega) (fun h' p => ?_)
    simp (disch := first | omega | decide | assumption | exact st_ne s0 (by decide) (by decide) (by decide) | exact dyn_ne (by assumption) (by decide) | fail) only [Int.reduceAdd, Int.reduceSub, Int.reduceNeg, ii_add, ii_sub, ii_mul, ii_lt, ii_le, ii_eq, ixn_ii, ixo_ii, rem_ii, nb_1, nb_0, nb_bb, bb_0, hI_gv, Int.toNat_of_nonneg, Int.cast_ofNat_Int, ht_sI, ht_sJ, ht_sR, hn_sI, hn_sJ, hn_sR, hR_sI, hR_sJ, kI_v, kV_v, kJ_v, true_and, and_true, forall_eq, tg, ln, rf, ne_eq, not_false_eq_true, forall_const, not_true_eq_false, false_implies, Int.reduceEq, Int.reduceLT, Int.reduceLE, implies_true, and_self, reduceCtorEq, false_and,]
    exact r (fun e => g e.1) h' p
  · rw [Bool.not_eq_false, decide_eq_true_eq] at g
    refine c_isHop ok s1 v h5 h6 ?_
    simp (disch := first | omega | decide | assumption | exact st_ne s0 (by decide) (by decide) (by decide) | exact dyn_ne (by assumption) (by decide) | fail) only [Int.reduceAdd, Int.reduceSub, Int.reduceNeg, ii_add, ii_sub, ii_mul, ii_lt, ii_le, ii_eq, ixn_ii, ixo_ii, rem_ii, nb_1, nb_0, nb_bb, bb_0, hI_gv, Int.toNat_of_nonneg, Int.cast_ofNat_Int, ht_sI, ht_sJ, ht_sR, hn_sI, hn_sJ, hn_sR, hR_sI, hR_sJ, kI_v, kV_v, kJ_v, true_and, and_true, forall_eq, tg, ln, rf, ne_eq, not_false_eq_true, forall_const, not_true_eq_false, false_implies, st_t s.1]
    refine ⟨fun g2 => ?_, fun g2 => ?_⟩
    · rw [decide_eq_false_iff_not] at g2
      refine c_fine0 ok s.1 ms (by omega) (by omega) (by omega) (by omega) (fun h' p => ?_)
      simp (disch := first | omega | decide | assumption | exact st_ne s0 (by decide) (by decide) (by decide) | exact dyn_ne (by assumption) (by decide) | fail) only [Int.reduceAdd, Int.reduceSub, Int.reduceNeg, ii_add, ii_sub, ii_mul, ii_lt, ii_le, ii_eq, ixn_ii, ixo_ii, rem_ii, nb_1, nb_0, nb_bb, bb_0, hI_gv, Int.toNat_of_nonneg, Int.cast_ofNat_Int, ht_sI, ht_sJ, ht_sR, hn_sI, hn_sJ, hn_sR, hR_sI, hR_sJ, kI_v, kV_v, kJ_v, true_and, and_true, forall_eq, tg, ln, rf, ne_eq, not_false_eq_true, forall_const, not_true_eq_false, false_implies, Int.reduceEq, Int.reduceLT, Int.reduceLE, implies_true, and_self, reduceCtorEq, false_and,]
      exact r (fun e => g2 e.2) h' p
    · rw [Bool.not_eq_false, decide_eq_true_eq] at g2
      refine c_fine1 ok s1.1 ms.2.1 ?_
      simp (disch := first | omega | decide | assumption | exact st_ne s0 (by decide) (by decide) (by decide) | exact dyn_ne (by assumption) (by decide) | fail) only [Int.reduceAdd, Int.reduceSub, Int.reduceNeg, ii_add, ii_sub, ii_mul, ii_lt, ii_le, ii_eq, ixn_ii, ixo_ii, rem_ii, nb_1, nb_0, nb_bb, bb_0, hI_gv, Int.toNat_of_nonneg, Int.cast_ofNat_Int, ht_sI, ht_sJ, ht_sR, hn_sI, hn_sJ, hn_sR, hR_sI, hR_sJ, kI_v, kV_v, kJ_v, true_and, and_true, forall_eq, tg, ln, rf, ne_eq, not_false_eq_true, forall_const, not_true_eq_false, false_implies, Int.reduceEq, Int.reduceLT, Int.reduceLE, implies_true, and_self, reduceCtorEq, false_and, st_t s.1]
      exact c_routeOf ok s1 (by omega) (by omega) (by omega) (by omega) (q ⟨g, g2⟩ _ ms)
/-- linkTold -/
def ltS (m one two : Int → Int) (l w : Int) : Int := if w = 0 then one l else if w = 1 then two l else b2 (!bt (m 0) l)
theorem K_linkTold (ok : tr_ok E) (c : kst ad h m one two H L) (v : vok m one two H L) {l w : Int} (h3 : -2147483648 ≤ l) (h4 : l ≤ 2147483647) (h5 : -2147483648 ≤ w) (h6 : w ≤ 2147483647) (q : 0 ≤ l ∧ l < L → 0 ≤ w ∧ w ≤ 2 → Q (.inl (some (.inl (ii (ltS m one two l w))))) h) (r : ¬ (0 ≤ l ∧ l < L) → Q (.inr 0) (rfz ad h 0)) (r2 : 0 ≤ l ∧ l < L → ¬ (0 ≤ w ∧ w ≤ 2) → Q (.inr 1) (rfz ad h 1)) : tr_C E 83 [.inr (.inr (ad 1)), .inl (ii l), .inl (ii w)] h Q := by
  refine T_X7_linkTold ok ?_
  have s0 := c.1
  have n := c.2.2.1
  have vL := v_L v
  obtain ⟨n0, n1, n2, ⟨sa, sb, sc⟩, ⟨ea, eb, ec⟩, ⟨ua, ub, uc⟩, ⟨ra, rb, rc⟩, ⟨ga, gb, g0, g1, g2, g3, g4⟩, nd⟩ := id n
  simp (disch := first | omega | decide | assumption | exact st_ne s0 (by decide) (by decide) (by decide) | exact dyn_ne (by assumption) (by decide) | fail) only [Int.reduceAdd, Int.reduceSub, Int.reduceNeg, ii_add, ii_sub, ii_mul, ii_lt, ii_le, ii_eq, ixn_ii, ixo_ii, rem_ii, nb_1, nb_0, nb_bb, bb_0, hI_gv, Int.toNat_of_nonneg, Int.cast_ofNat_Int, ht_sI, ht_sJ, ht_sR, hn_sI, hn_sJ, hn_sR, hR_sI, hR_sJ, kI_v, kV_v, kJ_v, true_and, and_true, forall_eq, tg, ln, rf, ne_eq, not_false_eq_true, forall_const, not_true_eq_false, false_implies, W_X7_linkTold, st_t s0, c.2.1, n0]
  refine k_hasLink ok n (by omega) (by omega) h3 h4 ?_
  simp (disch := first | omega | decide | assumption | exact st_ne s0 (by decide) (by decide) (by decide) | exact dyn_ne (by assumption) (by decide) | fail) only [Int.reduceAdd, Int.reduceSub, Int.reduceNeg, ii_add, ii_sub, ii_mul, ii_lt, ii_le, ii_eq, ixn_ii, ixo_ii, rem_ii, nb_1, nb_0, nb_bb, bb_0, hI_gv, Int.toNat_of_nonneg, Int.cast_ofNat_Int, ht_sI, ht_sJ, ht_sR, hn_sI, hn_sJ, hn_sR, hR_sI, hR_sJ, kI_v, kV_v, kJ_v, true_and, and_true, forall_eq, tg, ln, rf, ne_eq, not_false_eq_true, forall_const, not_true_eq_false, false_implies, st_t s0]
  refine k_fndb ok s0 (fun g => ?_) (fun g => ?_)
  · rw [decide_eq_true_eq] at g
    simp (disch := first | omega | decide | assumption | exact st_ne s0 (by decide) (by decide) (by decide) | exact dyn_ne (by assumption) (by decide) | fail) only [Int.reduceAdd, Int.reduceSub, Int.reduceNeg, ii_add, ii_sub, ii_mul, ii_lt, ii_le, ii_eq, ixn_ii, ixo_ii, rem_ii, nb_1, nb_0, nb_bb, bb_0, hI_gv, Int.toNat_of_nonneg, Int.cast_ofNat_Int, ht_sI, ht_sJ, ht_sR, hn_sI, hn_sJ, hn_sR, hR_sI, hR_sJ, kI_v, kV_v, kJ_v, true_and, and_true, forall_eq, tg, ln, rf, ne_eq, not_false_eq_true, forall_const, not_true_eq_false, false_implies, st_t s0]
    refine ⟨fun g2 => k_req0 ok s0 (r2 g (by omega)), fun g2 => ⟨fun g3 => k_req1 ok ?_, fun g3 => k_req0 ok s0 (r2 g (by omega))⟩⟩
    have hq := q g (by omega)
    unfold ltS at hq
    simp (disch := first | omega | decide | assumption | exact st_ne s0 (by decide) (by decide) (by decide) | exact dyn_ne (by assumption) (by decide) | fail) only [Int.reduceAdd, Int.reduceSub, Int.reduceNeg, ii_add, ii_sub, ii_mul, ii_lt, ii_le, ii_eq, ixn_ii, ixo_ii, rem_ii, nb_1, nb_0, nb_bb, bb_0, hI_gv, Int.toNat_of_nonneg, Int.cast_ofNat_Int, ht_sI, ht_sJ, ht_sR, hn_sI, hn_sJ, hn_sR, hR_sI, hR_sJ, kI_v, kV_v, kJ_v, true_and, and_true, forall_eq, tg, ln, rf, ne_eq, not_false_eq_true, forall_const, not_true_eq_false, false_implies, st_t s0, c.2.1, n0, sa, sb, sc, ea, eb, ec, ua, ub, uc]
    refine ⟨fun g4 => ⟨by omega, ?_⟩, fun g4 => ⟨fun g5 => ⟨by omega, ?_⟩, fun g5 => ⟨by omega, ?_⟩⟩⟩
    · rw [if_pos g4] at hq; exact hq
    · rw [if_neg g4, if_pos g5] at hq; exact hq
    · rw [if_neg g4, if_neg g5] at hq; exact hq
  · rw [decide_eq_false_iff_not] at g
    exact r g
theorem M_linkTold (ok : tr_ok E) (s : mst ad h m one two H L) (v : vok m one two H L) {l w : Int} (h3 : -2147483648 ≤ l) (h4 : l ≤ 2147483647) (h5 : -2147483648 ≤ w) (h6 : w ≤ 2147483647) (q : 0 ≤ l ∧ l < L → 0 ≤ w ∧ w ≤ 2 → ∀ h', mpo ad h 0 0 h' → Q (.inl (some (.inl (ii (ltS m one two l w))))) h') (r : ¬ (0 ≤ l ∧ l < L) → ∀ h', mpo ad h 1 0 h' → Q (.inl (some (.inl (ii 0)))) h') (r2 : 0 ≤ l ∧ l < L → ¬ (0 ≤ w ∧ w ≤ 2) → ∀ h', mpo ad h 2 1 h' → Q (.inl (some (.inl (ii 0)))) h') : tr_C E 167 [.inr (.inr (ad 23)), .inl (ii l), .inl (ii w)] h Q := by
  refine T_X8_linkTold ok ?_
  have ms := m_start s.1
  have s1 := mst_q s ms.1
  have vL := v_L v
  obtain ⟨-, em, e1, e2, -⟩ := id s1
  simp (disch := first | omega | decide | assumption | exact st_ne s0 (by decide) (by decide) (by decide) | exact dyn_ne (by assumption) (by decide) | fail) only [Int.reduceAdd, Int.reduceSub, Int.reduceNeg, ii_add, ii_sub, ii_mul, ii_lt, ii_le, ii_eq, ixn_ii, ixo_ii, rem_ii, nb_1, nb_0, nb_bb, bb_0, hI_gv, Int.toNat_of_nonneg, Int.cast_ofNat_Int, ht_sI, ht_sJ, ht_sR, hn_sI, hn_sJ, hn_sR, hR_sI, hR_sJ, kI_v, kV_v, kJ_v, true_and, and_true, forall_eq, tg, ln, rf, ne_eq, not_false_eq_true, forall_const, not_true_eq_false, false_implies, W_X8_linkTold, st_t s.1]
  refine c_isLink ok s1 v h3 h4 ?_
  simp (disch := first | omega | decide | assumption | exact st_ne s0 (by decide) (by decide) (by decide) | exact dyn_ne (by assumption) (by decide) | fail) only [Int.reduceAdd, Int.reduceSub, Int.reduceNeg, ii_add, ii_sub, ii_mul, ii_lt, ii_le, ii_eq, ixn_ii, ixo_ii, rem_ii, nb_1, nb_0, nb_bb, bb_0, hI_gv, Int.toNat_of_nonneg, Int.cast_ofNat_Int, ht_sI, ht_sJ, ht_sR, hn_sI, hn_sJ, hn_sR, hR_sI, hR_sJ, kI_v, kV_v, kJ_v, true_and, and_true, forall_eq, tg, ln, rf, ne_eq, not_false_eq_true, forall_const, not_true_eq_false, false_implies, st_t s.1]
  refine c_fineb ok s.1 ms (by omega) (by omega) (by omega) (by omega) (fun g => ?_) (fun g h' p => ?_)
  · rw [decide_eq_true_eq] at g
    simp (disch := first | omega | decide | assumption | exact st_ne s0 (by decide) (by decide) (by decide) | exact dyn_ne (by assumption) (by decide) | fail) only [Int.reduceAdd, Int.reduceSub, Int.reduceNeg, ii_add, ii_sub, ii_mul, ii_lt, ii_le, ii_eq, ixn_ii, ixo_ii, rem_ii, nb_1, nb_0, nb_bb, bb_0, hI_gv, Int.toNat_of_nonneg, Int.cast_ofNat_Int, ht_sI, ht_sJ, ht_sR, hn_sI, hn_sJ, hn_sR, hR_sI, hR_sJ, kI_v, kV_v, kJ_v, true_and, and_true, forall_eq, tg, ln, rf, ne_eq, not_false_eq_true, forall_const, not_true_eq_false, false_implies, Int.reduceEq, Int.reduceLT, Int.reduceLE, implies_true, and_self, reduceCtorEq, false_and,]
    refine c_within ok h5 h6 (by omega) (by omega) (by omega) (by omega) ?_
    simp (disch := first | omega | decide | assumption | exact st_ne s0 (by decide) (by decide) (by decide) | exact dyn_ne (by assumption) (by decide) | fail) only [Int.reduceAdd, Int.reduceSub, Int.reduceNeg, ii_add, ii_sub, ii_mul, ii_lt, ii_le, ii_eq, ixn_ii, ixo_ii, rem_ii, nb_1, nb_0, nb_bb, bb_0, hI_gv, Int.toNat_of_nonneg, Int.cast_ofNat_Int, ht_sI, ht_sJ, ht_sR, hn_sI, hn_sJ, hn_sR, hR_sI, hR_sJ, kI_v, kV_v, kJ_v, true_and, and_true, forall_eq, tg, ln, rf, ne_eq, not_false_eq_true, forall_const, not_true_eq_false, false_implies, st_t s.1]
    refine c_fineb ok s.1 ms (by omega) (by omega) (by omega) (by omega) (fun g2 => ?_) (fun g2 h' p => ?_)
    · rw [decide_eq_true_eq] at g2
      have hq := q g g2 _ ms
      unfold ltS at hq
      simp (disch := first | omega | decide | assumption | exact st_ne s0 (by decide) (by decide) (by decide) | exact dyn_ne (by assumption) (by decide) | fail) only [Int.reduceAdd, Int.reduceSub, Int.reduceNeg, ii_add, ii_sub, ii_mul, ii_lt, ii_le, ii_eq, ixn_ii, ixo_ii, rem_ii, nb_1, nb_0, nb_bb, bb_0, hI_gv, Int.toNat_of_nonneg, Int.cast_ofNat_Int, ht_sI, ht_sJ, ht_sR, hn_sI, hn_sJ, hn_sR, hR_sI, hR_sJ, kI_v, kV_v, kJ_v, true_and, and_true, forall_eq, tg, ln, rf, ne_eq, not_false_eq_true, forall_const, not_true_eq_false, false_implies, Int.reduceEq, Int.reduceLT, Int.reduceLE, implies_true, and_self, reduceCtorEq, false_and, st_t s.1, st_n s.1, st_r s.1, e1, e2]
      refine ⟨fun g4 => ⟨by omega, ?_⟩, fun g4 => ⟨fun g5 => ⟨by omega, ?_⟩, fun g5 => ?_⟩⟩
      · rw [if_pos g4] at hq; exact hq
      · rw [if_neg g4, if_pos g5] at hq; exact hq
      · rw [if_neg g4, if_neg g5] at hq
        refine c_isCut ok s1 v (by omega) (by omega) ?_
        simp (disch := first | omega | decide | assumption | exact st_ne s0 (by decide) (by decide) (by decide) | exact dyn_ne (by assumption) (by decide) | fail) only [Int.reduceAdd, Int.reduceSub, Int.reduceNeg, ii_add, ii_sub, ii_mul, ii_lt, ii_le, ii_eq, ixn_ii, ixo_ii, rem_ii, nb_1, nb_0, nb_bb, bb_0, hI_gv, Int.toNat_of_nonneg, Int.cast_ofNat_Int, ht_sI, ht_sJ, ht_sR, hn_sI, hn_sJ, hn_sR, hR_sI, hR_sJ, kI_v, kV_v, kJ_v, true_and, and_true, forall_eq, tg, ln, rf, ne_eq, not_false_eq_true, forall_const, not_true_eq_false, false_implies]
        refine ⟨fun g6 => ?_, fun g6 => ?_⟩
        · rw [g6] at hq; exact hq
        · rw [Bool.not_eq_false] at g6
          rw [g6] at hq; exact hq
    · rw [decide_eq_false_iff_not] at g2
      simp (disch := first | omega | decide | assumption | exact st_ne s0 (by decide) (by decide) (by decide) | exact dyn_ne (by assumption) (by decide) | fail) only [Int.reduceAdd, Int.reduceSub, Int.reduceNeg, ii_add, ii_sub, ii_mul, ii_lt, ii_le, ii_eq, ixn_ii, ixo_ii, rem_ii, nb_1, nb_0, nb_bb, bb_0, hI_gv, Int.toNat_of_nonneg, Int.cast_ofNat_Int, ht_sI, ht_sJ, ht_sR, hn_sI, hn_sJ, hn_sR, hR_sI, hR_sJ, kI_v, kV_v, kJ_v, true_and, and_true, forall_eq, tg, ln, rf, ne_eq, not_false_eq_true, forall_const, not_true_eq_false, false_implies, Int.reduceEq, Int.reduceLT, Int.reduceLE, implies_true, and_self, reduceCtorEq, false_and,]
      exact r2 g g2 h' p
  · rw [decide_eq_false_iff_not] at g
    simp (disch := first | omega | decide | assumption | exact st_ne s0 (by decide) (by decide) (by decide) | exact dyn_ne (by assumption) (by decide) | fail) only [Int.reduceAdd, Int.reduceSub, Int.reduceNeg, ii_add, ii_sub, ii_mul, ii_lt, ii_le, ii_eq, ixn_ii, ixo_ii, rem_ii, nb_1, nb_0, nb_bb, bb_0, hI_gv, Int.toNat_of_nonneg, Int.cast_ofNat_Int, ht_sI, ht_sJ, ht_sR, hn_sI, hn_sJ, hn_sR, hR_sI, hR_sJ, kI_v, kV_v, kJ_v, true_and, and_true, forall_eq, tg, ln, rf, ne_eq, not_false_eq_true, forall_const, not_true_eq_false, false_implies, Int.reduceEq, Int.reduceLT, Int.reduceLE, implies_true, and_self, reduceCtorEq, false_and,]
    exact r g h' p
/-- fault, status -/
theorem K_fault (ok : tr_ok E) (s0 : stat ad h) (q : Q (.inl (some (.inl (ii (gv h (ad 1) 2))))) h) : tr_C E 75 [.inr (.inr (ad 1))] h Q := by
  refine T_X7_fault ok ?_
  simp (disch := first | omega | decide | assumption | exact st_ne s0 (by decide) (by decide) (by decide) | exact dyn_ne (by assumption) (by decide) | fail) only [Int.reduceAdd, Int.reduceSub, Int.reduceNeg, ii_add, ii_sub, ii_mul, ii_lt, ii_le, ii_eq, ixn_ii, ixo_ii, rem_ii, nb_1, nb_0, nb_bb, bb_0, hI_gv, Int.toNat_of_nonneg, Int.cast_ofNat_Int, ht_sI, ht_sJ, ht_sR, hn_sI, hn_sJ, hn_sR, hR_sI, hR_sJ, kI_v, kV_v, kJ_v, true_and, and_true, forall_eq, tg, ln, rf, ne_eq, not_false_eq_true, forall_const, not_true_eq_false, false_implies, W_X7_fault, st_t s0]
  exact q
theorem M_fault (ok : tr_ok E) (s0 : stat ad h) (q : ∀ h', mpo ad h 0 0 h' → Q (.inl (some (.inl (ii (gv h (ad 23) 20))))) h') : tr_C E 152 [.inr (.inr (ad 23))] h Q := by
  refine T_X8_fault ok ?_
  simp (disch := first | omega | decide | assumption | exact st_ne s0 (by decide) (by decide) (by decide) | exact dyn_ne (by assumption) (by decide) | fail) only [Int.reduceAdd, Int.reduceSub, Int.reduceNeg, ii_add, ii_sub, ii_mul, ii_lt, ii_le, ii_eq, ixn_ii, ixo_ii, rem_ii, nb_1, nb_0, nb_bb, bb_0, hI_gv, Int.toNat_of_nonneg, Int.cast_ofNat_Int, ht_sI, ht_sJ, ht_sR, hn_sI, hn_sJ, hn_sR, hR_sI, hR_sJ, kI_v, kV_v, kJ_v, true_and, and_true, forall_eq, tg, ln, rf, ne_eq, not_false_eq_true, forall_const, not_true_eq_false, false_implies, W_X8_fault, st_t s0, gv_sIi]
  exact q _ (m_start s0)
theorem K_status (ok : tr_ok E) (s0 : stat ad h) {w : Int} (h3 : -2147483648 ≤ w) (h4 : w ≤ 2147483647) (q : Q (.inl (some (.inl (ii (if 0 ≤ w ∧ w ≤ 2 then gv h (ad 7) w else -1))))) h) : tr_C E 102 [.inr (.inr (ad 1)), .inl (ii w)] h Q := by
  refine T_X7_status ok ?_
  simp (disch := first | omega | decide | assumption | exact st_ne s0 (by decide) (by decide) (by decide) | exact dyn_ne (by assumption) (by decide) | fail) only [Int.reduceAdd, Int.reduceSub, Int.reduceNeg, ii_add, ii_sub, ii_mul, ii_lt, ii_le, ii_eq, ixn_ii, ixo_ii, rem_ii, nb_1, nb_0, nb_bb, bb_0, hI_gv, Int.toNat_of_nonneg, Int.cast_ofNat_Int, ht_sI, ht_sJ, ht_sR, hn_sI, hn_sJ, hn_sR, hR_sI, hR_sJ, kI_v, kV_v, kJ_v, true_and, and_true, forall_eq, tg, ln, rf, ne_eq, not_false_eq_true, forall_const, not_true_eq_false, false_implies, W_X7_status, st_t s0, st_n s0, st_r s0]
  refine ⟨fun g => ?_, fun g => ⟨fun g2 => ⟨by omega, ?_⟩, fun g2 => ?_⟩⟩
  · rw [if_neg (by omega)] at q; exact q
  · rw [if_pos (by omega)] at q
    rw [ixn_ii (by omega) (by omega), Int.toNat_of_nonneg (by omega)]
    exact q
  · rw [if_neg (by omega)] at q; exact q
theorem M_status (ok : tr_ok E) (s0 : stat ad h) {w : Int} (h3 : -2147483648 ≤ w) (h4 : w ≤ 2147483647) (q : ∀ h', mpo ad h 0 0 h' → Q (.inl (some (.inl (ii (if 0 ≤ w ∧ w ≤ 2 then gv h (ad 24) w else -1))))) h') : tr_C E 205 [.inr (.inr (ad 23)), .inl (ii w)] h Q := by
  refine T_X8_status ok ?_
  have hq := q _ (m_start s0)
  simp (disch := first | omega | decide | assumption | exact st_ne s0 (by decide) (by decide) (by decide) | exact dyn_ne (by assumption) (by decide) | fail) only [Int.reduceAdd, Int.reduceSub, Int.reduceNeg, ii_add, ii_sub, ii_mul, ii_lt, ii_le, ii_eq, ixn_ii, ixo_ii, rem_ii, nb_1, nb_0, nb_bb, bb_0, hI_gv, Int.toNat_of_nonneg, Int.cast_ofNat_Int, ht_sI, ht_sJ, ht_sR, hn_sI, hn_sJ, hn_sR, hR_sI, hR_sJ, kI_v, kV_v, kJ_v, true_and, and_true, forall_eq, tg, ln, rf, ne_eq, not_false_eq_true, forall_const, not_true_eq_false, false_implies, W_X8_status, st_t s0]
  refine c_within ok h3 h4 (by omega) (by omega) (by omega) (by omega) ?_
  simp (disch := first | omega | decide | assumption | exact st_ne s0 (by decide) (by decide) (by decide) | exact dyn_ne (by assumption) (by decide) | fail) only [Int.reduceAdd, Int.reduceSub, Int.reduceNeg, ii_add, ii_sub, ii_mul, ii_lt, ii_le, ii_eq, ixn_ii, ixo_ii, rem_ii, nb_1, nb_0, nb_bb, bb_0, hI_gv, Int.toNat_of_nonneg, Int.cast_ofNat_Int, ht_sI, ht_sJ, ht_sR, hn_sI, hn_sJ, hn_sR, hR_sI, hR_sJ, kI_v, kV_v, kJ_v, true_and, and_true, forall_eq, tg, ln, rf, ne_eq, not_false_eq_true, forall_const, not_true_eq_false, false_implies, st_t s0, st_n s0, st_r s0, gv_sIn]
  refine ⟨fun g => ?_, fun g => ⟨?_, ?_⟩⟩
  · rw [decide_eq_false_iff_not] at g
    rw [if_neg g] at hq; exact hq
  · rw [Bool.not_eq_false, decide_eq_true_eq] at g; omega
  · rw [Bool.not_eq_false, decide_eq_true_eq] at g
    rw [if_pos g] at hq
    rw [ixn_ii (by omega) (by omega), Int.toNat_of_nonneg (by omega)]
    exact hq
end ASK
