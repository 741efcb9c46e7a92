/-! WALKS THAT ARE TRAILS, BY THE REFERENCE -/
section TRM
variable {E : tr_Env} {ad : Nat → Nat} {h h0 : tr_H} {Q : tr_Q} {m one two : Int → Int} {H L : Int} {a : Ac}
theorem c_isWalk_39 (ok : tr_ok E) (s : mst ad h m one two H L) (v : vok m one two H L) (ra : acR ad h a) (f : fok H L a) (g : 0 < a.se) {p k : Int} (h1 : 0 ≤ p) (h2 : p < m 106) (k0 : 0 ≤ k) (k1 : k < a.fw) : ∀ (n : Nat) (i : Int) (b : Bool), i + n = wln a k → 0 ≤ i → (b = true → fd m p 6 = wln a k) → Q (.inl (some (.inl (bb (b && al (fun i => decide (lk m p i = a.fM (a.fb k + i))) i n))))) h → tr_G E 187 Q 39 [some (.inr (.inr (ad 23))), some (.inl (ii p)), some (.inl (ii k)), some (.inl (bb b)), some (.inl (ii i))] [] h 0 0
  | n, i, b, hn, i0, hb, q => by
    refine T_X8_isWalk_39 ok ?_
    have s0 := s.1
    have vL := v_L v
    have vm := v_m v
    obtain ⟨q0, q1, q2, q3, q4, q5, q6, q7⟩ := v_p v h1 h2
    have lnn := f_ln f k0 k1
    have fw := f.1
    simp (disch := first | omega | decide | assumption | exact st_ne s0 (by decide) (by decide) (by decide) | exact dyn_ne (by assumption) (by decide) | fail) only [Int.reduceAdd, Int.reduceSub, Int.reduceNeg, ii_add, ii_sub, ii_mul, ii_lt, ii_le, ii_eq, ixn_ii, ixo_ii, rem_ii, nb_1, nb_0, nb_bb, bb_0, hI_gv, Int.toNat_of_nonneg, Int.cast_ofNat_Int, ht_sI, ht_sJ, ht_sR, hn_sI, hn_sJ, hn_sR, hR_sI, hR_sJ, kI_v, kV_v, kJ_v, true_and, and_true, forall_eq, tg, ln, rf, ne_eq, not_false_eq_true, forall_const, not_true_eq_false, false_implies, W_X8_isWalk_39, st_t s0]
    refine c_longAt ok s0 ra f g k0 k1 ?_
    simp (disch := first | omega | decide | assumption | exact st_ne s0 (by decide) (by decide) (by decide) | exact dyn_ne (by assumption) (by decide) | fail) only [Int.reduceAdd, Int.reduceSub, Int.reduceNeg, ii_add, ii_sub, ii_mul, ii_lt, ii_le, ii_eq, ixn_ii, ixo_ii, rem_ii, nb_1, nb_0, nb_bb, bb_0, hI_gv, Int.toNat_of_nonneg, Int.cast_ofNat_Int, ht_sI, ht_sJ, ht_sR, hn_sI, hn_sJ, hn_sR, hR_sI, hR_sJ, kI_v, kV_v, kJ_v, true_and, and_true, forall_eq, tg, ln, rf, ne_eq, not_false_eq_true, forall_const, not_true_eq_false, false_implies, st_t s0]
    refine ⟨fun g2 => ⟨fun g3 => ?_, fun g3 => ?_⟩, fun g2 => ?_⟩
    · rw [g3, Bool.false_and] at q
      rw [g3]; exact q
    · rw [Bool.not_eq_false] at g3
      have e6 := hb g3
      subst g3
      obtain ⟨n, rfl⟩ : ∃ n', n = n' + 1 := ⟨n - 1, by omega⟩
      have lq := q7 i i0 (by omega)
      refine c_linkAt ok s h1 (by omega) i0 (by omega) ?_
      obtain ⟨a1, a2, a3, a4⟩ := ra.2.2 g
      have x1 := a3 k (by omega) (by omega)
      have x2 := a4 k (a.fb k + i) (by omega) (by omega) (by omega) (by omega)
      have b1 := f_b0 f (k := k) (by omega) (by omega)
      have b2 := f_b0 f (k := k + 1) (by omega) (by omega)
      have hb2 := f.2.2.2.2.1 k (a.fb k + i) (by omega) (by omega) (by omega) (by omega)
      have ix : a.fb k - k + i = a.fb k + i - k := by omega
      have i0' : 0 ≤ a.fb k + i - k := by omega
      unfold al at q
      rw [Bool.true_and] at q
      simp (disch := first | omega | decide | assumption | exact st_ne s0 (by decide) (by decide) (by decide) | exact dyn_ne (by assumption) (by decide) | fail) only [Int.reduceAdd, Int.reduceSub, Int.reduceNeg, ii_add, ii_sub, ii_mul, ii_lt, ii_le, ii_eq, ixn_ii, ixo_ii, rem_ii, nb_1, nb_0, nb_bb, bb_0, hI_gv, Int.toNat_of_nonneg, Int.cast_ofNat_Int, ht_sI, ht_sJ, ht_sR, hn_sI, hn_sJ, hn_sR, hR_sI, hR_sJ, kI_v, kV_v, kJ_v, true_and, and_true, forall_eq, tg, ln, rf, ne_eq, not_false_eq_true, forall_const, not_true_eq_false, false_implies, st_t s0, st_n s0, st_r s0, x1, ix, x2]
      refine ⟨by omega, by omega, fun g5 => ?_, fun g5 => ?_⟩
      · rw [decide_eq_true g5] at q
        exact c_isWalk_39 ok s v ra f g h1 h2 k0 k1 n (i + 1) true (by omega) (by omega) hb q
      · rw [decide_eq_false g5, Bool.false_and] at q
        exact c_isWalk_39 ok s v ra f g h1 h2 k0 k1 n (i + 1) false (by omega) (by omega) (fun e => by cases e) q
    · obtain rfl : n = 0 := by omega
      unfold al at q
      rw [Bool.and_true] at q
      exact q
theorem c_isWalk (ok : tr_ok E) (s : mst ad h m one two H L) (v : vok m one two H L) (ra : acR ad h a) (f : fok H L a) (g : 0 < a.se) {p k : Int} (h1 : 0 ≤ p) (h2 : p < m 106) (k0 : 0 ≤ k) (k1 : k < a.fw) (q : Q (.inl (some (.inl (bb (iw m a p k))))) h) : tr_C E 187 [.inr (.inr (ad 23)), .inl (ii p), .inl (ii k)] h Q := by
  refine T_X8_isWalk ok ?_
  have s0 := s.1
  have vL := v_L v
  have vH := v_H v
  have vm := v_m v
  obtain ⟨q0, q1, q2, q3, q4, q5, q6, q7⟩ := v_p v h1 h2
  have lnn := f_ln f k0 k1
  have fw := f.1
  have x3 := (ra.2.2 g).2.1 k k0 k1
  have hh := f.2.2.2.2.2.2 k k0 k1
  unfold iw at q
  simp (disch := first | omega | decide | assumption | exact st_ne s0 (by decide) (by decide) (by decide) | exact dyn_ne (by assumption) (by decide) | fail) only [Int.reduceAdd, Int.reduceSub, Int.reduceNeg, ii_add, ii_sub, ii_mul, ii_lt, ii_le, ii_eq, ixn_ii, ixo_ii, rem_ii, nb_1, nb_0, nb_bb, bb_0, hI_gv, Int.toNat_of_nonneg, Int.cast_ofNat_Int, ht_sI, ht_sJ, ht_sR, hn_sI, hn_sJ, hn_sR, hR_sI, hR_sJ, kI_v, kV_v, kJ_v, true_and, and_true, forall_eq, tg, ln, rf, ne_eq, not_false_eq_true, forall_const, not_true_eq_false, false_implies, W_X8_isWalk, st_t s0]
  refine c_of ok s h1 (by omega) (by omega) (by omega) ?_
  simp (disch := first | omega | decide | assumption | exact st_ne s0 (by decide) (by decide) (by decide) | exact dyn_ne (by assumption) (by decide) | fail) only [Int.reduceAdd, Int.reduceSub, Int.reduceNeg, ii_add, ii_sub, ii_mul, ii_lt, ii_le, ii_eq, ixn_ii, ixo_ii, rem_ii, nb_1, nb_0, nb_bb, bb_0, hI_gv, Int.toNat_of_nonneg, Int.cast_ofNat_Int, ht_sI, ht_sJ, ht_sR, hn_sI, hn_sJ, hn_sR, hR_sI, hR_sJ, kI_v, kV_v, kJ_v, true_and, and_true, forall_eq, tg, ln, rf, ne_eq, not_false_eq_true, forall_const, not_true_eq_false, false_implies, st_t s0, st_n s0, st_r s0, x3]
  refine ⟨by omega, fun g2 => ?_, fun g2 => ?_⟩
  · refine c_of ok s h1 (by omega) (by omega) (by omega) ?_
    simp (disch := first | omega | decide | assumption | exact st_ne s0 (by decide) (by decide) (by decide) | exact dyn_ne (by assumption) (by decide) | fail) only [Int.reduceAdd, Int.reduceSub, Int.reduceNeg, ii_add, ii_sub, ii_mul, ii_lt, ii_le, ii_eq, ixn_ii, ixo_ii, rem_ii, nb_1, nb_0, nb_bb, bb_0, hI_gv, Int.toNat_of_nonneg, Int.cast_ofNat_Int, ht_sI, ht_sJ, ht_sR, hn_sI, hn_sJ, hn_sR, hR_sI, hR_sJ, kI_v, kV_v, kJ_v, true_and, and_true, forall_eq, tg, ln, rf, ne_eq, not_false_eq_true, forall_const, not_true_eq_false, false_implies, st_t s0]
    refine c_longAt ok s0 ra f g k0 k1 ?_
    simp (disch := first | omega | decide | assumption | exact st_ne s0 (by decide) (by decide) (by decide) | exact dyn_ne (by assumption) (by decide) | fail) only [Int.reduceAdd, Int.reduceSub, Int.reduceNeg, ii_add, ii_sub, ii_mul, ii_lt, ii_le, ii_eq, ixn_ii, ixo_ii, rem_ii, nb_1, nb_0, nb_bb, bb_0, hI_gv, Int.toNat_of_nonneg, Int.cast_ofNat_Int, ht_sI, ht_sJ, ht_sR, hn_sI, hn_sJ, hn_sR, hR_sI, hR_sJ, kI_v, kV_v, kJ_v, true_and, and_true, forall_eq, tg, ln, rf, ne_eq, not_false_eq_true, forall_const, not_true_eq_false, false_implies]
    refine ⟨fun g3 => ?_, fun g3 => ?_⟩
    · rw [decide_eq_true ⟨g2, g3⟩] at q
      exact c_isWalk_39 ok s v ra f g h1 h2 k0 k1 (wln a k).toNat 0 true (by omega) (by omega) (fun _ => g3) q
    · rw [decide_eq_false (fun e => g3 e.2)] at q
      exact c_isWalk_39 ok s v ra f g h1 h2 k0 k1 (wln a k).toNat 0 false (by omega) (by omega) (fun e => by cases e) q
  · rw [decide_eq_false (fun e => g2 e.1)] at q
    exact c_isWalk_39 ok s v ra f g h1 h2 k0 k1 (wln a k).toNat 0 false (by omega) (by omega) (fun e => by cases e) q
theorem c_isAlike_41 (ok : tr_ok E) (s : mst ad h m one two H L) (v : vok m one two H L) {o p : Int} (o1 : 0 ≤ o) (o2 : o < m 106) (h1 : 0 ≤ p) (h2 : p < m 106) : ∀ (n : Nat) (i : Int) (b : Bool), i + n = fd m p 6 → 0 ≤ i → (b = true → fd m o 6 = fd m p 6) → Q (.inl (some (.inl (bb (b && al (fun i => decide (lk m o i = lk m p i)) i n))))) h → tr_G E 189 Q 41 [some (.inr (.inr (ad 23))), some (.inl (ii o)), some (.inl (ii p)), some (.inl (bb b)), some (.inl (ii i))] [] h 0 0
  | n, i, b, hn, i0, hb, q => by
    refine T_X8_isAlike_41 ok ?_
    have s0 := s.1
    have vL := v_L v
    have vm := v_m v
    obtain ⟨-, -, -, -, o4, -, o6, o7⟩ := v_p v o1 o2
    obtain ⟨q0, q1, q2, q3, q4, q5, q6, q7⟩ := v_p v h1 h2
    simp (disch := first | omega | decide | assumption | exact st_ne s0 (by decide) (by decide) (by decide) | exact dyn_ne (by assumption) (by decide) | fail) only [Int.reduceAdd, Int.reduceSub, Int.reduceNeg, ii_add, ii_sub, ii_mul, ii_lt, ii_le, ii_eq, ixn_ii, ixo_ii, rem_ii, nb_1, nb_0, nb_bb, bb_0, hI_gv, Int.toNat_of_nonneg, Int.cast_ofNat_Int, ht_sI, ht_sJ, ht_sR, hn_sI, hn_sJ, hn_sR, hR_sI, hR_sJ, kI_v, kV_v, kJ_v, true_and, and_true, forall_eq, tg, ln, rf, ne_eq, not_false_eq_true, forall_const, not_true_eq_false, false_implies, W_X8_isAlike_41, st_t s0]
    refine c_of ok s h1 (by omega) (by omega) (by omega) ?_
    simp (disch := first | omega | decide | assumption | exact st_ne s0 (by decide) (by decide) (by decide) | exact dyn_ne (by assumption) (by decide) | fail) only [Int.reduceAdd, Int.reduceSub, Int.reduceNeg, ii_add, ii_sub, ii_mul, ii_lt, ii_le, ii_eq, ixn_ii, ixo_ii, rem_ii, nb_1, nb_0, nb_bb, bb_0, hI_gv, Int.toNat_of_nonneg, Int.cast_ofNat_Int, ht_sI, ht_sJ, ht_sR, hn_sI, hn_sJ, hn_sR, hR_sI, hR_sJ, kI_v, kV_v, kJ_v, true_and, and_true, forall_eq, tg, ln, rf, ne_eq, not_false_eq_true, forall_const, not_true_eq_false, false_implies, st_t s0]
    refine ⟨fun g2 => ⟨fun g3 => ?_, fun g3 => ?_⟩, fun g2 => ?_⟩
    · rw [g3, Bool.false_and] at q
      rw [g3]; exact q
    · rw [Bool.not_eq_false] at g3
      have e6 := hb g3
      subst g3
      obtain ⟨n, rfl⟩ : ∃ n', n = n' + 1 := ⟨n - 1, by omega⟩
      have lq := q7 i i0 (by omega)
      have lo := o7 i i0 (by omega)
      refine c_linkAt ok s o1 (by omega) i0 (by omega) ?_
      simp (disch := first | omega | decide | assumption | exact st_ne s0 (by decide) (by decide) (by decide) | exact dyn_ne (by assumption) (by decide) | fail) only [Int.reduceAdd, Int.reduceSub, Int.reduceNeg, ii_add, ii_sub, ii_mul, ii_lt, ii_le, ii_eq, ixn_ii, ixo_ii, rem_ii, nb_1, nb_0, nb_bb, bb_0, hI_gv, Int.toNat_of_nonneg, Int.cast_ofNat_Int, ht_sI, ht_sJ, ht_sR, hn_sI, hn_sJ, hn_sR, hR_sI, hR_sJ, kI_v, kV_v, kJ_v, true_and, and_true, forall_eq, tg, ln, rf, ne_eq, not_false_eq_true, forall_const, not_true_eq_false, false_implies, st_t s0]
      refine c_linkAt ok s h1 (by omega) i0 (by omega) ?_
      unfold al at q
      rw [Bool.true_and] at q
      simp (disch := first | omega | decide | assumption | exact st_ne s0 (by decide) (by decide) (by decide) | exact dyn_ne (by assumption) (by decide) | fail) only [Int.reduceAdd, Int.reduceSub, Int.reduceNeg, ii_add, ii_sub, ii_mul, ii_lt, ii_le, ii_eq, ixn_ii, ixo_ii, rem_ii, nb_1, nb_0, nb_bb, bb_0, hI_gv, Int.toNat_of_nonneg, Int.cast_ofNat_Int, ht_sI, ht_sJ, ht_sR, hn_sI, hn_sJ, hn_sR, hR_sI, hR_sJ, kI_v, kV_v, kJ_v, true_and, and_true, forall_eq, tg, ln, rf, ne_eq, not_false_eq_true, forall_const, not_true_eq_false, false_implies]
      refine ⟨fun g5 => ?_, fun g5 => ?_⟩
      · rw [decide_eq_true g5] at q
        exact c_isAlike_41 ok s v o1 o2 h1 h2 n (i + 1) true (by omega) (by omega) hb q
      · rw [decide_eq_false g5, Bool.false_and] at q
        exact c_isAlike_41 ok s v o1 o2 h1 h2 n (i + 1) false (by omega) (by omega) (fun e => by cases e) q
    · obtain rfl : n = 0 := by omega
      unfold al at q
      rw [Bool.and_true] at q
      exact q
theorem c_isAlike (ok : tr_ok E) (s : mst ad h m one two H L) (v : vok m one two H L) {o p : Int} (o1 : 0 ≤ o) (o2 : o < m 106) (h1 : 0 ≤ p) (h2 : p < m 106) (q : Q (.inl (some (.inl (bb (alk m o p))))) h) : tr_C E 189 [.inr (.inr (ad 23)), .inl (ii o), .inl (ii p)] h Q := by
  refine T_X8_isAlike ok ?_
  have s0 := s.1
  have vH := v_H v
  have vm := v_m v
  obtain ⟨o3, -, -, -, o4, -, o6, o7⟩ := v_p v o1 o2
  obtain ⟨q0, q1, q2, q3, q4, q5, q6, q7⟩ := v_p v h1 h2
  unfold alk at q
  simp (disch := first | omega | decide | assumption | exact st_ne s0 (by decide) (by decide) (by decide) | exact dyn_ne (by assumption) (by decide) | fail) only [Int.reduceAdd, Int.reduceSub, Int.reduceNeg, ii_add, ii_sub, ii_mul, ii_lt, ii_le, ii_eq, ixn_ii, ixo_ii, rem_ii, nb_1, nb_0, nb_bb, bb_0, hI_gv, Int.toNat_of_nonneg, Int.cast_ofNat_Int, ht_sI, ht_sJ, ht_sR, hn_sI, hn_sJ, hn_sR, hR_sI, hR_sJ, kI_v, kV_v, kJ_v, true_and, and_true, forall_eq, tg, ln, rf, ne_eq, not_false_eq_true, forall_const, not_true_eq_false, false_implies, W_X8_isAlike, st_t s0]
  refine c_of ok s o1 (by omega) (by omega) (by omega) ?_
  simp (disch := first | omega | decide | assumption | exact st_ne s0 (by decide) (by decide) (by decide) | exact dyn_ne (by assumption) (by decide) | fail) only [Int.reduceAdd, Int.reduceSub, Int.reduceNeg, ii_add, ii_sub, ii_mul, ii_lt, ii_le, ii_eq, ixn_ii, ixo_ii, rem_ii, nb_1, nb_0, nb_bb, bb_0, hI_gv, Int.toNat_of_nonneg, Int.cast_ofNat_Int, ht_sI, ht_sJ, ht_sR, hn_sI, hn_sJ, hn_sR, hR_sI, hR_sJ, kI_v, kV_v, kJ_v, true_and, and_true, forall_eq, tg, ln, rf, ne_eq, not_false_eq_true, forall_const, not_true_eq_false, false_implies, st_t s0]
  refine c_of ok s h1 (by omega) (by omega) (by omega) ?_
  simp (disch := first | omega | decide | assumption | exact st_ne s0 (by decide) (by decide) (by decide) | exact dyn_ne (by assumption) (by decide) | fail) only [Int.reduceAdd, Int.reduceSub, Int.reduceNeg, ii_add, ii_sub, ii_mul, ii_lt, ii_le, ii_eq, ixn_ii, ixo_ii, rem_ii, nb_1, nb_0, nb_bb, bb_0, hI_gv, Int.toNat_of_nonneg, Int.cast_ofNat_Int, ht_sI, ht_sJ, ht_sR, hn_sI, hn_sJ, hn_sR, hR_sI, hR_sJ, kI_v, kV_v, kJ_v, true_and, and_true, forall_eq, tg, ln, rf, ne_eq, not_false_eq_true, forall_const, not_true_eq_false, false_implies, st_t s0]
  refine ⟨fun g2 => ?_, fun g2 => ?_⟩
  · refine c_of ok s o1 (by omega) (by omega) (by omega) ?_
    simp (disch := first | omega | decide | assumption | exact st_ne s0 (by decide) (by decide) (by decide) | exact dyn_ne (by assumption) (by decide) | fail) only [Int.reduceAdd, Int.reduceSub, Int.reduceNeg, ii_add, ii_sub, ii_mul, ii_lt, ii_le, ii_eq, ixn_ii, ixo_ii, rem_ii, nb_1, nb_0, nb_bb, bb_0, hI_gv, Int.toNat_of_nonneg, Int.cast_ofNat_Int, ht_sI, ht_sJ, ht_sR, hn_sI, hn_sJ, hn_sR, hR_sI, hR_sJ, kI_v, kV_v, kJ_v, true_and, and_true, forall_eq, tg, ln, rf, ne_eq, not_false_eq_true, forall_const, not_true_eq_false, false_implies, st_t s0]
    refine c_of ok s h1 (by omega) (by omega) (by omega) ?_
    simp (disch := first | omega | decide | assumption | exact st_ne s0 (by decide) (by decide) (by decide) | exact dyn_ne (by assumption) (by decide) | fail) only [Int.reduceAdd, Int.reduceSub, Int.reduceNeg, ii_add, ii_sub, ii_mul, ii_lt, ii_le, ii_eq, ixn_ii, ixo_ii, rem_ii, nb_1, nb_0, nb_bb, bb_0, hI_gv, Int.toNat_of_nonneg, Int.cast_ofNat_Int, ht_sI, ht_sJ, ht_sR, hn_sI, hn_sJ, hn_sR, hR_sI, hR_sJ, kI_v, kV_v, kJ_v, true_and, and_true, forall_eq, tg, ln, rf, ne_eq, not_false_eq_true, forall_const, not_true_eq_false, false_implies]
    refine ⟨fun g3 => ?_, fun g3 => ?_⟩
    · rw [decide_eq_true ⟨g2, g3⟩] at q
      exact c_isAlike_41 ok s v o1 o2 h1 h2 (fd m p 6).toNat 0 true (by omega) (by omega) (fun _ => g3) q
    · rw [decide_eq_false (fun e => g3 e.2)] at q
      exact c_isAlike_41 ok s v o1 o2 h1 h2 (fd m p 6).toNat 0 false (by omega) (by omega) (fun e => by cases e) q
  · rw [decide_eq_false (fun e => g2 e.1)] at q
    exact c_isAlike_41 ok s v o1 o2 h1 h2 (fd m p 6).toNat 0 false (by omega) (by omega) (fun e => by cases e) q
theorem c_isTrue_108 (ok : tr_ok E) (s : mst ad h m one two H L) (v : vok m one two H L) (ra : acR ad h a) (f : fok H L a) (g : 0 < a.se) {l p x y : Int} (h1 : 0 ≤ p) (h2 : p < m 106) : ∀ (n : Nat) (k z : Int), k + n = a.fw → 0 ≤ k → 0 ≤ z → z ≤ 40 → tr_G E 188 Q 7 [some (.inr (.inr (ad 23))), some (.inl (ii l)), some (.inl (ii (x + (if z < sm (fun k => b2 (iw m a p k)) k n then 1 else 0)))), some (.inl (ii y)), some (.inl (ii (p + 1))), none, none] [] h 0 0 → tr_G E 188 Q 108 [some (.inr (.inr (ad 23))), some (.inl (ii l)), some (.inl (ii x)), some (.inl (ii y)), some (.inl (ii p)), some (.inl (ii z)), some (.inl (ii k))] [] h 0 0
  | n, k, z, hn, k0, z0, z1, q => by
    refine T_X8_isTrue_108 ok ?_
    have s0 := s.1
    have fw := f.1
    have a1 := (ra.2.2 g).1
    simp (disch := first | omega | decide | assumption | exact st_ne s0 (by decide) (by decide) (by decide) | exact dyn_ne (by assumption) (by decide) | fail) only [Int.reduceAdd, Int.reduceSub, Int.reduceNeg, ii_add, ii_sub, ii_mul, ii_lt, ii_le, ii_eq, ixn_ii, ixo_ii, rem_ii, nb_1, nb_0, nb_bb, bb_0, hI_gv, Int.toNat_of_nonneg, Int.cast_ofNat_Int, ht_sI, ht_sJ, ht_sR, hn_sI, hn_sJ, hn_sR, hR_sI, hR_sJ, kI_v, kV_v, kJ_v, true_and, and_true, forall_eq, tg, ln, rf, ne_eq, not_false_eq_true, forall_const, not_true_eq_false, false_implies, W_X8_isTrue_108, st_t s0, a1]
    refine ⟨fun g2 => ?_, fun g2 => ?_⟩
    · obtain ⟨n, rfl⟩ : ∃ n', n = n' + 1 := ⟨n - 1, by omega⟩
      have nn := sm_nn (f := fun k => b2 (iw m a p k)) n (k + 1) (fun j _ _ => (b2_rg _).1)
      refine c_isWalk ok s v ra f g h1 h2 k0 g2 ?_
      rw [sm_s] at q
      have ez : z + -1 = z - 1 := rfl
      simp (disch := first | omega | decide | assumption | exact st_ne s0 (by decide) (by decide) (by decide) | exact dyn_ne (by assumption) (by decide) | fail) only [Int.reduceAdd, Int.reduceSub, Int.reduceNeg, ii_add, ii_sub, ii_mul, ii_lt, ii_le, ii_eq, ixn_ii, ixo_ii, rem_ii, nb_1, nb_0, nb_bb, bb_0, hI_gv, Int.toNat_of_nonneg, Int.cast_ofNat_Int, ht_sI, ht_sJ, ht_sR, hn_sI, hn_sJ, hn_sR, hR_sI, hR_sJ, kI_v, kV_v, kJ_v, true_and, and_true, forall_eq, tg, ln, rf, ne_eq, not_false_eq_true, forall_const, not_true_eq_false, false_implies, ez]
      refine ⟨fun g3 => ?_, fun g3 => ⟨fun g4 => ?_, fun g4 => ?_⟩⟩
      · refine c_isTrue_108 ok s v ra f g h1 h2 n (k + 1) z (by omega) (by omega) z0 z1 ?_
        have e : b2 (iw m a p k) + sm (fun k => b2 (iw m a p k)) (k + 1) n = sm (fun k => b2 (iw m a p k)) (k + 1) n := by
          rw [g3]; exact Int.zero_add _
        rw [e] at q; exact q
      · rw [Bool.not_eq_false] at g3
        have e : b2 (iw m a p k) = 1 := by rw [g3]; rfl
        rw [e, if_pos (by omega)] at q
        exact q
      · rw [Bool.not_eq_false] at g3
        have e : b2 (iw m a p k) = 1 := by rw [g3]; rfl
        refine c_isTrue_108 ok s v ra f g h1 h2 n (k + 1) (z - 1) (by omega) (by omega) (by omega) (by omega) ?_
        rw [e] at q
        by_cases g5 : z - 1 < sm (fun k => b2 (iw m a p k)) (k + 1) n
        · rw [if_pos g5]; rw [if_pos (by omega)] at q; exact q
        · rw [if_neg g5]; rw [if_neg (by omega)] at q; exact q
    · obtain rfl : n = 0 := by omega
      rw [sm_0, if_neg (by omega), Int.add_zero] at q
      exact q
theorem c_isTrue_51 (ok : tr_ok E) (s : mst ad h m one two H L) (v : vok m one two H L) {l p x y : Int} (l0 : 0 ≤ l) (l1 : l ≤ 64) (h1 : 0 ≤ p) (h2 : p < m 106) : ∀ (n : Nat) (o z : Int), o + n = p → 0 ≤ o → 0 ≤ z → z ≤ o → tr_G E 188 Q 108 [some (.inr (.inr (ad 23))), some (.inl (ii l)), some (.inl (ii x)), some (.inl (ii y)), some (.inl (ii p)), some (.inl (ii (z + sm (fun o => b2 (cn m l o && alk m o p)) o n))), some (.inl (ii 0))] [] h 0 0 → tr_G E 188 Q 51 [some (.inr (.inr (ad 23))), some (.inl (ii l)), some (.inl (ii x)), some (.inl (ii y)), some (.inl (ii p)), some (.inl (ii z)), some (.inl (ii o))] [] h 0 0
  | n, o, z, hn, o0, z0, z1, q => by
    refine T_X8_isTrue_51 ok ?_
    have s0 := s.1
    have vm := v_m v
    have v5 := v_5 v
    have lr := lab_rg (p := o) v
    simp (disch := first | omega | decide | assumption | exact st_ne s0 (by decide) (by decide) (by decide) | exact dyn_ne (by assumption) (by decide) | fail) only [Int.reduceAdd, Int.reduceSub, Int.reduceNeg, ii_add, ii_sub, ii_mul, ii_lt, ii_le, ii_eq, ixn_ii, ixo_ii, rem_ii, nb_1, nb_0, nb_bb, bb_0, hI_gv, Int.toNat_of_nonneg, Int.cast_ofNat_Int, ht_sI, ht_sJ, ht_sR, hn_sI, hn_sJ, hn_sR, hR_sI, hR_sJ, kI_v, kV_v, kJ_v, true_and, and_true, forall_eq, tg, ln, rf, ne_eq, not_false_eq_true, forall_const, not_true_eq_false, false_implies, W_X8_isTrue_51, st_t s0]
    refine ⟨fun g2 => ?_, fun g2 => ?_⟩
    · obtain ⟨n, rfl⟩ : ∃ n', n = n' + 1 := ⟨n - 1, by omega⟩
      obtain ⟨-, -, -, -, o4, -, o6, o7⟩ := v_p v o0 (by omega : o < m 106)
      rw [sm_s, ← Int.add_assoc] at q
      unfold cn at q
      refine c_labelOf ok s v o0 (by omega) ?_
      simp (disch := first | omega | decide | assumption | exact st_ne s0 (by decide) (by decide) (by decide) | exact dyn_ne (by assumption) (by decide) | fail) only [Int.reduceAdd, Int.reduceSub, Int.reduceNeg, ii_add, ii_sub, ii_mul, ii_lt, ii_le, ii_eq, ixn_ii, ixo_ii, rem_ii, nb_1, nb_0, nb_bb, bb_0, hI_gv, Int.toNat_of_nonneg, Int.cast_ofNat_Int, ht_sI, ht_sJ, ht_sR, hn_sI, hn_sJ, hn_sR, hR_sI, hR_sJ, kI_v, kV_v, kJ_v, true_and, and_true, forall_eq, tg, ln, rf, ne_eq, not_false_eq_true, forall_const, not_true_eq_false, false_implies, st_t s0]
      refine ⟨fun g3 => ?_, fun g3 => ?_⟩
      · refine c_isChosen ok s v o0 (by omega) (by omega) (by omega) ?_
        rw [decide_eq_true g3, Bool.true_and] at q
        simp (disch := first | omega | decide | assumption | exact st_ne s0 (by decide) (by decide) (by decide) | exact dyn_ne (by assumption) (by decide) | fail) only [Int.reduceAdd, Int.reduceSub, Int.reduceNeg, ii_add, ii_sub, ii_mul, ii_lt, ii_le, ii_eq, ixn_ii, ixo_ii, rem_ii, nb_1, nb_0, nb_bb, bb_0, hI_gv, Int.toNat_of_nonneg, Int.cast_ofNat_Int, ht_sI, ht_sJ, ht_sR, hn_sI, hn_sJ, hn_sR, hR_sI, hR_sJ, kI_v, kV_v, kJ_v, true_and, and_true, forall_eq, tg, ln, rf, ne_eq, not_false_eq_true, forall_const, not_true_eq_false, false_implies, st_t s0]
        refine ⟨fun g4 => ?_, fun g4 => ?_⟩
        · rw [g4] at q
          exact c_isTrue_51 ok s v l0 l1 h1 h2 n (o + 1) _ (by omega) (by omega) (by omega) (by omega) q
        · rw [Bool.not_eq_false] at g4
          rw [g4] at q
          refine c_isAlike ok s v o0 (by omega) h1 h2 ?_
          simp (disch := first | omega | decide | assumption | exact st_ne s0 (by decide) (by decide) (by decide) | exact dyn_ne (by assumption) (by decide) | fail) only [Int.reduceAdd, Int.reduceSub, Int.reduceNeg, ii_add, ii_sub, ii_mul, ii_lt, ii_le, ii_eq, ixn_ii, ixo_ii, rem_ii, nb_1, nb_0, nb_bb, bb_0, hI_gv, Int.toNat_of_nonneg, Int.cast_ofNat_Int, ht_sI, ht_sJ, ht_sR, hn_sI, hn_sJ, hn_sR, hR_sI, hR_sJ, kI_v, kV_v, kJ_v, true_and, and_true, forall_eq, tg, ln, rf, ne_eq, not_false_eq_true, forall_const, not_true_eq_false, false_implies]
          refine ⟨fun g5 => ?_, fun g5 => ?_⟩
          · rw [g5] at q
            exact c_isTrue_51 ok s v l0 l1 h1 h2 n (o + 1) _ (by omega) (by omega) (by omega) (by omega) q
          · rw [Bool.not_eq_false] at g5
            rw [g5] at q
            exact c_isTrue_51 ok s v l0 l1 h1 h2 n (o + 1) _ (by omega) (by omega) (by omega) (by omega) q
      · rw [decide_eq_false g3, Bool.false_and, Bool.false_and] at q
        exact c_isTrue_51 ok s v l0 l1 h1 h2 n (o + 1) _ (by omega) (by omega) (by omega) (by omega) q
    · obtain rfl : n = 0 := by omega
      rw [sm_0, Int.add_zero] at q
      exact q
theorem c_isTrue_7 (ok : tr_ok E) (s : mst ad h m one two H L) (v : vok m one two H L) (ra : acR ad h a) (f : fok H L a) (g : 0 < a.se) {l : Int} (l0 : 0 ≤ l) (l1 : l ≤ 64) : ∀ (n : Nat) (p x y : Int), p + n = m 106 → 0 ≤ p → 0 ≤ x → x ≤ p → 0 ≤ y → y ≤ p → Q (.inl (some (.inl (bb (decide (y + sm (fun p => b2 (cn m l p)) p n = a.fw ∧ x + sm (fun p => b2 (cn m l p && decide (lik m l p < tot m a p))) p n = y + sm (fun p => b2 (cn m l p)) p n)))))) h → tr_G E 188 Q 7 [some (.inr (.inr (ad 23))), some (.inl (ii l)), some (.inl (ii x)), some (.inl (ii y)), some (.inl (ii p)), none, none] [] h 0 0
  | n, p, x, y, hn, h1, x0, x1, y0, y1, q => by
    refine T_X8_isTrue_7 ok ?_
    have s0 := s.1
    have em := s.2.1
    have vm := v_m v
    have v5 := v_5 v
    have fw := f.1
    have a1 := (ra.2.2 g).1
    have lr := lab_rg (p := p) v
    simp (disch := first | omega | decide | assumption | exact st_ne s0 (by decide) (by decide) (by decide) | exact dyn_ne (by assumption) (by decide) | fail) only [Int.reduceAdd, Int.reduceSub, Int.reduceNeg, ii_add, ii_sub, ii_mul, ii_lt, ii_le, ii_eq, ixn_ii, ixo_ii, rem_ii, nb_1, nb_0, nb_bb, bb_0, hI_gv, Int.toNat_of_nonneg, Int.cast_ofNat_Int, ht_sI, ht_sJ, ht_sR, hn_sI, hn_sJ, hn_sR, hR_sI, hR_sJ, kI_v, kV_v, kJ_v, true_and, and_true, forall_eq, tg, ln, rf, ne_eq, not_false_eq_true, forall_const, not_true_eq_false, false_implies, W_X8_isTrue_7, st_t s0, st_n s0, st_r s0, em, a1]
    refine ⟨by omega, fun h2 => ?_, fun g2 => ⟨fun g3 => ⟨fun g4 => ?_, fun g4 => ?_⟩, fun g3 => ?_⟩⟩
    · obtain ⟨n, rfl⟩ : ∃ n', n = n' + 1 := ⟨n - 1, by omega⟩
      obtain ⟨q0, q1, q2, q3, q4, q5, q6, q7⟩ := v_p v h1 h2
      rw [sm_s, sm_s, ← Int.add_assoc, ← Int.add_assoc] at q
      refine c_labelOf ok s v h1 h2 ?_
      simp (disch := first | omega | decide | assumption | exact st_ne s0 (by decide) (by decide) (by decide) | exact dyn_ne (by assumption) (by decide) | fail) only [Int.reduceAdd, Int.reduceSub, Int.reduceNeg, ii_add, ii_sub, ii_mul, ii_lt, ii_le, ii_eq, ixn_ii, ixo_ii, rem_ii, nb_1, nb_0, nb_bb, bb_0, hI_gv, Int.toNat_of_nonneg, Int.cast_ofNat_Int, ht_sI, ht_sJ, ht_sR, hn_sI, hn_sJ, hn_sR, hR_sI, hR_sJ, kI_v, kV_v, kJ_v, true_and, and_true, forall_eq, tg, ln, rf, ne_eq, not_false_eq_true, forall_const, not_true_eq_false, false_implies, st_t s0]
      refine ⟨fun g3 => ?_, fun g3 => ?_⟩
      · refine c_isChosen ok s v h1 h2 (by omega) (by omega) ?_
        simp (disch := first | omega | decide | assumption | exact st_ne s0 (by decide) (by decide) (by decide) | exact dyn_ne (by assumption) (by decide) | fail) only [Int.reduceAdd, Int.reduceSub, Int.reduceNeg, ii_add, ii_sub, ii_mul, ii_lt, ii_le, ii_eq, ixn_ii, ixo_ii, rem_ii, nb_1, nb_0, nb_bb, bb_0, hI_gv, Int.toNat_of_nonneg, Int.cast_ofNat_Int, ht_sI, ht_sJ, ht_sR, hn_sI, hn_sJ, hn_sR, hR_sI, hR_sJ, kI_v, kV_v, kJ_v, true_and, and_true, forall_eq, tg, ln, rf, ne_eq, not_false_eq_true, forall_const, not_true_eq_false, false_implies]
        refine ⟨fun g4 => ?_, fun g4 => ?_⟩
        · have e : cn m l p = false := by unfold cn; rw [g4, Bool.and_false]
          have e0 : b2 (cn m l p) = 0 := by rw [e]; rfl
          have e1 : b2 (cn m l p && decide (lik m l p < tot m a p)) = 0 := by rw [e]; rfl
          rw [e0, e1, Int.add_zero, Int.add_zero] at q
          exact c_isTrue_7 ok s v ra f g l0 l1 n (p + 1) x y (by omega) (by omega) (by omega) (by omega) (by omega) (by omega) q
        · rw [Bool.not_eq_false] at g4
          have e : cn m l p = true := by unfold cn; rw [g4, decide_eq_true g3]; rfl
          have e0 : b2 (cn m l p) = 1 := by rw [e]; rfl
          have e1 : b2 (cn m l p && decide (lik m l p < tot m a p)) = if lik m l p < tot m a p then 1 else 0 := by
            rw [e, Bool.true_and]
            by_cases g : lik m l p < tot m a p
            · rw [if_pos g, decide_eq_true g]; rfl
            · rw [if_neg g, decide_eq_false g]; rfl
          rw [e0, e1] at q
          refine c_isTrue_51 ok s v l0 l1 h1 h2 p.toNat 0 0 (by omega) (by omega) (by omega) (by omega) ?_
          rw [Int.zero_add]
          have lk0 : 0 ≤ lik m l p ∧ lik m l p ≤ 40 := by
            have := sm_rg (f := fun o => b2 (cn m l o && alk m o p)) (lo := 0) (hi := 1) p.toNat 0 (fun j _ _ => b2_rg _)
            unfold lik
            omega
          refine c_isTrue_108 ok s v ra f g h1 h2 a.fw.toNat 0 _ (by omega) (by omega) lk0.1 lk0.2 ?_
          have xr : 0 ≤ (if lik m l p < tot m a p then 1 else 0 : Int) ∧ (if lik m l p < tot m a p then 1 else 0 : Int) ≤ 1 := by
            split <;> omega
          exact c_isTrue_7 ok s v ra f g l0 l1 n (p + 1) _ _ (by omega) (by omega) (by omega) (by omega) (by omega) (by omega) q
      · have e : cn m l p = false := by unfold cn; rw [decide_eq_false g3, Bool.false_and]
        have e0 : b2 (cn m l p) = 0 := by rw [e]; rfl
        have e1 : b2 (cn m l p && decide (lik m l p < tot m a p)) = 0 := by rw [e]; rfl
        rw [e0, e1, Int.add_zero, Int.add_zero] at q
        exact c_isTrue_7 ok s v ra f g l0 l1 n (p + 1) x y (by omega) (by omega) (by omega) (by omega) (by omega) (by omega) q
    · obtain rfl : n = 0 := by omega
      rw [sm_0, sm_0, Int.add_zero, Int.add_zero, decide_eq_true ⟨g3, g4⟩] at q
      exact q
    · obtain rfl : n = 0 := by omega
      rw [sm_0, sm_0, Int.add_zero, Int.add_zero, decide_eq_false (fun e => g4 e.2)] at q
      exact q
    · obtain rfl : n = 0 := by omega
      rw [sm_0, sm_0, Int.add_zero, Int.add_zero, decide_eq_false (fun e => g3 e.1)] at q
      exact q
theorem c_isTrue (ok : tr_ok E) (s : mst ad h m one two H L) (v : vok m one two H L) (ra : acR ad h a) (f : fok H L a) (g : 0 < a.se) {l : Int} (l0 : 0 ≤ l) (l1 : l ≤ 64) (fe : a.fw = el m l) (q : Q (.inl (some (.inl (bb (tru m a l))))) h) : tr_C E 188 [.inr (.inr (ad 23)), .inl (ii l)] h Q := by
  refine T_X8_isTrue ok ?_
  have vm := v_m v
  refine c_isTrue_7 ok s v ra f g l0 l1 (m 106).toNat 0 0 0 (by omega) (by omega) (by omega) (by omega) (by omega) (by omega) ?_
  rw [Int.zero_add, Int.zero_add]
  have e := tr2_tru (m := m) (a := a) (l := l) ((cn_el v).trans fe.symm)
  unfold tr2 at e
  rw [e]; exact q
end TRM
