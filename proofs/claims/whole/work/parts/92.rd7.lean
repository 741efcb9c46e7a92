/-! TEXT: the class's reader, all of it -/
section RD7
variable {E : tr_Env} {ad : Nat → Nat} {hb h h0 h1 h2 : tr_H} {Q : tr_Q} {t m one two m' o' w' : Int → Int} {n s p H L H' L' a b : Int} {q nn : Nat}
theorem wd_p {x : List Nat} (xl : ∀ i, i < x.length → 97 ≤ x.getD i 0 ∧ x.getD i 0 ≤ 122) (s1 : s ≤ n) (g : wdB t n s x = true) : skp (cL t) n s = s + x.length := by
  have := ((wd_c xl s1).2 g).1
  omega
theorem k_readLine (ok : tr_ok E) (r : RD hb ad h q t n s m one two H L) (v : vk m one two H L) (qX : ∀ k z, lnOne t m one two n s H L = .inl (k, z) → ∀ h', wn hb h h' → gv h' q 8 = k → gv h' q 9 = z → Q (.inl (some (.inl (ii 0)))) h') (qY : ∀ p' m' o' w' L', lnOne t m one two n s H L = .inr (p', m', o', w', L') → ∀ h', wn hb h h' → RD hb ad h' q t n p' m' o' w' H L' → Q (.inl (some (.inl (ii 1)))) h') : tr_C E 46 [.inr (.inr q)] h Q := by
  refine T_X4_readLine ok ?_
  obtain ⟨t5, t3⟩ := RD_5 r
  have o0 := r.2.2.2.1.1
  obtain ⟨s', c0, c1, c2, c3, c4, c5, c6, c7⟩ := id r.1
  have i2 : hI h q 2 = ii s := hI_e c3
  refine ⟨t5, t5, k_skipL ok r.1 (fun h1 x1 e1 r1 => ?_)⟩
  have R1 : RD hb ad h1 q t n (skp (cL t) n s) m one two H L := RD_w r x1 (by rw [e1, ud_ne (by decide)]) (by rw [e1, ud_ne (by decide)]) (by rw [e1, ud_eq]) r1.2.2.2.2.2.2.1 r1.2.2.2.2.2.2.2.1
  have W1 : wn hb h h1 := wn_wr o0 x1
  obtain ⟨t51, t31⟩ := RD_5 R1
  unfold lnOne at qX qY
  rw [i2]
  have at4 : ∀ {x : List Nat}, (∀ i, i < x.length → 97 ≤ x.getD i 0 ∧ x.getD i 0 ≤ 122) → wdB t n s x = true → RD hb ad h1 q t n (s + x.length) m one two H L := fun {x} xl g => by
    rw [← wd_p xl c6 g]; exact R1
  refine fun t2 b2 => ⟨t51, k_isWord ok r1 b2 (by decide) (by decide) c5 c6 ⟨fun g1 => ?_, fun g1 => ?_⟩⟩
  rotate_left
  · rw [bb_0, Bool.not_eq_false] at g1
    rw [if_pos g1] at qX qY
    refine ⟨t51, k_readLink ok (at4 (by decide) g1) v c5 (by omega) (fun k z e h' w' e8 e9 => ?_) (fun p' m' o' w' L' e h' W' R' => ?_)⟩
    · have fin := qX k z e h' (wn_tr W1 w') e8 e9
      simp (disch := first | omega | decide | assumption | exact st_ne s0 (by decide) (by decide) (by decide) | exact dyn_ne (by assumption) (by decide) | fail) only [Int.reduceAdd, Int.reduceSub, Int.reduceNeg, ii_add, ii_sub, ii_mul, ii_lt, ii_le, ii_eq, ixn_ii, ixo_ii, rem_ii, nb_1, nb_0, nb_bb, bb_0, hI_gv, Int.toNat_of_nonneg, Int.cast_ofNat_Int, ht_sI, ht_sJ, ht_sR, hn_sI, hn_sJ, hn_sR, hR_sI, hR_sJ, kI_v, kV_v, kJ_v, true_and, and_true, forall_eq, tg, ln, rf, ne_eq, not_false_eq_true, forall_const, not_true_eq_false, false_implies, Int.reduceEq, Int.reduceLT, Int.reduceLE, implies_true, and_self, reduceCtorEq, false_and,]
      exact fin
    · have fin := qY _ _ _ _ _ e h' (wn_tr W1 W') R'
      simp (disch := first | omega | decide | assumption | exact st_ne s0 (by decide) (by decide) (by decide) | exact dyn_ne (by assumption) (by decide) | fail) only [Int.reduceAdd, Int.reduceSub, Int.reduceNeg, ii_add, ii_sub, ii_mul, ii_lt, ii_le, ii_eq, ixn_ii, ixo_ii, rem_ii, nb_1, nb_0, nb_bb, bb_0, hI_gv, Int.toNat_of_nonneg, Int.cast_ofNat_Int, ht_sI, ht_sJ, ht_sR, hn_sI, hn_sJ, hn_sR, hR_sI, hR_sJ, kI_v, kV_v, kJ_v, true_and, and_true, forall_eq, tg, ln, rf, ne_eq, not_false_eq_true, forall_const, not_true_eq_false, false_implies, Int.reduceEq, Int.reduceLT, Int.reduceLE, implies_true, and_self, reduceCtorEq, false_and,]
      exact fin
  rw [bb_0] at g1
  rw [if_neg (by rw [g1]; decide)] at qX qY
  refine fun t2 b2 => ⟨t51, k_isWord ok r1 b2 (by decide) (by decide) c5 c6 ⟨fun g2 => ?_, fun g2 => ?_⟩⟩
  rotate_left
  · rw [bb_0, Bool.not_eq_false] at g2
    rw [if_pos g2] at qX qY
    refine ⟨t51, k_readCut ok (at4 (by decide) g2) v (fun k z e h' w' e8 e9 => ?_) (fun p' m' o' w' L' e h' W' R' => ?_)⟩
    · have fin := qX k z e h' (wn_tr W1 w') e8 e9
      simp (disch := first | omega | decide | assumption | exact st_ne s0 (by decide) (by decide) (by decide) | exact dyn_ne (by assumption) (by decide) | fail) only [Int.reduceAdd, Int.reduceSub, Int.reduceNeg, ii_add, ii_sub, ii_mul, ii_lt, ii_le, ii_eq, ixn_ii, ixo_ii, rem_ii, nb_1, nb_0, nb_bb, bb_0, hI_gv, Int.toNat_of_nonneg, Int.cast_ofNat_Int, ht_sI, ht_sJ, ht_sR, hn_sI, hn_sJ, hn_sR, hR_sI, hR_sJ, kI_v, kV_v, kJ_v, true_and, and_true, forall_eq, tg, ln, rf, ne_eq, not_false_eq_true, forall_const, not_true_eq_false, false_implies, Int.reduceEq, Int.reduceLT, Int.reduceLE, implies_true, and_self, reduceCtorEq, false_and,]
      exact fin
    · have fin := qY _ _ _ _ _ e h' (wn_tr W1 W') R'
      simp (disch := first | omega | decide | assumption | exact st_ne s0 (by decide) (by decide) (by decide) | exact dyn_ne (by assumption) (by decide) | fail) only [Int.reduceAdd, Int.reduceSub, Int.reduceNeg, ii_add, ii_sub, ii_mul, ii_lt, ii_le, ii_eq, ixn_ii, ixo_ii, rem_ii, nb_1, nb_0, nb_bb, bb_0, hI_gv, Int.toNat_of_nonneg, Int.cast_ofNat_Int, ht_sI, ht_sJ, ht_sR, hn_sI, hn_sJ, hn_sR, hR_sI, hR_sJ, kI_v, kV_v, kJ_v, true_and, and_true, forall_eq, tg, ln, rf, ne_eq, not_false_eq_true, forall_const, not_true_eq_false, false_implies, Int.reduceEq, Int.reduceLT, Int.reduceLE, implies_true, and_self, reduceCtorEq, false_and,]
      exact fin
  rw [bb_0] at g2
  rw [if_neg (by rw [g2]; decide)] at qX qY
  refine fun t2 b2 => ⟨t51, k_isWord ok r1 b2 (by decide) (by decide) c5 c6 ⟨fun g3 => ?_, fun g3 => ?_⟩⟩
  rotate_left
  · rw [bb_0, Bool.not_eq_false] at g3
    rw [if_pos g3] at qX qY
    refine ⟨t51, k_readRoute ok (at4 (by decide) g3) v (fun k z e h' w' e8 e9 => ?_) (fun p' m' o' w' L' e h' W' R' => ?_)⟩
    · have fin := qX k z e h' (wn_tr W1 w') e8 e9
      simp (disch := first | omega | decide | assumption | exact st_ne s0 (by decide) (by decide) (by decide) | exact dyn_ne (by assumption) (by decide) | fail) only [Int.reduceAdd, Int.reduceSub, Int.reduceNeg, ii_add, ii_sub, ii_mul, ii_lt, ii_le, ii_eq, ixn_ii, ixo_ii, rem_ii, nb_1, nb_0, nb_bb, bb_0, hI_gv, Int.toNat_of_nonneg, Int.cast_ofNat_Int, ht_sI, ht_sJ, ht_sR, hn_sI, hn_sJ, hn_sR, hR_sI, hR_sJ, kI_v, kV_v, kJ_v, true_and, and_true, forall_eq, tg, ln, rf, ne_eq, not_false_eq_true, forall_const, not_true_eq_false, false_implies, Int.reduceEq, Int.reduceLT, Int.reduceLE, implies_true, and_self, reduceCtorEq, false_and,]
      exact fin
    · have fin := qY _ _ _ _ _ e h' (wn_tr W1 W') R'
      simp (disch := first | omega | decide | assumption | exact st_ne s0 (by decide) (by decide) (by decide) | exact dyn_ne (by assumption) (by decide) | fail) only [Int.reduceAdd, Int.reduceSub, Int.reduceNeg, ii_add, ii_sub, ii_mul, ii_lt, ii_le, ii_eq, ixn_ii, ixo_ii, rem_ii, nb_1, nb_0, nb_bb, bb_0, hI_gv, Int.toNat_of_nonneg, Int.cast_ofNat_Int, ht_sI, ht_sJ, ht_sR, hn_sI, hn_sJ, hn_sR, hR_sI, hR_sJ, kI_v, kV_v, kJ_v, true_and, and_true, forall_eq, tg, ln, rf, ne_eq, not_false_eq_true, forall_const, not_true_eq_false, false_implies, Int.reduceEq, Int.reduceLT, Int.reduceLE, implies_true, and_self, reduceCtorEq, false_and,]
      exact fin
  rw [bb_0] at g3
  rw [if_neg (by rw [g3]; decide)] at qX qY
  refine fun t2 b2 => ⟨t51, k_isWord ok r1 b2 (by decide) (by decide) c5 c6 ⟨fun g4 => ?_, fun g4 => ?_⟩⟩
  rotate_left
  · rw [bb_0, Bool.not_eq_false] at g4
    rw [if_pos g4] at qX qY
    unfold lnBase at qX qY
    refine ⟨t51, k_setting ok (at4 (by decide) g4) (w := 1) (by omega) (by omega) (fun nk h' w' e8 e9 => ?_) (fun nk h3 W3 R3 => ?_)⟩
    · have fin := qX _ _ (if_pos nk) h' (wn_tr W1 w') e8 e9
      simp (disch := first | omega | decide | assumption | exact st_ne s0 (by decide) (by decide) (by decide) | exact dyn_ne (by assumption) (by decide) | fail) only [Int.reduceAdd, Int.reduceSub, Int.reduceNeg, ii_add, ii_sub, ii_mul, ii_lt, ii_le, ii_eq, ixn_ii, ixo_ii, rem_ii, nb_1, nb_0, nb_bb, bb_0, hI_gv, Int.toNat_of_nonneg, Int.cast_ofNat_Int, ht_sI, ht_sJ, ht_sR, hn_sI, hn_sJ, hn_sR, hR_sI, hR_sJ, kI_v, kV_v, kJ_v, true_and, and_true, forall_eq, tg, ln, rf, ne_eq, not_false_eq_true, forall_const, not_true_eq_false, false_implies, Int.reduceEq, Int.reduceLT, Int.reduceLE, implies_true, and_self, reduceCtorEq, false_and,]
      exact fin
    · rw [if_neg (fun e => e nk)] at qX qY
      obtain ⟨t53, t33⟩ := RD_5 R3
      simp (disch := first | omega | decide | assumption | exact st_ne s0 (by decide) (by decide) (by decide) | exact dyn_ne (by assumption) (by decide) | fail) only [Int.reduceAdd, Int.reduceSub, Int.reduceNeg, ii_add, ii_sub, ii_mul, ii_lt, ii_le, ii_eq, ixn_ii, ixo_ii, rem_ii, nb_1, nb_0, nb_bb, bb_0, hI_gv, Int.toNat_of_nonneg, Int.cast_ofNat_Int, ht_sI, ht_sJ, ht_sR, hn_sI, hn_sJ, hn_sR, hR_sI, hR_sJ, kI_v, kV_v, kJ_v, true_and, and_true, forall_eq, tg, ln, rf, ne_eq, not_false_eq_true, forall_const, not_true_eq_false, false_implies, Int.reduceEq, Int.reduceLT, Int.reduceLE, implies_true, and_self, reduceCtorEq, false_and, t53]
      refine k_setting ok R3 (w := 2) (by omega) (by omega) (fun nk h' w' e8 e9 => ?_) (fun nk h' W' R' => ?_)
      · have fin := qX _ _ (if_pos nk) h' (wn_tr W1 (wn_tr W3 w')) e8 e9
        simp (disch := first | omega | decide | assumption | exact st_ne s0 (by decide) (by decide) (by decide) | exact dyn_ne (by assumption) (by decide) | fail) only [Int.reduceAdd, Int.reduceSub, Int.reduceNeg, ii_add, ii_sub, ii_mul, ii_lt, ii_le, ii_eq, ixn_ii, ixo_ii, rem_ii, nb_1, nb_0, nb_bb, bb_0, hI_gv, Int.toNat_of_nonneg, Int.cast_ofNat_Int, ht_sI, ht_sJ, ht_sR, hn_sI, hn_sJ, hn_sR, hR_sI, hR_sJ, kI_v, kV_v, kJ_v, true_and, and_true, forall_eq, tg, ln, rf, ne_eq, not_false_eq_true, forall_const, not_true_eq_false, false_implies, Int.reduceEq, Int.reduceLT, Int.reduceLE, implies_true, and_self, reduceCtorEq, false_and,]
        exact fin
      · have fin := qY _ _ _ _ _ (if_neg (fun e => e nk)) h' (wn_tr W1 (wn_tr W3 W')) R'
        simp (disch := first | omega | decide | assumption | exact st_ne s0 (by decide) (by decide) (by decide) | exact dyn_ne (by assumption) (by decide) | fail) only [Int.reduceAdd, Int.reduceSub, Int.reduceNeg, ii_add, ii_sub, ii_mul, ii_lt, ii_le, ii_eq, ixn_ii, ixo_ii, rem_ii, nb_1, nb_0, nb_bb, bb_0, hI_gv, Int.toNat_of_nonneg, Int.cast_ofNat_Int, ht_sI, ht_sJ, ht_sR, hn_sI, hn_sJ, hn_sR, hR_sI, hR_sJ, kI_v, kV_v, kJ_v, true_and, and_true, forall_eq, tg, ln, rf, ne_eq, not_false_eq_true, forall_const, not_true_eq_false, false_implies, Int.reduceEq, Int.reduceLT, Int.reduceLE, implies_true, and_self, reduceCtorEq, false_and,]
        exact fin
  rw [bb_0] at g4
  rw [if_neg (by rw [g4]; decide)] at qX qY
  refine fun t2 b2 => ⟨t51, k_isWord ok r1 b2 (by decide) (by decide) c5 c6 ⟨fun g5 => ?_, fun g5 => ?_⟩⟩
  rotate_left
  · rw [bb_0, Bool.not_eq_false] at g5
    rw [if_pos g5] at qX qY
    unfold lnSet at qX qY
    refine ⟨t51, k_setting ok (at4 (by decide) g5) (w := 3) (by omega) (by omega) (fun nk h' w' e8 e9 => ?_) (fun nk h' W' R' => ?_)⟩
    · have fin := qX _ _ (if_pos nk) h' (wn_tr W1 w') e8 e9
      simp (disch := first | omega | decide | assumption | exact st_ne s0 (by decide) (by decide) (by decide) | exact dyn_ne (by assumption) (by decide) | fail) only [Int.reduceAdd, Int.reduceSub, Int.reduceNeg, ii_add, ii_sub, ii_mul, ii_lt, ii_le, ii_eq, ixn_ii, ixo_ii, rem_ii, nb_1, nb_0, nb_bb, bb_0, hI_gv, Int.toNat_of_nonneg, Int.cast_ofNat_Int, ht_sI, ht_sJ, ht_sR, hn_sI, hn_sJ, hn_sR, hR_sI, hR_sJ, kI_v, kV_v, kJ_v, true_and, and_true, forall_eq, tg, ln, rf, ne_eq, not_false_eq_true, forall_const, not_true_eq_false, false_implies, Int.reduceEq, Int.reduceLT, Int.reduceLE, implies_true, and_self, reduceCtorEq, false_and,]
      exact fin
    · have fin := qY _ _ _ _ _ (if_neg (fun e => e nk)) h' (wn_tr W1 W') R'
      simp (disch := first | omega | decide | assumption | exact st_ne s0 (by decide) (by decide) (by decide) | exact dyn_ne (by assumption) (by decide) | fail) only [Int.reduceAdd, Int.reduceSub, Int.reduceNeg, ii_add, ii_sub, ii_mul, ii_lt, ii_le, ii_eq, ixn_ii, ixo_ii, rem_ii, nb_1, nb_0, nb_bb, bb_0, hI_gv, Int.toNat_of_nonneg, Int.cast_ofNat_Int, ht_sI, ht_sJ, ht_sR, hn_sI, hn_sJ, hn_sR, hR_sI, hR_sJ, kI_v, kV_v, kJ_v, true_and, and_true, forall_eq, tg, ln, rf, ne_eq, not_false_eq_true, forall_const, not_true_eq_false, false_implies, Int.reduceEq, Int.reduceLT, Int.reduceLE, implies_true, and_self, reduceCtorEq, false_and,]
      exact fin
  rw [bb_0] at g5
  rw [if_neg (by rw [g5]; decide)] at qX qY
  refine fun t2 b2 => ⟨t51, k_isWord ok r1 b2 (by decide) (by decide) c5 c6 ⟨fun g6 => ?_, fun g6 => ?_⟩⟩
  rotate_left
  · rw [bb_0, Bool.not_eq_false] at g6
    rw [if_pos g6] at qX qY
    unfold lnSet at qX qY
    refine ⟨t51, k_setting ok (at4 (by decide) g6) (w := 0) (by omega) (by omega) (fun nk h' w' e8 e9 => ?_) (fun nk h' W' R' => ?_)⟩
    · have fin := qX _ _ (if_pos nk) h' (wn_tr W1 w') e8 e9
      simp (disch := first | omega | decide | assumption | exact st_ne s0 (by decide) (by decide) (by decide) | exact dyn_ne (by assumption) (by decide) | fail) only [Int.reduceAdd, Int.reduceSub, Int.reduceNeg, ii_add, ii_sub, ii_mul, ii_lt, ii_le, ii_eq, ixn_ii, ixo_ii, rem_ii, nb_1, nb_0, nb_bb, bb_0, hI_gv, Int.toNat_of_nonneg, Int.cast_ofNat_Int, ht_sI, ht_sJ, ht_sR, hn_sI, hn_sJ, hn_sR, hR_sI, hR_sJ, kI_v, kV_v, kJ_v, true_and, and_true, forall_eq, tg, ln, rf, ne_eq, not_false_eq_true, forall_const, not_true_eq_false, false_implies, Int.reduceEq, Int.reduceLT, Int.reduceLE, implies_true, and_self, reduceCtorEq, false_and,]
      exact fin
    · have fin := qY _ _ _ _ _ (if_neg (fun e => e nk)) h' (wn_tr W1 W') R'
      simp (disch := first | omega | decide | assumption | exact st_ne s0 (by decide) (by decide) (by decide) | exact dyn_ne (by assumption) (by decide) | fail) only [Int.reduceAdd, Int.reduceSub, Int.reduceNeg, ii_add, ii_sub, ii_mul, ii_lt, ii_le, ii_eq, ixn_ii, ixo_ii, rem_ii, nb_1, nb_0, nb_bb, bb_0, hI_gv, Int.toNat_of_nonneg, Int.cast_ofNat_Int, ht_sI, ht_sJ, ht_sR, hn_sI, hn_sJ, hn_sR, hR_sI, hR_sJ, kI_v, kV_v, kJ_v, true_and, and_true, forall_eq, tg, ln, rf, ne_eq, not_false_eq_true, forall_const, not_true_eq_false, false_implies, Int.reduceEq, Int.reduceLT, Int.reduceLE, implies_true, and_self, reduceCtorEq, false_and,]
      exact fin
  rw [bb_0] at g6
  rw [if_neg (by rw [g6]; decide)] at qX qY
  refine fun t2 b2 => ⟨t51, k_isWord ok r1 b2 (by decide) (by decide) c5 c6 ⟨fun g7 => ?_, fun g7 => ?_⟩⟩
  rotate_left
  · rw [bb_0, Bool.not_eq_false] at g7
    rw [if_pos g7] at qX qY
    unfold lnSet at qX qY
    refine ⟨t51, k_setting ok (at4 (by decide) g7) (w := 4) (by omega) (by omega) (fun nk h' w' e8 e9 => ?_) (fun nk h' W' R' => ?_)⟩
    · have fin := qX _ _ (if_pos nk) h' (wn_tr W1 w') e8 e9
      simp (disch := first | omega | decide | assumption | exact st_ne s0 (by decide) (by decide) (by decide) | exact dyn_ne (by assumption) (by decide) | fail) only [Int.reduceAdd, Int.reduceSub, Int.reduceNeg, ii_add, ii_sub, ii_mul, ii_lt, ii_le, ii_eq, ixn_ii, ixo_ii, rem_ii, nb_1, nb_0, nb_bb, bb_0, hI_gv, Int.toNat_of_nonneg, Int.cast_ofNat_Int, ht_sI, ht_sJ, ht_sR, hn_sI, hn_sJ, hn_sR, hR_sI, hR_sJ, kI_v, kV_v, kJ_v, true_and, and_true, forall_eq, tg, ln, rf, ne_eq, not_false_eq_true, forall_const, not_true_eq_false, false_implies, Int.reduceEq, Int.reduceLT, Int.reduceLE, implies_true, and_self, reduceCtorEq, false_and,]
      exact fin
    · have fin := qY _ _ _ _ _ (if_neg (fun e => e nk)) h' (wn_tr W1 W') R'
      simp (disch := first | omega | decide | assumption | exact st_ne s0 (by decide) (by decide) (by decide) | exact dyn_ne (by assumption) (by decide) | fail) only [Int.reduceAdd, Int.reduceSub, Int.reduceNeg, ii_add, ii_sub, ii_mul, ii_lt, ii_le, ii_eq, ixn_ii, ixo_ii, rem_ii, nb_1, nb_0, nb_bb, bb_0, hI_gv, Int.toNat_of_nonneg, Int.cast_ofNat_Int, ht_sI, ht_sJ, ht_sR, hn_sI, hn_sJ, hn_sR, hR_sI, hR_sJ, kI_v, kV_v, kJ_v, true_and, and_true, forall_eq, tg, ln, rf, ne_eq, not_false_eq_true, forall_const, not_true_eq_false, false_implies, Int.reduceEq, Int.reduceLT, Int.reduceLE, implies_true, and_self, reduceCtorEq, false_and,]
      exact fin
  rw [bb_0] at g7
  rw [if_neg (by rw [g7]; decide)] at qX qY
  refine ⟨t51, k_refuse ok t51 (by omega) (by omega) (by omega) (by omega) (fun h' w' e' => ?_)⟩
  have fin := qX _ _ rfl h' (wn_tr W1 (wn_wr o0 w')) (by rw [e', ud_ne (by decide), ud_eq]) (by rw [e', ud_eq])
  simp (disch := first | omega | decide | assumption | exact st_ne s0 (by decide) (by decide) (by decide) | exact dyn_ne (by assumption) (by decide) | fail) only [Int.reduceAdd, Int.reduceSub, Int.reduceNeg, ii_add, ii_sub, ii_mul, ii_lt, ii_le, ii_eq, ixn_ii, ixo_ii, rem_ii, nb_1, nb_0, nb_bb, bb_0, hI_gv, Int.toNat_of_nonneg, Int.cast_ofNat_Int, ht_sI, ht_sJ, ht_sR, hn_sI, hn_sJ, hn_sR, hR_sI, hR_sJ, kI_v, kV_v, kJ_v, true_and, and_true, forall_eq, tg, ln, rf, ne_eq, not_false_eq_true, forall_const, not_true_eq_false, false_implies, Int.reduceEq, Int.reduceLT, Int.reduceLE, implies_true, and_self, reduceCtorEq, false_and,]
  exact fin
theorem nst_H (w : nst ad h q m one two H L) (o : own hb h q) {x : Int} (x0 : 0 ≤ x) (x1 : x ≤ 1000) : nst ad (hsI h q 0 (ii x)) q m one two x L := by
  obtain ⟨n0, n1, n2, ⟨sa, sb, sc⟩, ⟨ea, eb, ec⟩, ⟨ua, ub, uc⟩, ⟨ra, rb, rc⟩, ⟨ga, gb, g0, g1, g2, g3, g4⟩, d⟩ := w
  have q2 : hR h q 2 ≠ q := ne_tg (h := h) (by rw [n0, sa]; decide)
  have q3 : hR h q 3 ≠ q := ne_tg (h := h) (by rw [n0, ea]; decide)
  have q4 : hR h q 4 ≠ q := ne_tg (h := h) (by rw [n0, ua]; decide)
  have q5 : hR h q 5 ≠ q := ne_tg (h := h) (by rw [n0, ra]; decide)
  have q6 : hR h q 6 ≠ q := ne_tg (h := h) (by rw [n0, ga]; decide)
  unfold nst
  rw [hR_sI, ht_sI, hn_sI, gv_sIn q2, gv_sIn q3, gv_sIn q4, gv_sIn q5, gv_sIn q6, gv_sIi (by omega) (by omega)]
  exact ⟨n0, ud_eq _ _ _, (ud_ne (by decide)).trans n2, ⟨sa, sb, sc⟩, ⟨ea, eb, ec⟩, ⟨ua, ub, uc⟩, ⟨ra, rb, rc⟩, ⟨ga, gb, g0, g1, g2, g3, g4⟩, d⟩
theorem k_hops (ok : tr_ok E) (r : RD hb ad h q t n p m one two H L) (fX : ¬ wdB t n (bl t n p) (tr_txt 0) = true → ∀ h', wn hb h h' → gv h' q 8 = 1 → gv h' q 9 = bl t n p → Q (.inl (some (.inl (ii 0)))) h') (f1 : wdB t n (bl t n p) (tr_txt 0) = true → nK t n (bl t n p + 4) 2 10 ≠ 0 → ∀ h', wn hb h h' → gv h' q 8 = nK t n (bl t n p + 4) 2 10 → gv h' q 9 = bl t n (bl t n p + 4) → Q (.inl (some (.inl (ii 0)))) h') (f0 : wdB t n (bl t n p) (tr_txt 0) = true → nK t n (bl t n p + 4) 2 10 = 0 → ∀ h', wn hb h h' → RD hb ad h' q t n (nE t n (bl t n p + 4)) m one two (nV t n (bl t n p + 4)) L → Q (.inl (some (.inl (ii 1)))) h') : tr_C E 45 [.inr (.inr q)] h Q := by
  refine T_X4_readHops ok ?_
  obtain ⟨t5, t3⟩ := RD_5 r
  have o0 := r.2.2.2.1.1
  have rp := RD_p r
  refine ⟨t5, k_skipB ok r.1 (fun h0 x0 e0 r0 => ?_)⟩
  have R0 : RD hb ad h0 q t n (bl t n p) m one two H L := RD_w r x0 (by rw [e0, ud_ne (by decide)]) (by rw [e0, ud_ne (by decide)]) (by rw [e0, ud_eq]) (by omega) (by omega)
  obtain ⟨s', c0, c1, c2, c3, c4, c5, c6, c7⟩ := id R0.1
  have i2 : hI h0 q 2 = ii (bl t n p) := hI_e c3
  refine ⟨c0, c0, k_skipL ok R0.1 (fun h1 x1 e1 r1 => ?_)⟩
  have R1 : RD hb ad h1 q t n (skp (cL t) n (bl t n p)) m one two H L := RD_w R0 x1 (by rw [e1, ud_ne (by decide)]) (by rw [e1, ud_ne (by decide)]) (by rw [e1, ud_eq]) r1.2.2.2.2.2.2.1 r1.2.2.2.2.2.2.2.1
  have W1 : wn hb h h1 := wn_wr o0 (wr_tr x0 x1)
  obtain ⟨t51, t31⟩ := RD_5 R1
  rw [i2]
  refine fun t2 b2 => ⟨t51, k_isWord ok r1 b2 (by decide) (by decide) c5 c6 ⟨fun g1 => ?_, fun g1 => ?_⟩⟩
  · rw [bb_0] at g1
    refine ⟨t51, k_refuse ok t51 (by omega) (by omega) (by omega) (by omega) (fun h' w' e' => ?_)⟩
    have fin := fX (by rw [g1]; decide) h' (wn_tr W1 (wn_wr o0 w')) (by rw [e', ud_ne (by decide), ud_eq]) (by rw [e', ud_eq])
    simp (disch := first | omega | decide | assumption | exact st_ne s0 (by decide) (by decide) (by decide) | exact dyn_ne (by assumption) (by decide) | fail) only [Int.reduceAdd, Int.reduceSub, Int.reduceNeg, ii_add, ii_sub, ii_mul, ii_lt, ii_le, ii_eq, ixn_ii, ixo_ii, rem_ii, nb_1, nb_0, nb_bb, bb_0, hI_gv, Int.toNat_of_nonneg, Int.cast_ofNat_Int, ht_sI, ht_sJ, ht_sR, hn_sI, hn_sJ, hn_sR, hR_sI, hR_sJ, kI_v, kV_v, kJ_v, true_and, and_true, forall_eq, tg, ln, rf, ne_eq, not_false_eq_true, forall_const, not_true_eq_false, false_implies, Int.reduceEq, Int.reduceLT, Int.reduceLE, implies_true, and_self, reduceCtorEq, false_and,]
    exact fin
  · rw [bb_0, Bool.not_eq_false] at g1
    have R2 : RD hb ad h1 q t n (bl t n p + 4) m one two H L := by
      have := wd_p (t := t) (n := n) (s := bl t n p) (x := tr_txt 0) (by decide) c6 g1
      rw [show ((tr_txt 0).length : Int) = 4 from rfl] at this
      rw [← this]; exact R1
    have rp2 := RD_p R2
    have vr := nV_rg (t := t) (n := n) (p := bl t n p + 4)
    refine ⟨t51, k_number ok R2.1 (fun nd h3 x3 e3 => ?_) (fun nd h3 x3 e8 e9 => ?_)⟩
    · have R3 : RD hb ad h3 q t n (nE t n (bl t n p + 4)) m one two H L := RD_w R2 x3 (by rw [e3, ud_ne (by decide), ud_ne (by decide)]) (by rw [e3, ud_ne (by decide), ud_ne (by decide)]) (by rw [e3, ud_eq]) (by omega) (by omega)
      obtain ⟨t53, t33⟩ := RD_5 R3
      have W3 := wn_tr W1 (wn_wr o0 x3)
      have g3 : gv h3 q 3 = bl t n (bl t n p + 4) := by rw [e3, ud_ne (by decide), ud_eq]
      have bad : ¬ (2 ≤ nV t n (bl t n p + 4) ∧ nV t n (bl t n p + 4) ≤ 10) → tr_C E 58 [.inr (.inr q), .inl (ii 2), .inl (ii (bl t n (bl t n p + 4)))] h3 (kI (fun v4 h3 => Q (.inl (some (.inl (tr_nb v4)))) h3) (fun E h' => Q (.inr E) h')) := fun g => by
        have k2 := nK_2 (lo := 2) (hi := 10) nd g
        refine k_refuse ok t53 (by omega) (by omega) (by omega) (by omega) (fun h' w' e' => ?_)
        have fin := f1 g1 (by omega) h' (wn_tr W3 (wn_wr o0 w')) (by rw [e', k2, ud_ne (by decide), ud_eq]) (by rw [e', ud_eq])
        simp (disch := first | omega | decide | assumption | exact st_ne s0 (by decide) (by decide) (by decide) | exact dyn_ne (by assumption) (by decide) | fail) only [Int.reduceAdd, Int.reduceSub, Int.reduceNeg, ii_add, ii_sub, ii_mul, ii_lt, ii_le, ii_eq, ixn_ii, ixo_ii, rem_ii, nb_1, nb_0, nb_bb, bb_0, hI_gv, Int.toNat_of_nonneg, Int.cast_ofNat_Int, ht_sI, ht_sJ, ht_sR, hn_sI, hn_sJ, hn_sR, hR_sI, hR_sJ, kI_v, kV_v, kJ_v, true_and, and_true, forall_eq, tg, ln, rf, ne_eq, not_false_eq_true, forall_const, not_true_eq_false, false_implies, Int.reduceEq, Int.reduceLT, Int.reduceLE, implies_true, and_self, reduceCtorEq, false_and,]
        exact fin
      have ng : ¬ nV t n (bl t n p + 4) = -1 := by omega
      have good : 2 ≤ nV t n (bl t n p + 4) → nV t n (bl t n p + 4) ≤ 10 → Q (.inl (some (.inl (ii 1)))) (hsI h3 (hR h3 q 7) 0 (ii (nV t n (bl t n p + 4)))) := fun a1 a2 =>
        f0 g1 (nK_0.2 ⟨nd, a1, a2⟩) _ (wn_tr W3 (wn_sI R3.2.2.2.1.2.1.1)) (RD_s R3 (Or.inl t33) (nst_H R3.2.2.1 R3.2.2.2.1.2.1 (by omega) (by omega)) R3.2.2.2.2)
      simp (disch := first | omega | decide | assumption | exact st_ne s0 (by decide) (by decide) (by decide) | exact dyn_ne (by assumption) (by decide) | fail) only [Int.reduceAdd, Int.reduceSub, Int.reduceNeg, ii_add, ii_sub, ii_mul, ii_lt, ii_le, ii_eq, ixn_ii, ixo_ii, rem_ii, nb_1, nb_0, nb_bb, bb_0, hI_gv, Int.toNat_of_nonneg, Int.cast_ofNat_Int, ht_sI, ht_sJ, ht_sR, hn_sI, hn_sJ, hn_sR, hR_sI, hR_sJ, kI_v, kV_v, kJ_v, true_and, and_true, forall_eq, tg, ln, rf, ne_eq, not_false_eq_true, forall_const, not_true_eq_false, false_implies, Int.reduceEq, Int.reduceLT, Int.reduceLE, implies_true, and_self, reduceCtorEq, false_and, t53, t33, ng, g3]
      exact ⟨fun g => bad (by omega), fun g => ⟨fun g2 => good (by omega) g2, fun g2 => bad (by omega)⟩⟩
    · have k1 : nK t n (bl t n p + 4) 2 10 = 1 := nK_1 nd
      have fin := f1 g1 (by omega) h3 (wn_tr W1 (wn_wr o0 x3)) (by rw [e8, k1]) e9
      simp (disch := first | omega | decide | assumption | exact st_ne s0 (by decide) (by decide) (by decide) | exact dyn_ne (by assumption) (by decide) | fail) only [Int.reduceAdd, Int.reduceSub, Int.reduceNeg, ii_add, ii_sub, ii_mul, ii_lt, ii_le, ii_eq, ixn_ii, ixo_ii, rem_ii, nb_1, nb_0, nb_bb, bb_0, hI_gv, Int.toNat_of_nonneg, Int.cast_ofNat_Int, ht_sI, ht_sJ, ht_sR, hn_sI, hn_sJ, hn_sR, hR_sI, hR_sJ, kI_v, kV_v, kJ_v, true_and, and_true, forall_eq, tg, ln, rf, ne_eq, not_false_eq_true, forall_const, not_true_eq_false, false_implies, Int.reduceEq, Int.reduceLT, Int.reduceLE, implies_true, and_self, reduceCtorEq, false_and,]
      exact fin
theorem k_22X (ok : tr_ok E) {i : Int} (f : Q (.inl (some (.inl (ii 0)))) h) : tr_G E 43 Q 22 [some (.inr (.inr q)), some (.inl (ii 0)), some (.inl (ii i))] [] h 0 0 := by
  refine T_X4_readAll_22 ok ⟨fun _ => ⟨fun _ => ?_, fun g => absurd rfl g⟩, fun _ => ?_⟩
  · rw [nb_0]; exact f
  · rw [nb_0]; exact f
theorem k_lines (ok : tr_ok E) : ∀ (k : Nat) (h : tr_H) (p : Int) (m one two : Int → Int) (L i : Int), n - p < k → 0 ≤ i → i < p → RD hb ad h q t n p m one two H L → vk m one two H L → (∀ kd wh, txL t n H k p m one two L = .inl (kd, wh) → ∀ h', wn hb h h' → gv h' q 8 = kd → gv h' q 9 = wh → Q (.inl (some (.inl (ii 0)))) h') → (∀ p' m' o' w' L', txL t n H k p m one two L = .inr (p', m', o', w', L') → vk m' o' w' H L' → ∀ h', wn hb h h' → RD hb ad h' q t n p' m' o' w' H L' → Q (.inl (some (.inl (ii 1)))) h') → tr_G E 43 Q 22 [some (.inr (.inr q)), some (.inl (ii 1)), some (.inl (ii i))] [] h 0 0 := by
  intro k
  induction k with
  | zero =>
    intro h p m one two L i hk i0 ip r v qX qY
    have := r.1.2.2.2.2.2.2.2.1
    omega
  | succ k ih =>
    intro h p m one two L i hk i0 ip r v qX qY
    refine T_X4_readAll_22 ok ?_
    obtain ⟨t5, t3⟩ := RD_5 r
    have o0 := r.2.2.2.1.1
    have rp := RD_p r
    have pn := r.1.2.2.2.2.2.2.2.1
    have pb := bl_ge (t := t) (n := n) (p := p)
    refine ⟨fun _ => ⟨fun g => ?_, fun _ => ⟨t5, k_atEnd ok r (fun h1 W1 R1 => ?_)⟩⟩, fun g => ?_⟩
    · rw [ii_eq (by omega) (by omega) (by omega) (by omega)] at g; omega
    · obtain ⟨t51, t31⟩ := RD_5 R1
      by_cases g : bl t n p < n
      · rw [decide_eq_false (fun e => e g)]
        refine ⟨fun _ => ⟨t51, k_readLine ok R1 v (fun k z e h3 W3 e8 e9 => ?_) (fun p' m' o' w' L' e h3 W3 R3 => ?_)⟩, fun e => absurd rfl e⟩
        · refine ⟨fun _ => ?_, fun e => absurd rfl e⟩
          rw [ii_add]
          exact k_22X ok (qX k z (txL_X g (by rw [e]; rfl)) h3 (wn_tr W1 W3) e8 e9)
        · obtain ⟨t53, t33⟩ := RD_5 R3
          refine ⟨fun e => ?_, fun _ => ⟨t53, k_semi ok R3 (fun gs h5 W5 e8 e9 => ?_) (fun gs h5 W5 R5 => ?_)⟩⟩
          · rw [ii_eq (by omega) (by omega) (by omega) (by omega)] at e; omega
          · refine ⟨fun _ => ?_, fun e => absurd rfl e⟩
            rw [ii_add]
            have e2 : lnE t n (lnOne t m one two n (bl t n p) H L) = .inl (1, bl t n p') := by rw [e]; exact if_neg gs
            exact k_22X ok (qX _ _ (txL_X g e2) h5 (wn_tr W1 (wn_tr W3 W5)) e8 e9)
          · have e2 : lnE t n (lnOne t m one two n (bl t n p) H L) = .inr (bl t n p' + 1, m', o', w', L') := by rw [e]; exact if_pos gs
            obtain ⟨v', le, le2⟩ := lnE_ok (fun p' m' o' w' L' e => lnOne_ok v e) e2
            have tY := txL_Y (k := k) g e2
            rw [tY] at qX qY
            refine ⟨fun e => ?_, fun _ => ?_⟩
            · rw [ii_eq (by omega) (by omega) (by omega) (by omega)] at e; omega
            · rw [ii_add]
              exact ih h5 (bl t n p' + 1) m' o' w' L' (i + 1) (by omega) (by omega) (by omega) R5 v' (fun kd wh ee h' W' => qX kd wh ee h' (wn_tr W1 (wn_tr W3 (wn_tr W5 W')))) (fun p2 m2 o2 w2 L2 ee vv h' W' => qY p2 m2 o2 w2 L2 ee vv h' (wn_tr W1 (wn_tr W3 (wn_tr W5 W'))))
      · rw [decide_eq_true g]
        have fin := qY _ _ _ _ _ (txL_Z g) v h1 W1 R1
        refine ⟨fun e => ?_, fun _ => ?_⟩
        · rw [bb_0] at e; cases e
        · rw [nb_1]; exact fin
    · rw [ii_lt (by omega) (by omega) (by omega) (by omega)] at g; omega
theorem k_readAll (ok : tr_ok E) (r : RD hb ad h q t n 0 m one two H 0) (v : ∀ H', 2 ≤ H' → H' ≤ 10 → vk m one two H' 0) (qX : ∀ kd wh, txAll t m one two n = .inl (kd, wh) → ∀ h', wn hb h h' → gv h' q 8 = kd → gv h' q 9 = wh → Q (.inl (some (.inl (ii 0)))) h') (qY : ∀ H' m' o' w' L', txAll t m one two n = .inr (H', m', o', w', L') → vk m' o' w' H' L' → ∀ p' h', wn hb h h' → RD hb ad h' q t n p' m' o' w' H' L' → Q (.inl (some (.inl (ii 1)))) h') : tr_C E 43 [.inr (.inr q)] h Q := by
  refine T_X4_readAll ok ?_
  obtain ⟨t5, t3⟩ := RD_5 r
  have o0 := r.2.2.2.1.1
  have rp := RD_p r
  unfold txAll at qX qY
  refine ⟨t5, k_hops ok r (fun g h1 W1 e8 e9 => ?_) (fun g nk h1 W1 e8 e9 => ?_) (fun g nk h1 W1 R1 => ?_)⟩
  · rw [if_neg g] at qX
    exact ⟨fun _ => k_22X ok (qX _ _ rfl h1 W1 e8 e9), fun e => absurd rfl e⟩
  · rw [if_pos g, if_pos nk] at qX
    exact ⟨fun _ => k_22X ok (qX _ _ rfl h1 W1 e8 e9), fun e => absurd rfl e⟩
  · rw [if_pos g, if_neg (fun e => e nk)] at qX qY
    obtain ⟨t51, t31⟩ := RD_5 R1
    obtain ⟨nd, nl, nh⟩ := nK_0.1 nk
    have rp1 := RD_p R1
    have ge := bl_ge (t := t) (n := n) (p := bl t n 0 + 4)
    have ge2 := nE_ge (t := t) (n := n) (p := bl t n 0 + 4)
    have ge3 := bl_ge (t := t) (n := n) (p := nE t n (bl t n 0 + 4))
    refine ⟨fun e => ?_, fun _ => ⟨t51, k_semi ok R1 (fun gs h3 W3 e8 e9 => ?_) (fun gs h3 W3 R3 => ?_)⟩⟩
    · rw [ii_eq (by omega) (by omega) (by omega) (by omega)] at e; omega
    · rw [if_neg gs] at qX
      exact ⟨fun _ => k_22X ok (qX _ _ rfl h3 (wn_tr W1 W3) e8 e9), fun e => absurd rfl e⟩
    · rw [if_pos gs] at qX qY
      refine ⟨fun e => ?_, fun _ => ?_⟩
      · rw [ii_eq (by omega) (by omega) (by omega) (by omega)] at e; omega
      · refine k_lines ok (n.toNat + 1) h3 _ m one two 0 0 (by omega) (by omega) (by omega) R3 (v _ nl nh) (fun kd wh e h' W' e8 e9 => ?_) (fun p' m' o' w' L' e vv h' W' R' => ?_)
        · exact qX kd wh (by rw [e]; rfl) h' (wn_tr W1 (wn_tr W3 W')) e8 e9
        · exact qY _ m' o' w' L' (by rw [e]; rfl) vv p' h' (wn_tr W1 (wn_tr W3 W')) R'
end RD7
