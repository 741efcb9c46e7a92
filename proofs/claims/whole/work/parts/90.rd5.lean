/-! TEXT: the class's reader, lines of links -/
section RD5
variable {E : tr_Env} {ad : Nat → Nat} {hb h h0 h1 h2 : tr_H} {Q : tr_Q} {t m one two m' o' w' : Int → Int} {n s p H L H' L' a b : Int} {q w : Nat}
theorem RD_5 (r : RD hb ad h q t n p m one two H L) : ht h q = 5 ∧ ht h (hR h q 7) = 3 := ⟨r.1.2.1, r.2.2.1.1⟩
theorem k_readLink (ok : tr_ok E) (r : RD hb ad h q t n p m one two H L) (v : vk m one two H L) (s0 : 0 ≤ s) (s1 : s ≤ 500) (qX : ∀ k z, lnLink t m one two n s p H L = .inl (k, z) → ∀ h', wn hb h h' → gv h' q 8 = k → gv h' q 9 = z → Q (.inl (some (.inl (ii 0)))) h') (qY : ∀ p' m' o' w' L', lnLink t m one two n s p H L = .inr (p', m', o', w', L') → ∀ h', wn hb h h' → RD hb ad h' q t n p' m' o' w' H L' → Q (.inl (some (.inl (ii 1)))) h') : tr_C E 47 [.inr (.inr q), .inl (ii s)] h Q := by
  refine T_X4_readLink ok ?_
  have vH := v_H v.1
  have vL := v_L v.1
  obtain ⟨t5, t3⟩ := RD_5 r
  have o0 := r.2.2.2.1.1
  have rp := RD_p r
  have i0 : hI h (hR h q 7) 1 = ii L := hI_e r.2.2.1.2.2.1
  unfold lnLink at qX qY
  refine ⟨t5, t3, fun g => ?_, fun g => ?_⟩
  · rw [i0, ii_lt (by omega) (by omega) (by omega) (by omega)] at g
    rw [if_neg (by omega)] at qX qY
    refine ⟨t5, k_near ok r vH.1 vH.2 (fun nk h1 w1 r1 e4 e5 => ?_) (fun nk h1 w1 e8 e9 => ?_)⟩
    · rw [if_neg (fun e => e nk)] at qX qY
      obtain ⟨nd, nl, nh⟩ := nK_0.1 nk
      obtain ⟨t51, t31⟩ := RD_5 r1
      have W1 : wn hb h h1 := wn_wr o0 w1
      have rp1 := RD_p r1
      simp (disch := first | omega | decide | assumption | exact st_ne s0 (by decide) (by decide) (by decide) | exact dyn_ne (by assumption) (by decide) | fail) only [Int.reduceAdd, Int.reduceSub, Int.reduceNeg, ii_add, ii_sub, ii_mul, ii_lt, ii_le, ii_eq, ixn_ii, ixo_ii, rem_ii, nb_1, nb_0, nb_bb, bb_0, hI_gv, Int.toNat_of_nonneg, Int.cast_ofNat_Int, ht_sI, ht_sJ, ht_sR, hn_sI, hn_sJ, hn_sR, hR_sI, hR_sJ, kI_v, kV_v, kJ_v, true_and, and_true, forall_eq, tg, ln, rf, ne_eq, not_false_eq_true, forall_const, not_true_eq_false, false_implies, Int.reduceEq, Int.reduceLT, Int.reduceLE, implies_true, and_self, reduceCtorEq, false_and,]
      refine ⟨t51, k_far ok r1 vH.1 vH.2 e4 (fun nk2 h3 w3 r3 e34 e35 e36 => ?_) (fun nk2 h3 w3 e8 e9 => ?_)⟩
      · rw [if_neg (fun e => e nk2)] at qX qY
        obtain ⟨nd2, nl2, nh2⟩ := oKd_0.1 nk2
        obtain ⟨t53, t33⟩ := RD_5 r3
        have W3 : wn hb h h3 := wn_tr W1 (wn_wr o0 w3)
        simp (disch := first | omega | decide | assumption | exact st_ne s0 (by decide) (by decide) (by decide) | exact dyn_ne (by assumption) (by decide) | fail) only [Int.reduceAdd, Int.reduceSub, Int.reduceNeg, ii_add, ii_sub, ii_mul, ii_lt, ii_le, ii_eq, ixn_ii, ixo_ii, rem_ii, nb_1, nb_0, nb_bb, bb_0, hI_gv, Int.toNat_of_nonneg, Int.cast_ofNat_Int, ht_sI, ht_sJ, ht_sR, hn_sI, hn_sJ, hn_sR, hR_sI, hR_sJ, kI_v, kV_v, kJ_v, true_and, and_true, forall_eq, tg, ln, rf, ne_eq, not_false_eq_true, forall_const, not_true_eq_false, false_implies, Int.reduceEq, Int.reduceLT, Int.reduceLE, implies_true, and_self, reduceCtorEq, false_and, t53, t33, e34, e36]
        refine k_lbw ok r3 v (by omega) (by omega) (by omega) (by omega) ?_
        have lr := lbw_rg (one := one) (two := two) (a := nV t n p) (b := nV t n (nE t n p)) vL.1
        by_cases c : lbw one two L (nV t n p) (nV t n (nE t n p)) = -1
        · rw [if_neg (fun e => e c)] at qX qY
          rw [c]
          simp (disch := first | omega | decide | assumption | exact st_ne s0 (by decide) (by decide) (by decide) | exact dyn_ne (by assumption) (by decide) | fail) only [Int.reduceAdd, Int.reduceSub, Int.reduceNeg, ii_add, ii_sub, ii_mul, ii_lt, ii_le, ii_eq, ixn_ii, ixo_ii, rem_ii, nb_1, nb_0, nb_bb, bb_0, hI_gv, Int.toNat_of_nonneg, Int.cast_ofNat_Int, ht_sI, ht_sJ, ht_sR, hn_sI, hn_sJ, hn_sR, hR_sI, hR_sJ, kI_v, kV_v, kJ_v, true_and, and_true, forall_eq, tg, ln, rf, ne_eq, not_false_eq_true, forall_const, not_true_eq_false, false_implies, Int.reduceEq, Int.reduceLT, Int.reduceLE, implies_true, and_self, reduceCtorEq, false_and, t53, t33, e34, e36]
          refine k_add ok r3 vL.1 (by omega) (by omega) (by omega) (by omega) (by omega) (fun h7 W7 r7 => ?_)
          have fin := qY _ _ _ _ _ rfl h7 (wn_tr W3 W7) r7
          simp (disch := first | omega | decide | assumption | exact st_ne s0 (by decide) (by decide) (by decide) | exact dyn_ne (by assumption) (by decide) | fail) only [Int.reduceAdd, Int.reduceSub, Int.reduceNeg, ii_add, ii_sub, ii_mul, ii_lt, ii_le, ii_eq, ixn_ii, ixo_ii, rem_ii, nb_1, nb_0, nb_bb, bb_0, hI_gv, Int.toNat_of_nonneg, Int.cast_ofNat_Int, ht_sI, ht_sJ, ht_sR, hn_sI, hn_sJ, hn_sR, hR_sI, hR_sJ, kI_v, kV_v, kJ_v, true_and, and_true, forall_eq, tg, ln, rf, ne_eq, not_false_eq_true, forall_const, not_true_eq_false, false_implies, Int.reduceEq, Int.reduceLT, Int.reduceLE, implies_true, and_self, reduceCtorEq, false_and,]
          exact fin
        · rw [if_pos c] at qX qY
          have e5' : gv h3 q 5 = bl t n p := e35.trans e5
          simp (disch := first | omega | decide | assumption | exact st_ne s0 (by decide) (by decide) (by decide) | exact dyn_ne (by assumption) (by decide) | fail) only [Int.reduceAdd, Int.reduceSub, Int.reduceNeg, ii_add, ii_sub, ii_mul, ii_lt, ii_le, ii_eq, ixn_ii, ixo_ii, rem_ii, nb_1, nb_0, nb_bb, bb_0, hI_gv, Int.toNat_of_nonneg, Int.cast_ofNat_Int, ht_sI, ht_sJ, ht_sR, hn_sI, hn_sJ, hn_sR, hR_sI, hR_sJ, kI_v, kV_v, kJ_v, true_and, and_true, forall_eq, tg, ln, rf, ne_eq, not_false_eq_true, forall_const, not_true_eq_false, false_implies, Int.reduceEq, Int.reduceLT, Int.reduceLE, implies_true, and_self, reduceCtorEq, false_and, t53, t33, c, e5']
          refine k_refuse ok t53 (by omega) (by omega) (by omega) (by omega) (fun h' w' e' => ?_)
          have fin := qX _ _ rfl h' (wn_tr W3 (wn_wr o0 w')) (by rw [e', ud_ne (by decide), ud_eq]) (by rw [e', ud_eq])
          simp (disch := first | omega | decide | assumption | exact st_ne s0 (by decide) (by decide) (by decide) | exact dyn_ne (by assumption) (by decide) | fail) only [Int.reduceAdd, Int.reduceSub, Int.reduceNeg, ii_add, ii_sub, ii_mul, ii_lt, ii_le, ii_eq, ixn_ii, ixo_ii, rem_ii, nb_1, nb_0, nb_bb, bb_0, hI_gv, Int.toNat_of_nonneg, Int.cast_ofNat_Int, ht_sI, ht_sJ, ht_sR, hn_sI, hn_sJ, hn_sR, hR_sI, hR_sJ, kI_v, kV_v, kJ_v, true_and, and_true, forall_eq, tg, ln, rf, ne_eq, not_false_eq_true, forall_const, not_true_eq_false, false_implies, Int.reduceEq, Int.reduceLT, Int.reduceLE, implies_true, and_self, reduceCtorEq, false_and,]
          exact fin
      · rw [if_pos nk2] at qX qY
        have fin := qX _ _ rfl h3 (wn_tr W1 (wn_wr o0 w3)) e8 e9
        simp (disch := first | omega | decide | assumption | exact st_ne s0 (by decide) (by decide) (by decide) | exact dyn_ne (by assumption) (by decide) | fail) only [Int.reduceAdd, Int.reduceSub, Int.reduceNeg, ii_add, ii_sub, ii_mul, ii_lt, ii_le, ii_eq, ixn_ii, ixo_ii, rem_ii, nb_1, nb_0, nb_bb, bb_0, hI_gv, Int.toNat_of_nonneg, Int.cast_ofNat_Int, ht_sI, ht_sJ, ht_sR, hn_sI, hn_sJ, hn_sR, hR_sI, hR_sJ, kI_v, kV_v, kJ_v, true_and, and_true, forall_eq, tg, ln, rf, ne_eq, not_false_eq_true, forall_const, not_true_eq_false, false_implies, Int.reduceEq, Int.reduceLT, Int.reduceLE, implies_true, and_self, reduceCtorEq, false_and,]
        exact fin
    · rw [if_pos nk] at qX qY
      have fin := qX _ _ rfl h1 (wn_wr o0 w1) e8 e9
      simp (disch := first | omega | decide | assumption | exact st_ne s0 (by decide) (by decide) (by decide) | exact dyn_ne (by assumption) (by decide) | fail) only [Int.reduceAdd, Int.reduceSub, Int.reduceNeg, ii_add, ii_sub, ii_mul, ii_lt, ii_le, ii_eq, ixn_ii, ixo_ii, rem_ii, nb_1, nb_0, nb_bb, bb_0, hI_gv, Int.toNat_of_nonneg, Int.cast_ofNat_Int, ht_sI, ht_sJ, ht_sR, hn_sI, hn_sJ, hn_sR, hR_sI, hR_sJ, kI_v, kV_v, kJ_v, true_and, and_true, forall_eq, tg, ln, rf, ne_eq, not_false_eq_true, forall_const, not_true_eq_false, false_implies, Int.reduceEq, Int.reduceLT, Int.reduceLE, implies_true, and_self, reduceCtorEq, false_and,]
      exact fin
  · rw [i0, ii_lt (by omega) (by omega) (by omega) (by omega)] at g
    rw [if_pos (by omega)] at qX qY
    refine ⟨t5, k_refuse ok t5 (by omega) (by omega) (by omega) (by omega) (fun h' w' e' => ?_)⟩
    have fin := qX _ _ rfl h' (wn_wr o0 w') (by rw [e', ud_ne (by decide), ud_eq]) (by rw [e', ud_eq])
    simp (disch := first | omega | decide | assumption | exact st_ne s0 (by decide) (by decide) (by decide) | exact dyn_ne (by assumption) (by decide) | fail) only [Int.reduceAdd, Int.reduceSub, Int.reduceNeg, ii_add, ii_sub, ii_mul, ii_lt, ii_le, ii_eq, ixn_ii, ixo_ii, rem_ii, nb_1, nb_0, nb_bb, bb_0, hI_gv, Int.toNat_of_nonneg, Int.cast_ofNat_Int, ht_sI, ht_sJ, ht_sR, hn_sI, hn_sJ, hn_sR, hR_sI, hR_sJ, kI_v, kV_v, kJ_v, true_and, and_true, forall_eq, tg, ln, rf, ne_eq, not_false_eq_true, forall_const, not_true_eq_false, false_implies, Int.reduceEq, Int.reduceLT, Int.reduceLE, implies_true, and_self, reduceCtorEq, false_and,]
    exact fin
theorem k_readCut (ok : tr_ok E) (r : RD hb ad h q t n p m one two H L) (v : vk m one two H L) (qX : ∀ k z, lnCut t m one two n p H L = .inl (k, z) → ∀ h', wn hb h h' → gv h' q 8 = k → gv h' q 9 = z → Q (.inl (some (.inl (ii 0)))) h') (qY : ∀ p' m' o' w' L', lnCut t m one two n p H L = .inr (p', m', o', w', L') → ∀ h', wn hb h h' → RD hb ad h' q t n p' m' o' w' H L' → Q (.inl (some (.inl (ii 1)))) h') : tr_C E 48 [.inr (.inr q)] h Q := by
  refine T_X4_readCut ok ?_
  have vH := v_H v.1
  have vL := v_L v.1
  obtain ⟨t5, t3⟩ := RD_5 r
  have o0 := r.2.2.2.1.1
  have rp := RD_p r
  unfold lnCut at qX qY
  refine ⟨t5, k_near ok r vH.1 vH.2 (fun nk h1 w1 r1 e4 e5 => ?_) (fun nk h1 w1 e8 e9 => ?_)⟩
  · rw [if_neg (fun e => e nk)] at qX qY
    obtain ⟨nd, nl, nh⟩ := nK_0.1 nk
    obtain ⟨t51, t31⟩ := RD_5 r1
    have W1 : wn hb h h1 := wn_wr o0 w1
    have rp1 := RD_p r1
    simp (disch := first | omega | decide | assumption | exact st_ne s0 (by decide) (by decide) (by decide) | exact dyn_ne (by assumption) (by decide) | fail) only [Int.reduceAdd, Int.reduceSub, Int.reduceNeg, ii_add, ii_sub, ii_mul, ii_lt, ii_le, ii_eq, ixn_ii, ixo_ii, rem_ii, nb_1, nb_0, nb_bb, bb_0, hI_gv, Int.toNat_of_nonneg, Int.cast_ofNat_Int, ht_sI, ht_sJ, ht_sR, hn_sI, hn_sJ, hn_sR, hR_sI, hR_sJ, kI_v, kV_v, kJ_v, true_and, and_true, forall_eq, tg, ln, rf, ne_eq, not_false_eq_true, forall_const, not_true_eq_false, false_implies, Int.reduceEq, Int.reduceLT, Int.reduceLE, implies_true, and_self, reduceCtorEq, false_and,]
    refine ⟨t51, k_far ok r1 vH.1 vH.2 e4 (fun nk2 h3 w3 r3 e34 e35 e36 => ?_) (fun nk2 h3 w3 e8 e9 => ?_)⟩
    · rw [if_neg (fun e => e nk2)] at qX qY
      obtain ⟨nd2, nl2, nh2⟩ := oKd_0.1 nk2
      obtain ⟨t53, t33⟩ := RD_5 r3
      have W3 : wn hb h h3 := wn_tr W1 (wn_wr o0 w3)
      simp (disch := first | omega | decide | assumption | exact st_ne s0 (by decide) (by decide) (by decide) | exact dyn_ne (by assumption) (by decide) | fail) only [Int.reduceAdd, Int.reduceSub, Int.reduceNeg, ii_add, ii_sub, ii_mul, ii_lt, ii_le, ii_eq, ixn_ii, ixo_ii, rem_ii, nb_1, nb_0, nb_bb, bb_0, hI_gv, Int.toNat_of_nonneg, Int.cast_ofNat_Int, ht_sI, ht_sJ, ht_sR, hn_sI, hn_sJ, hn_sR, hR_sI, hR_sJ, kI_v, kV_v, kJ_v, true_and, and_true, forall_eq, tg, ln, rf, ne_eq, not_false_eq_true, forall_const, not_true_eq_false, false_implies, Int.reduceEq, Int.reduceLT, Int.reduceLE, implies_true, and_self, reduceCtorEq, false_and, t53, t33, e34, e36]
      refine k_lbw ok r3 v (by omega) (by omega) (by omega) (by omega) ?_
      have lr := lbw_rg (one := one) (two := two) (a := nV t n p) (b := nV t n (nE t n p)) vL.1
      by_cases c : lbw one two L (nV t n p) (nV t n (nE t n p)) = -1
      · rw [if_pos c] at qX qY
        rw [c]
        have e5' : gv h3 q 5 = bl t n p := e35.trans e5
        simp (disch := first | omega | decide | assumption | exact st_ne s0 (by decide) (by decide) (by decide) | exact dyn_ne (by assumption) (by decide) | fail) only [Int.reduceAdd, Int.reduceSub, Int.reduceNeg, ii_add, ii_sub, ii_mul, ii_lt, ii_le, ii_eq, ixn_ii, ixo_ii, rem_ii, nb_1, nb_0, nb_bb, bb_0, hI_gv, Int.toNat_of_nonneg, Int.cast_ofNat_Int, ht_sI, ht_sJ, ht_sR, hn_sI, hn_sJ, hn_sR, hR_sI, hR_sJ, kI_v, kV_v, kJ_v, true_and, and_true, forall_eq, tg, ln, rf, ne_eq, not_false_eq_true, forall_const, not_true_eq_false, false_implies, Int.reduceEq, Int.reduceLT, Int.reduceLE, implies_true, and_self, reduceCtorEq, false_and, t53, t33, e5']
        refine k_refuse ok t53 (by omega) (by omega) (by omega) (by omega) (fun h' w' e' => ?_)
        have fin := qX _ _ rfl h' (wn_tr W3 (wn_wr o0 w')) (by rw [e', ud_ne (by decide), ud_eq]) (by rw [e', ud_eq])
        simp (disch := first | omega | decide | assumption | exact st_ne s0 (by decide) (by decide) (by decide) | exact dyn_ne (by assumption) (by decide) | fail) only [Int.reduceAdd, Int.reduceSub, Int.reduceNeg, ii_add, ii_sub, ii_mul, ii_lt, ii_le, ii_eq, ixn_ii, ixo_ii, rem_ii, nb_1, nb_0, nb_bb, bb_0, hI_gv, Int.toNat_of_nonneg, Int.cast_ofNat_Int, ht_sI, ht_sJ, ht_sR, hn_sI, hn_sJ, hn_sR, hR_sI, hR_sJ, kI_v, kV_v, kJ_v, true_and, and_true, forall_eq, tg, ln, rf, ne_eq, not_false_eq_true, forall_const, not_true_eq_false, false_implies, Int.reduceEq, Int.reduceLT, Int.reduceLE, implies_true, and_self, reduceCtorEq, false_and,]
        exact fin
      · rw [if_neg c] at qX qY
        have n3 := r3.2.2.1
        obtain ⟨-, -, -, -, -, ⟨ua, ub, uc⟩, -⟩ := id n3
        have v0 := v_0 v.1
        have n3' := nst_w4 (x := 0) r3.2.2.2.1.2.1 n3 v.1 (l := lbw one two L (nV t n p) (nV t n (nE t n p))) (by omega) (by omega) (by omega) (by omega)
        obtain ⟨u1, u2⟩ := upb_ok (up := 0) v0.1 v0.2 (by omega : 0 ≤ lbw one two L (nV t n p) (nV t n (nE t n p))) (by omega)
        have r7 := RD_s r3 (Or.inr ua) n3' (fun l l0 l1 => by
          rw [ud_eq, u2 l (by omega) l1, if_neg (by omega)]
          exact r3.2.2.2.2 l l0 l1)
        have fin := qY _ _ _ _ _ rfl _ (wn_tr W3 (wn_sI r3.2.2.2.1.2.1.2.1)) r7
        simp (disch := first | omega | decide | assumption | exact st_ne s0 (by decide) (by decide) (by decide) | exact dyn_ne (by assumption) (by decide) | fail) only [Int.reduceAdd, Int.reduceSub, Int.reduceNeg, ii_add, ii_sub, ii_mul, ii_lt, ii_le, ii_eq, ixn_ii, ixo_ii, rem_ii, nb_1, nb_0, nb_bb, bb_0, hI_gv, Int.toNat_of_nonneg, Int.cast_ofNat_Int, ht_sI, ht_sJ, ht_sR, hn_sI, hn_sJ, hn_sR, hR_sI, hR_sJ, kI_v, kV_v, kJ_v, true_and, and_true, forall_eq, tg, ln, rf, ne_eq, not_false_eq_true, forall_const, not_true_eq_false, false_implies, Int.reduceEq, Int.reduceLT, Int.reduceLE, implies_true, and_self, reduceCtorEq, false_and, t53, t33, c, ua, ub]
        exact ⟨⟨by omega, by omega⟩, fin⟩
    · rw [if_pos nk2] at qX qY
      have fin := qX _ _ rfl h3 (wn_tr W1 (wn_wr o0 w3)) e8 e9
      simp (disch := first | omega | decide | assumption | exact st_ne s0 (by decide) (by decide) (by decide) | exact dyn_ne (by assumption) (by decide) | fail) only [Int.reduceAdd, Int.reduceSub, Int.reduceNeg, ii_add, ii_sub, ii_mul, ii_lt, ii_le, ii_eq, ixn_ii, ixo_ii, rem_ii, nb_1, nb_0, nb_bb, bb_0, hI_gv, Int.toNat_of_nonneg, Int.cast_ofNat_Int, ht_sI, ht_sJ, ht_sR, hn_sI, hn_sJ, hn_sR, hR_sI, hR_sJ, kI_v, kV_v, kJ_v, true_and, and_true, forall_eq, tg, ln, rf, ne_eq, not_false_eq_true, forall_const, not_true_eq_false, false_implies, Int.reduceEq, Int.reduceLT, Int.reduceLE, implies_true, and_self, reduceCtorEq, false_and,]
      exact fin
  · rw [if_pos nk] at qX qY
    have fin := qX _ _ rfl h1 (wn_wr o0 w1) e8 e9
    simp (disch := first | omega | decide | assumption | exact st_ne s0 (by decide) (by decide) (by decide) | exact dyn_ne (by assumption) (by decide) | fail) only [Int.reduceAdd, Int.reduceSub, Int.reduceNeg, ii_add, ii_sub, ii_mul, ii_lt, ii_le, ii_eq, ixn_ii, ixo_ii, rem_ii, nb_1, nb_0, nb_bb, bb_0, hI_gv, Int.toNat_of_nonneg, Int.cast_ofNat_Int, ht_sI, ht_sJ, ht_sR, hn_sI, hn_sJ, hn_sR, hR_sI, hR_sJ, kI_v, kV_v, kJ_v, true_and, and_true, forall_eq, tg, ln, rf, ne_eq, not_false_eq_true, forall_const, not_true_eq_false, false_implies, Int.reduceEq, Int.reduceLT, Int.reduceLE, implies_true, and_self, reduceCtorEq, false_and,]
    exact fin
theorem k_readRoute (ok : tr_ok E) (r : RD hb ad h q t n p m one two H L) (v : vk m one two H L) (qX : ∀ k z, lnRoute t m one two n p H L = .inl (k, z) → ∀ h', wn hb h h' → gv h' q 8 = k → gv h' q 9 = z → Q (.inl (some (.inl (ii 0)))) h') (qY : ∀ p' m' o' w' L', lnRoute t m one two n p H L = .inr (p', m', o', w', L') → ∀ h', wn hb h h' → RD hb ad h' q t n p' m' o' w' H L' → Q (.inl (some (.inl (ii 1)))) h') : tr_C E 49 [.inr (.inr q)] h Q := by
  refine T_X4_readRoute ok ?_
  have vH := v_H v.1
  have vL := v_L v.1
  obtain ⟨t5, t3⟩ := RD_5 r
  have o0 := r.2.2.2.1.1
  have rp := RD_p r
  unfold lnRoute at qX qY
  refine ⟨t5, k_near ok r vH.1 vH.2 (fun nk h1 w1 r1 e4 e5 => ?_) (fun nk h1 w1 e8 e9 => ?_)⟩
  · rw [if_neg (fun e => e nk)] at qX qY
    obtain ⟨nd, nl, nh⟩ := nK_0.1 nk
    obtain ⟨t51, t31⟩ := RD_5 r1
    have W1 : wn hb h h1 := wn_wr o0 w1
    have rp1 := RD_p r1
    simp (disch := first | omega | decide | assumption | exact st_ne s0 (by decide) (by decide) (by decide) | exact dyn_ne (by assumption) (by decide) | fail) only [Int.reduceAdd, Int.reduceSub, Int.reduceNeg, ii_add, ii_sub, ii_mul, ii_lt, ii_le, ii_eq, ixn_ii, ixo_ii, rem_ii, nb_1, nb_0, nb_bb, bb_0, hI_gv, Int.toNat_of_nonneg, Int.cast_ofNat_Int, ht_sI, ht_sJ, ht_sR, hn_sI, hn_sJ, hn_sR, hR_sI, hR_sJ, kI_v, kV_v, kJ_v, true_and, and_true, forall_eq, tg, ln, rf, ne_eq, not_false_eq_true, forall_const, not_true_eq_false, false_implies, Int.reduceEq, Int.reduceLT, Int.reduceLE, implies_true, and_self, reduceCtorEq, false_and,]
    refine ⟨t51, k_far ok r1 vH.1 vH.2 e4 (fun nk2 h3 w3 r3 e34 e35 e36 => ?_) (fun nk2 h3 w3 e8 e9 => ?_)⟩
    · rw [if_neg (fun e => e nk2)] at qX qY
      obtain ⟨nd2, nl2, nh2⟩ := oKd_0.1 nk2
      obtain ⟨t53, t33⟩ := RD_5 r3
      have W3 : wn hb h h3 := wn_tr W1 (wn_wr o0 w3)
      have rp3 := RD_p r3
      simp (disch := first | omega | decide | assumption | exact st_ne s0 (by decide) (by decide) (by decide) | exact dyn_ne (by assumption) (by decide) | fail) only [Int.reduceAdd, Int.reduceSub, Int.reduceNeg, ii_add, ii_sub, ii_mul, ii_lt, ii_le, ii_eq, ixn_ii, ixo_ii, rem_ii, nb_1, nb_0, nb_bb, bb_0, hI_gv, Int.toNat_of_nonneg, Int.cast_ofNat_Int, ht_sI, ht_sJ, ht_sR, hn_sI, hn_sJ, hn_sR, hR_sI, hR_sJ, kI_v, kV_v, kJ_v, true_and, and_true, forall_eq, tg, ln, rf, ne_eq, not_false_eq_true, forall_const, not_true_eq_false, false_implies, Int.reduceEq, Int.reduceLT, Int.reduceLE, implies_true, and_self, reduceCtorEq, false_and, t53, e36]
      refine k_far ok r3 vH.1 vH.2 e34 (fun nk3 h5 w5 r5 e54 e55 e56 => ?_) (fun nk3 h5 w5 e8 e9 => ?_)
      · rw [if_neg (fun e => e nk3)] at qX qY
        obtain ⟨nd3, nl3, nh3⟩ := oKd_0.1 nk3
        obtain ⟨t55, t35⟩ := RD_5 r5
        have W5 : wn hb h h5 := wn_tr W3 (wn_wr o0 w5)
        simp (disch := first | omega | decide | assumption | exact st_ne s0 (by decide) (by decide) (by decide) | exact dyn_ne (by assumption) (by decide) | fail) only [Int.reduceAdd, Int.reduceSub, Int.reduceNeg, ii_add, ii_sub, ii_mul, ii_lt, ii_le, ii_eq, ixn_ii, ixo_ii, rem_ii, nb_1, nb_0, nb_bb, bb_0, hI_gv, Int.toNat_of_nonneg, Int.cast_ofNat_Int, ht_sI, ht_sJ, ht_sR, hn_sI, hn_sJ, hn_sR, hR_sI, hR_sJ, kI_v, kV_v, kJ_v, true_and, and_true, forall_eq, tg, ln, rf, ne_eq, not_false_eq_true, forall_const, not_true_eq_false, false_implies, Int.reduceEq, Int.reduceLT, Int.reduceLE, implies_true, and_self, reduceCtorEq, false_and, t55, t35, e54, e56]
        refine k_lbw ok r5 v (by omega) (by omega) (by omega) (by omega) ?_
        have lr := lbw_rg (one := one) (two := two) (a := nV t n p) (b := nV t n (nE t n (nE t n p))) vL.1
        by_cases c : lbw one two L (nV t n p) (nV t n (nE t n (nE t n p))) = -1
        · rw [if_pos c] at qX qY
          rw [c]
          have e5' : gv h5 q 5 = bl t n p := e55.trans (e35.trans e5)
          simp (disch := first | omega | decide | assumption | exact st_ne s0 (by decide) (by decide) (by decide) | exact dyn_ne (by assumption) (by decide) | fail) only [Int.reduceAdd, Int.reduceSub, Int.reduceNeg, ii_add, ii_sub, ii_mul, ii_lt, ii_le, ii_eq, ixn_ii, ixo_ii, rem_ii, nb_1, nb_0, nb_bb, bb_0, hI_gv, Int.toNat_of_nonneg, Int.cast_ofNat_Int, ht_sI, ht_sJ, ht_sR, hn_sI, hn_sJ, hn_sR, hR_sI, hR_sJ, kI_v, kV_v, kJ_v, true_and, and_true, forall_eq, tg, ln, rf, ne_eq, not_false_eq_true, forall_const, not_true_eq_false, false_implies, Int.reduceEq, Int.reduceLT, Int.reduceLE, implies_true, and_self, reduceCtorEq, false_and, t55, t35, e5']
          refine k_refuse ok t55 (by omega) (by omega) (by omega) (by omega) (fun h' w' e' => ?_)
          have fin := qX _ _ rfl h' (wn_tr W5 (wn_wr o0 w')) (by rw [e', ud_ne (by decide), ud_eq]) (by rw [e', ud_eq])
          simp (disch := first | omega | decide | assumption | exact st_ne s0 (by decide) (by decide) (by decide) | exact dyn_ne (by assumption) (by decide) | fail) only [Int.reduceAdd, Int.reduceSub, Int.reduceNeg, ii_add, ii_sub, ii_mul, ii_lt, ii_le, ii_eq, ixn_ii, ixo_ii, rem_ii, nb_1, nb_0, nb_bb, bb_0, hI_gv, Int.toNat_of_nonneg, Int.cast_ofNat_Int, ht_sI, ht_sJ, ht_sR, hn_sI, hn_sJ, hn_sR, hR_sI, hR_sJ, kI_v, kV_v, kJ_v, true_and, and_true, forall_eq, tg, ln, rf, ne_eq, not_false_eq_true, forall_const, not_true_eq_false, false_implies, Int.reduceEq, Int.reduceLT, Int.reduceLE, implies_true, and_self, reduceCtorEq, false_and,]
          exact fin
        · rw [if_neg c] at qX qY
          have n5 := r5.2.2.1
          obtain ⟨-, -, -, -, -, -, ⟨ra, rb, rc⟩, -⟩ := id n5
          have n5' := nst_w5 (x := lbw one two L (nV t n p) (nV t n (nE t n (nE t n p)))) r5.2.2.2.1.2.1 n5 (k := 10 * nV t n p + nV t n (nE t n p)) (by omega) (by omega) (by omega) (by omega)
          have r7 := RD_s r5 (Or.inr ra) n5' (fun l l0 l1 => by
            rw [ud_ne (by omega)]
            exact r5.2.2.2.2 l l0 l1)
          have W7 : wn hb h5 _ := wn_sI (k := (10 * nV t n p + nV t n (nE t n p)).toNat) (v := ii (lbw one two L (nV t n p) (nV t n (nE t n (nE t n p))))) r5.2.2.2.1.2.1.2.2.1
          have fin := qY _ _ _ _ _ rfl _ (wn_tr W5 W7) (by rw [show 6 + 10 * nV t n p + nV t n (nE t n p) = 6 + (10 * nV t n p + nV t n (nE t n p)) by omega]; exact r7)
          simp (disch := first | omega | decide | assumption | exact st_ne s0 (by decide) (by decide) (by decide) | exact dyn_ne (by assumption) (by decide) | fail) only [Int.reduceAdd, Int.reduceSub, Int.reduceNeg, ii_add, ii_sub, ii_mul, ii_lt, ii_le, ii_eq, ixn_ii, ixo_ii, rem_ii, nb_1, nb_0, nb_bb, bb_0, hI_gv, Int.toNat_of_nonneg, Int.cast_ofNat_Int, ht_sI, ht_sJ, ht_sR, hn_sI, hn_sJ, hn_sR, hR_sI, hR_sJ, kI_v, kV_v, kJ_v, true_and, and_true, forall_eq, tg, ln, rf, ne_eq, not_false_eq_true, forall_const, not_true_eq_false, false_implies, Int.reduceEq, Int.reduceLT, Int.reduceLE, implies_true, and_self, reduceCtorEq, false_and, t55, t35, c, ra, rb, e54]
          rw [show nV t n p * 10 + nV t n (nE t n p) = 10 * nV t n p + nV t n (nE t n p) by omega]
          exact ⟨⟨by omega, by omega⟩, fin⟩
      · rw [if_pos nk3] at qX qY
        have fin := qX _ _ rfl h5 (wn_tr W3 (wn_wr o0 w5)) e8 e9
        simp (disch := first | omega | decide | assumption | exact st_ne s0 (by decide) (by decide) (by decide) | exact dyn_ne (by assumption) (by decide) | fail) only [Int.reduceAdd, Int.reduceSub, Int.reduceNeg, ii_add, ii_sub, ii_mul, ii_lt, ii_le, ii_eq, ixn_ii, ixo_ii, rem_ii, nb_1, nb_0, nb_bb, bb_0, hI_gv, Int.toNat_of_nonneg, Int.cast_ofNat_Int, ht_sI, ht_sJ, ht_sR, hn_sI, hn_sJ, hn_sR, hR_sI, hR_sJ, kI_v, kV_v, kJ_v, true_and, and_true, forall_eq, tg, ln, rf, ne_eq, not_false_eq_true, forall_const, not_true_eq_false, false_implies, Int.reduceEq, Int.reduceLT, Int.reduceLE, implies_true, and_self, reduceCtorEq, false_and,]
        exact fin
    · rw [if_pos nk2] at qX qY
      have fin := qX _ _ rfl h3 (wn_tr W1 (wn_wr o0 w3)) e8 e9
      simp (disch := first | omega | decide | assumption | exact st_ne s0 (by decide) (by decide) (by decide) | exact dyn_ne (by assumption) (by decide) | fail) only [Int.reduceAdd, Int.reduceSub, Int.reduceNeg, ii_add, ii_sub, ii_mul, ii_lt, ii_le, ii_eq, ixn_ii, ixo_ii, rem_ii, nb_1, nb_0, nb_bb, bb_0, hI_gv, Int.toNat_of_nonneg, Int.cast_ofNat_Int, ht_sI, ht_sJ, ht_sR, hn_sI, hn_sJ, hn_sR, hR_sI, hR_sJ, kI_v, kV_v, kJ_v, true_and, and_true, forall_eq, tg, ln, rf, ne_eq, not_false_eq_true, forall_const, not_true_eq_false, false_implies, Int.reduceEq, Int.reduceLT, Int.reduceLE, implies_true, and_self, reduceCtorEq, false_and,]
      exact fin
  · rw [if_pos nk] at qX qY
    have fin := qX _ _ rfl h1 (wn_wr o0 w1) e8 e9
    simp (disch := first | omega | decide | assumption | exact st_ne s0 (by decide) (by decide) (by decide) | exact dyn_ne (by assumption) (by decide) | fail) only [Int.reduceAdd, Int.reduceSub, Int.reduceNeg, ii_add, ii_sub, ii_mul, ii_lt, ii_le, ii_eq, ixn_ii, ixo_ii, rem_ii, nb_1, nb_0, nb_bb, bb_0, hI_gv, Int.toNat_of_nonneg, Int.cast_ofNat_Int, ht_sI, ht_sJ, ht_sR, hn_sI, hn_sJ, hn_sR, hR_sI, hR_sJ, kI_v, kV_v, kJ_v, true_and, and_true, forall_eq, tg, ln, rf, ne_eq, not_false_eq_true, forall_const, not_true_eq_false, false_implies, Int.reduceEq, Int.reduceLT, Int.reduceLE, implies_true, and_self, reduceCtorEq, false_and,]
    exact fin
end RD5
