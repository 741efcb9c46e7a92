/-! TEXT: the class's reader, settings, ends -/
def loS (m : Int → Int) (w : Int) : Int := if w = 0 then 1 else if w = 1 then bse (m 4) else if w = 2 then 1 else if w = 3 then 0 else 2
def hiS (m : Int → Int) (w : Int) : Int := if w = 0 then 31 else if w = 1 then 997 else if w = 2 then m 2 else if w = 3 then m 2 - 1 else 64
section RD6
variable {E : tr_Env} {ad : Nat → Nat} {hb h h0 h1 h2 : tr_H} {Q : tr_Q} {t m one two m' o' w' : Int → Int} {n s p H L H' L' a b : Int} {q nn : Nat}
theorem k_fits2 (ok : tr_ok E) (n : nst ad h nn m one two H L) {w x : Int} (w0 : 0 ≤ w) (w1 : w ≤ 4) (x0 : 0 ≤ x) (x1 : x ≤ 100000) (f : Q (.inl (some (.inl (bb (decide (loS m w ≤ x ∧ x ≤ hiS m w)))))) h) : tr_C E 31 [.inr (.inr nn), .inl (ii w), .inl (ii x)] h Q := by
  refine T_X2_fits ok ?_
  obtain ⟨n0, n1, n2, ⟨sa, sb, sc⟩, ⟨ea, eb, ec⟩, ⟨ua, ub, uc⟩, ⟨ra, rb, rc⟩, ⟨ga, gb, g0, g1, g2, g3, g4⟩, nd⟩ := id n
  have b1 := gv_rg h (hR h nn 6) 1
  have b3 := gv_rg h (hR h nn 6) 3
  rw [g1] at b1
  rw [g3] at b3
  have yes : (loS m w ≤ x ∧ x ≤ hiS m w) → Q (.inl (some (.inl (ii 1)))) h := fun g => by rw [decide_eq_true g] at f; exact f
  have no : ¬ (loS m w ≤ x ∧ x ≤ hiS m w) → Q (.inl (some (.inl (ii 0)))) h := fun g => by rw [decide_eq_false g] at f; exact f
  clear f
  rcases (by omega : w = 0 ∨ w = 1 ∨ w = 2 ∨ w = 3 ∨ w = 4) with rfl | rfl | rfl | rfl | rfl
  · rw [show loS m 0 = 1 from rfl, show hiS m 0 = 31 from rfl] at yes no
    simp (disch := first | omega | decide | assumption | exact st_ne s0 (by decide) (by decide) (by decide) | exact dyn_ne (by assumption) (by decide) | fail) only [Int.reduceAdd, Int.reduceSub, Int.reduceNeg, ii_add, ii_sub, ii_mul, ii_lt, ii_le, ii_eq, ixn_ii, ixo_ii, rem_ii, nb_1, nb_0, nb_bb, bb_0, hI_gv, Int.toNat_of_nonneg, Int.cast_ofNat_Int, ht_sI, ht_sJ, ht_sR, hn_sI, hn_sJ, hn_sR, hR_sI, hR_sJ, kI_v, kV_v, kJ_v, true_and, and_true, forall_eq, tg, ln, rf, ne_eq, not_false_eq_true, forall_const, not_true_eq_false, false_implies, Int.reduceEq, Int.reduceLT, Int.reduceLE, implies_true, and_self, reduceCtorEq, false_and, W_X2_fits, n0, ga, gb, g1, g3]
    exact ⟨fun _ => no (by omega), fun _ => ⟨fun _ => yes (by omega), fun _ => no (by omega)⟩⟩
  · rw [show loS m 1 = bse (m 4) from rfl, show hiS m 1 = 997 from rfl] at yes no
    unfold bse at yes no
    simp (disch := first | omega | decide | assumption | exact st_ne s0 (by decide) (by decide) (by decide) | exact dyn_ne (by assumption) (by decide) | fail) only [Int.reduceAdd, Int.reduceSub, Int.reduceNeg, ii_add, ii_sub, ii_mul, ii_lt, ii_le, ii_eq, ixn_ii, ixo_ii, rem_ii, nb_1, nb_0, nb_bb, bb_0, hI_gv, Int.toNat_of_nonneg, Int.cast_ofNat_Int, ht_sI, ht_sJ, ht_sR, hn_sI, hn_sJ, hn_sR, hR_sI, hR_sJ, kI_v, kV_v, kJ_v, true_and, and_true, forall_eq, tg, ln, rf, ne_eq, not_false_eq_true, forall_const, not_true_eq_false, false_implies, Int.reduceEq, Int.reduceLT, Int.reduceLE, implies_true, and_self, reduceCtorEq, false_and, W_X2_fits, n0, ga, gb, g1, g3]
    refine ⟨fun _ => no ?_, fun _ => ⟨fun _ => ⟨fun _ => no ?_, fun _ => yes ?_⟩, fun _ => no ?_⟩⟩ <;> split <;> omega
  · rw [show loS m 2 = 1 from rfl, show hiS m 2 = m 2 from rfl] at yes no
    simp (disch := first | omega | decide | assumption | exact st_ne s0 (by decide) (by decide) (by decide) | exact dyn_ne (by assumption) (by decide) | fail) only [Int.reduceAdd, Int.reduceSub, Int.reduceNeg, ii_add, ii_sub, ii_mul, ii_lt, ii_le, ii_eq, ixn_ii, ixo_ii, rem_ii, nb_1, nb_0, nb_bb, bb_0, hI_gv, Int.toNat_of_nonneg, Int.cast_ofNat_Int, ht_sI, ht_sJ, ht_sR, hn_sI, hn_sJ, hn_sR, hR_sI, hR_sJ, kI_v, kV_v, kJ_v, true_and, and_true, forall_eq, tg, ln, rf, ne_eq, not_false_eq_true, forall_const, not_true_eq_false, false_implies, Int.reduceEq, Int.reduceLT, Int.reduceLE, implies_true, and_self, reduceCtorEq, false_and, W_X2_fits, n0, ga, gb, g1, g3]
    exact ⟨fun _ => no (by omega), fun _ => ⟨fun _ => yes (by omega), fun _ => no (by omega)⟩⟩
  · rw [show loS m 3 = 0 from rfl, show hiS m 3 = m 2 - 1 from rfl] at yes no
    simp (disch := first | omega | decide | assumption | exact st_ne s0 (by decide) (by decide) (by decide) | exact dyn_ne (by assumption) (by decide) | fail) only [Int.reduceAdd, Int.reduceSub, Int.reduceNeg, ii_add, ii_sub, ii_mul, ii_lt, ii_le, ii_eq, ixn_ii, ixo_ii, rem_ii, nb_1, nb_0, nb_bb, bb_0, hI_gv, Int.toNat_of_nonneg, Int.cast_ofNat_Int, ht_sI, ht_sJ, ht_sR, hn_sI, hn_sJ, hn_sR, hR_sI, hR_sJ, kI_v, kV_v, kJ_v, true_and, and_true, forall_eq, tg, ln, rf, ne_eq, not_false_eq_true, forall_const, not_true_eq_false, false_implies, Int.reduceEq, Int.reduceLT, Int.reduceLE, implies_true, and_self, reduceCtorEq, false_and, W_X2_fits, n0, ga, gb, g1, g3]
    exact ⟨fun _ => no (by omega), fun _ => ⟨fun _ => yes (by omega), fun _ => no (by omega)⟩⟩
  · rw [show loS m 4 = 2 from rfl, show hiS m 4 = 64 from rfl] at yes no
    simp (disch := first | omega | decide | assumption | exact st_ne s0 (by decide) (by decide) (by decide) | exact dyn_ne (by assumption) (by decide) | fail) only [Int.reduceAdd, Int.reduceSub, Int.reduceNeg, ii_add, ii_sub, ii_mul, ii_lt, ii_le, ii_eq, ixn_ii, ixo_ii, rem_ii, nb_1, nb_0, nb_bb, bb_0, hI_gv, Int.toNat_of_nonneg, Int.cast_ofNat_Int, ht_sI, ht_sJ, ht_sR, hn_sI, hn_sJ, hn_sR, hR_sI, hR_sJ, kI_v, kV_v, kJ_v, true_and, and_true, forall_eq, tg, ln, rf, ne_eq, not_false_eq_true, forall_const, not_true_eq_false, false_implies, Int.reduceEq, Int.reduceLT, Int.reduceLE, implies_true, and_self, reduceCtorEq, false_and, W_X2_fits, n0, ga, gb, g1, g3]
    exact ⟨fun _ => no (by omega), fun _ => ⟨fun _ => yes (by omega), fun _ => no (by omega)⟩⟩
theorem k_setting (ok : tr_ok E) (r : RD hb ad h q t n p m one two H L) {w : Int} (w0 : 0 ≤ w) (w1 : w ≤ 4) (f1 : nK t n p (loS m w) (hiS m w) ≠ 0 → ∀ h', wn hb h h' → gv h' q 8 = nK t n p (loS m w) (hiS m w) → gv h' q 9 = bl t n p → Q (.inl (some (.inl (ii 0)))) h') (f0 : nK t n p (loS m w) (hiS m w) = 0 → ∀ h', wn hb h h' → RD hb ad h' q t n (nE t n p) (ud m (1 + w) (nV t n p)) one two H L → Q (.inl (some (.inl (ii 1)))) h') : tr_C E 50 [.inr (.inr q), .inl (ii w)] h Q := by
  refine T_X4_readSetting ok ?_
  obtain ⟨t5, t3⟩ := RD_5 r
  have o0 := r.2.2.2.1.1
  have rp := RD_p r
  have vr := nV_rg (t := t) (n := n) (p := p)
  refine ⟨t5, k_number ok r.1 (fun nd h1 x1 e1 => ?_) (fun nd h1 x1 e8 e9 => ?_)⟩
  · have r1 : RD hb ad h1 q t n (nE t n p) m one two H L := RD_w r x1 (by rw [e1, ud_ne (by decide), ud_ne (by decide)]) (by rw [e1, ud_ne (by decide), ud_ne (by decide)]) (by rw [e1, ud_eq]) (by omega) (by omega)
    obtain ⟨t51, t31⟩ := RD_5 r1
    have g3 : gv h1 q 3 = bl t n p := by rw [e1, ud_ne (by decide), ud_eq]
    have ng : ¬ nV t n p = -1 := by omega
    simp (disch := first | omega | decide | assumption | exact st_ne s0 (by decide) (by decide) (by decide) | exact dyn_ne (by assumption) (by decide) | fail) only [Int.reduceAdd, Int.reduceSub, Int.reduceNeg, ii_add, ii_sub, ii_mul, ii_lt, ii_le, ii_eq, ixn_ii, ixo_ii, rem_ii, nb_1, nb_0, nb_bb, bb_0, hI_gv, Int.toNat_of_nonneg, Int.cast_ofNat_Int, ht_sI, ht_sJ, ht_sR, hn_sI, hn_sJ, hn_sR, hR_sI, hR_sJ, kI_v, kV_v, kJ_v, true_and, and_true, forall_eq, tg, ln, rf, ne_eq, not_false_eq_true, forall_const, not_true_eq_false, false_implies, Int.reduceEq, Int.reduceLT, Int.reduceLE, implies_true, and_self, reduceCtorEq, false_and, t51, t31, ng]
    refine k_fits2 ok r1.2.2.1 w0 w1 (by omega) (by omega) ?_
    by_cases c : loS m w ≤ nV t n p ∧ nV t n p ≤ hiS m w
    · rw [decide_eq_true c]
      have n1 := r1.2.2.1
      obtain ⟨-, -, -, -, -, -, -, ⟨ga, gb, -⟩, -⟩ := id n1
      have n1' := nst_w6 (x := nV t n p) r1.2.2.2.1.2.1 n1 w0 (by omega : w < 5) (by omega) (by omega)
      have r7 := RD_s r1 (Or.inr ga) n1' (fun l l0 l1 => by
        rw [ud_ne (by omega)]
        exact r1.2.2.2.2 l l0 l1)
      have fin := f0 (nK_0.2 ⟨nd, c.1, c.2⟩) _ (wn_tr (wn_wr o0 x1) (wn_sI r1.2.2.2.1.2.1.2.2.2.1)) r7
      simp (disch := first | omega | decide | assumption | exact st_ne s0 (by decide) (by decide) (by decide) | exact dyn_ne (by assumption) (by decide) | fail) only [Int.reduceAdd, Int.reduceSub, Int.reduceNeg, ii_add, ii_sub, ii_mul, ii_lt, ii_le, ii_eq, ixn_ii, ixo_ii, rem_ii, nb_1, nb_0, nb_bb, bb_0, hI_gv, Int.toNat_of_nonneg, Int.cast_ofNat_Int, ht_sI, ht_sJ, ht_sR, hn_sI, hn_sJ, hn_sR, hR_sI, hR_sJ, kI_v, kV_v, kJ_v, true_and, and_true, forall_eq, tg, ln, rf, ne_eq, not_false_eq_true, forall_const, not_true_eq_false, false_implies, Int.reduceEq, Int.reduceLT, Int.reduceLE, implies_true, and_self, reduceCtorEq, false_and, t51, t31, ga, gb]
      exact ⟨⟨by omega, by omega⟩, fin⟩
    · rw [decide_eq_false c]
      have k2 := nK_2 nd c
      simp (disch := first | omega | decide | assumption | exact st_ne s0 (by decide) (by decide) (by decide) | exact dyn_ne (by assumption) (by decide) | fail) only [Int.reduceAdd, Int.reduceSub, Int.reduceNeg, ii_add, ii_sub, ii_mul, ii_lt, ii_le, ii_eq, ixn_ii, ixo_ii, rem_ii, nb_1, nb_0, nb_bb, bb_0, hI_gv, Int.toNat_of_nonneg, Int.cast_ofNat_Int, ht_sI, ht_sJ, ht_sR, hn_sI, hn_sJ, hn_sR, hR_sI, hR_sJ, kI_v, kV_v, kJ_v, true_and, and_true, forall_eq, tg, ln, rf, ne_eq, not_false_eq_true, forall_const, not_true_eq_false, false_implies, Int.reduceEq, Int.reduceLT, Int.reduceLE, implies_true, and_self, reduceCtorEq, false_and, t51, t31, g3]
      refine k_refuse ok t51 (by omega) (by omega) (by omega) (by omega) (fun h' w' e' => ?_)
      have fin := f1 (by omega) h' (wn_tr (wn_wr o0 x1) (wn_wr o0 w')) (by rw [e', k2, ud_ne (by decide), ud_eq]) (by rw [e', ud_eq])
      simp (disch := first | omega | decide | assumption | exact st_ne s0 (by decide) (by decide) (by decide) | exact dyn_ne (by assumption) (by decide) | fail) only [Int.reduceAdd, Int.reduceSub, Int.reduceNeg, ii_add, ii_sub, ii_mul, ii_lt, ii_le, ii_eq, ixn_ii, ixo_ii, rem_ii, nb_1, nb_0, nb_bb, bb_0, hI_gv, Int.toNat_of_nonneg, Int.cast_ofNat_Int, ht_sI, ht_sJ, ht_sR, hn_sI, hn_sJ, hn_sR, hR_sI, hR_sJ, kI_v, kV_v, kJ_v, true_and, and_true, forall_eq, tg, ln, rf, ne_eq, not_false_eq_true, forall_const, not_true_eq_false, false_implies, Int.reduceEq, Int.reduceLT, Int.reduceLE, implies_true, and_self, reduceCtorEq, false_and,]
      exact fin
  · have k1 : nK t n p (loS m w) (hiS m w) = 1 := nK_1 nd
    have fin := f1 (by omega) h1 (wn_wr o0 x1) (by rw [e8, k1]) e9
    simp (disch := first | omega | decide | assumption | exact st_ne s0 (by decide) (by decide) (by decide) | exact dyn_ne (by assumption) (by decide) | fail) only [Int.reduceAdd, Int.reduceSub, Int.reduceNeg, ii_add, ii_sub, ii_mul, ii_lt, ii_le, ii_eq, ixn_ii, ixo_ii, rem_ii, nb_1, nb_0, nb_bb, bb_0, hI_gv, Int.toNat_of_nonneg, Int.cast_ofNat_Int, ht_sI, ht_sJ, ht_sR, hn_sI, hn_sJ, hn_sR, hR_sI, hR_sJ, kI_v, kV_v, kJ_v, true_and, and_true, forall_eq, tg, ln, rf, ne_eq, not_false_eq_true, forall_const, not_true_eq_false, false_implies, Int.reduceEq, Int.reduceLT, Int.reduceLE, implies_true, and_self, reduceCtorEq, false_and,]
    exact fin
theorem k_semi (ok : tr_ok E) (r : RD hb ad h q t n p m one two H L) (f1 : ¬ (bl t n p < n ∧ t (bl t n p) = 59) → ∀ h', wn hb h h' → gv h' q 8 = 1 → gv h' q 9 = bl t n p → Q (.inl (some (.inl (ii 0)))) h') (f0 : bl t n p < n ∧ t (bl t n p) = 59 → ∀ h', wn hb h h' → RD hb ad h' q t n (bl t n p + 1) m one two H L → Q (.inl (some (.inl (ii 1)))) h') : tr_C E 54 [.inr (.inr q)] h Q := by
  refine T_X4_readSemicolon ok ?_
  obtain ⟨t5, t3⟩ := RD_5 r
  have o0 := r.2.2.2.1.1
  have rp := RD_p r
  refine ⟨t5, k_skipB ok r.1 (fun h1 x1 e1 r1 => ?_)⟩
  obtain ⟨s', c0, c1, c2, c3, c4, c5, c6, c7⟩ := id r1
  have tb := gv_rg h1 (ad 5) (bl t n p)
  have bad : ¬ (bl t n p < n ∧ t (bl t n p) = 59) → tr_C E 58 [.inr (.inr q), .inl (ii 1), .inl (ii (bl t n p))] h1 (kI (fun v4 h3 => Q (.inl (some (.inl (tr_nb v4)))) h3) (fun E h' => Q (.inr E) h')) := fun g => by
    refine k_refuse ok c0 (by omega) (by omega) (by omega) (by omega) (fun h' w' e' => ?_)
    have fin := f1 g h' (wn_wr o0 (wr_tr x1 w')) (by rw [e', ud_ne (by decide), ud_eq]) (by rw [e', ud_eq])
    simp (disch := first | omega | decide | assumption | exact st_ne s0 (by decide) (by decide) (by decide) | exact dyn_ne (by assumption) (by decide) | fail) only [Int.reduceAdd, Int.reduceSub, Int.reduceNeg, ii_add, ii_sub, ii_mul, ii_lt, ii_le, ii_eq, ixn_ii, ixo_ii, rem_ii, nb_1, nb_0, nb_bb, bb_0, hI_gv, Int.toNat_of_nonneg, Int.cast_ofNat_Int, ht_sI, ht_sJ, ht_sR, hn_sI, hn_sJ, hn_sR, hR_sI, hR_sJ, kI_v, kV_v, kJ_v, true_and, and_true, forall_eq, tg, ln, rf, ne_eq, not_false_eq_true, forall_const, not_true_eq_false, false_implies, Int.reduceEq, Int.reduceLT, Int.reduceLE, implies_true, and_self, reduceCtorEq, false_and,]
    exact fin
  have e2 : gv (hsI h1 q 2 (ii (bl t n p + 1))) q = ud (gv h1 q) 2 (bl t n p + 1) := gv_sIi (by omega) (by omega)
  have good : bl t n p < n ∧ t (bl t n p) = 59 → Q (.inl (some (.inl (ii 1)))) (hsI h1 q 2 (ii (bl t n p + 1))) := fun g =>
    f0 g _ (wn_wr o0 (wr_tr x1 (wr_sI _ _))) (RD_w r (wr_tr x1 (wr_sI _ _)) (by rw [e2, e1, ud_ne (by decide), ud_ne (by decide)]) (by rw [e2, e1, ud_ne (by decide), ud_ne (by decide)]) (by rw [e2, ud_eq]) (by omega) (by omega))
  simp (disch := first | omega | decide | assumption | exact st_ne s0 (by decide) (by decide) (by decide) | exact dyn_ne (by assumption) (by decide) | fail) only [Int.reduceAdd, Int.reduceSub, Int.reduceNeg, ii_add, ii_sub, ii_mul, ii_lt, ii_le, ii_eq, ixn_ii, ixo_ii, rem_ii, nb_1, nb_0, nb_bb, bb_0, hI_gv, Int.toNat_of_nonneg, Int.cast_ofNat_Int, ht_sI, ht_sJ, ht_sR, hn_sI, hn_sJ, hn_sR, hR_sI, hR_sJ, kI_v, kV_v, kJ_v, true_and, and_true, forall_eq, tg, ln, rf, ne_eq, not_false_eq_true, forall_const, not_true_eq_false, false_implies, st_t s', st_n s', c0, c1, c2, c3]
  refine ⟨fun g => ⟨⟨by omega, by omega⟩, fun g2 => good ⟨g, (c4 _ c5 g).symm.trans g2⟩, fun g2 => ?_⟩, fun g => ?_⟩
  · have := bad (fun e => g2 ((c4 _ c5 g).trans e.2))
    exact this
  · have := bad (fun e => g e.1)
    exact this
theorem k_atEnd (ok : tr_ok E) (r : RD hb ad h q t n p m one two H L) (f : ∀ h', wn hb h h' → RD hb ad h' q t n (bl t n p) m one two H L → Q (.inl (some (.inl (bb (decide (¬ bl t n p < n)))))) h') : tr_C E 44 [.inr (.inr q)] h Q := by
  refine T_X4_isAtEnd ok ?_
  obtain ⟨t5, t3⟩ := RD_5 r
  have o0 := r.2.2.2.1.1
  have rp := RD_p r
  refine ⟨t5, k_skipB ok r.1 (fun h1 x1 e1 r1 => ?_)⟩
  obtain ⟨s', c0, c1, c2, c3, c4, c5, c6, c7⟩ := id r1
  have fin := f h1 (wn_wr o0 x1) (RD_w r x1 (by rw [e1, ud_ne (by decide)]) (by rw [e1, ud_ne (by decide)]) c3 c5 c6)
  simp (disch := first | omega | decide | assumption | exact st_ne s0 (by decide) (by decide) (by decide) | exact dyn_ne (by assumption) (by decide) | fail) only [Int.reduceAdd, Int.reduceSub, Int.reduceNeg, ii_add, ii_sub, ii_mul, ii_lt, ii_le, ii_eq, ixn_ii, ixo_ii, rem_ii, nb_1, nb_0, nb_bb, bb_0, hI_gv, Int.toNat_of_nonneg, Int.cast_ofNat_Int, ht_sI, ht_sJ, ht_sR, hn_sI, hn_sJ, hn_sR, hR_sI, hR_sJ, kI_v, kV_v, kJ_v, true_and, and_true, forall_eq, tg, ln, rf, ne_eq, not_false_eq_true, forall_const, not_true_eq_false, false_implies, c0, c2, c3]
  refine ⟨fun g => ?_, fun g => ?_⟩
  · rw [decide_eq_false (fun e => e g)] at fin; exact fin
  · rw [decide_eq_true g] at fin; exact fin
end RD6
