/-! TEXT: cut, route, base; the reference -/
section TX5
variable {E : tr_Env} {ad : Nat → Nat} {h h0 h1 : tr_H} {Q : tr_Q} {t m one two : Int → Int} {n s p H L a b k z : Int}
theorem bl_rg (r : rB ad h t n p) : 0 ≤ bl t n p ∧ bl t n p ≤ n := by
  obtain ⟨s, e33, e15, e16, p0, p1, n0, n1⟩ := r
  have := skp_rg (cB t) n p
  change p ≤ bl t n p ∧ (bl t n p ≤ p ∨ bl t n p ≤ n) at this
  omega
theorem c_wr4 (ok : tr_ok E) (r : rS ad h t n p) {k w : Int} (k0 : 0 < k) (k1 : k ≤ 9) (w0 : 0 ≤ w) (w1 : w ≤ 500) (q : ∀ h', fr ad p00 fR false h h' → rX ad h' t n k w → Q (.inl none) h') : tr_C E 138 [.inr (.inr (ad 23)), .inl (ii k), .inl (ii w)] h Q := by
  obtain ⟨rb, e18⟩ := r
  refine c_wrong ok rb.1 (by omega) (by omega) (by omega) (by omega) (fun h3 f3 g3 => ?_)
  rw [if_pos (by omega)] at g3
  have d16 : gv h3 (ad 23) 16 = p := by rw [g3, ud_ne (by decide), ud_ne (by decide)]; exact rb.2.2.2.1
  exact q h3 f3 ⟨⟨_, rB_fr rb f3 d16 rb.2.2.2.2.1 rb.2.2.2.2.2.1⟩, by rw [g3, ud_ne (by decide), ud_eq], by rw [g3, ud_eq], k0⟩
theorem c_cutTold (ok : tr_ok E) (r : rS ad h t n p) (rn : rN ad h m one two H L) (H0 : 2 ≤ H) (H1 : H ≤ 10) (L0 : 0 ≤ L) (L1 : L ≤ 24) (m0 : 0 ≤ m 0) (m1 : m 0 ≤ 16777215) (qX : ∀ k w, lnCut t m one two n p H L = .inl (k, w) → ∀ h', fr ad pN fNx false h h' → rX ad h' t n k w → Q (.inl none) h') (qY : ∀ p' m' o' w' L', lnCut t m one two n p H L = .inr (p', m', o', w', L') → ∀ h', fr ad pN fNx false h h' → rS ad h' t n p' → rN ad h' m' o' w' H L' → Q (.inl none) h') : tr_C E 147 [.inr (.inr (ad 23))] h Q := by
  refine T_X8_cutTold ok ?_
  obtain ⟨rb, e18⟩ := id r
  obtain ⟨s0, e33, e15, e16, p0, p1, n0, n1⟩ := id rb
  obtain ⟨i1, i2, i3, i4, i5⟩ := id rn
  have va := nV_rg (t := t) (n := n) (p := p)
  have vb := nV_rg (t := t) (n := n) (p := nE t n p)
  have blr := bl_rg rb
  simp (disch := first | omega | decide | assumption | exact st_ne s0 (by decide) (by decide) (by decide) | exact dyn_ne (by assumption) (by decide) | fail) only [Int.reduceAdd, Int.reduceSub, Int.reduceNeg, ii_add, ii_sub, ii_mul, ii_lt, ii_le, ii_eq, ixn_ii, ixo_ii, rem_ii, nb_1, nb_0, nb_bb, bb_0, hI_gv, Int.toNat_of_nonneg, Int.cast_ofNat_Int, ht_sI, ht_sJ, ht_sR, hn_sI, hn_sJ, hn_sR, hR_sI, hR_sJ, kI_v, kV_v, kJ_v, true_and, and_true, forall_eq, tg, ln, rf, ne_eq, not_false_eq_true, forall_const, not_true_eq_false, false_implies, W_X8_cutTold, st_t s0, i4]
  refine c_num ok r (by omega) (by omega) (by omega) (by omega) (fun c1 h1 f1 r1 g1 => ?_) (fun c1 h1 f1 r1 => ?_)
  · have t1 := r1.1.1
    have rn1 := rN_fr s0 f1 rn
    simp (disch := first | omega | decide | assumption | exact st_ne s0 (by decide) (by decide) (by decide) | exact dyn_ne (by assumption) (by decide) | fail) only [Int.reduceAdd, Int.reduceSub, Int.reduceNeg, ii_add, ii_sub, ii_mul, ii_lt, ii_le, ii_eq, ixn_ii, ixo_ii, rem_ii, nb_1, nb_0, nb_bb, bb_0, hI_gv, Int.toNat_of_nonneg, Int.cast_ofNat_Int, ht_sI, ht_sJ, ht_sR, hn_sI, hn_sJ, hn_sR, hR_sI, hR_sJ, kI_v, kV_v, kJ_v, true_and, and_true, forall_eq, tg, ln, rf, ne_eq, not_false_eq_true, forall_const, not_true_eq_false, false_implies, st_t t1]
    refine c_other ok r1 rn1.2.2.2.1 (by omega) H1 va.1 va.2 (fun c2 h2 f2 r2 => ?_) (fun c2 h2 f2 r2 x x0 x1 => ?_)
    · have t2 := r2.1.1
      have rn2 := rN_fr t1 f2 rn1
      obtain ⟨j1, j2, j3, j4, j5⟩ := id rn2
      have u18 := r2.2
      have f12 := fr_tr f1 f2
      simp (disch := first | omega | decide | assumption | exact st_ne s0 (by decide) (by decide) (by decide) | exact dyn_ne (by assumption) (by decide) | fail) only [Int.reduceAdd, Int.reduceSub, Int.reduceNeg, ii_add, ii_sub, ii_mul, ii_lt, ii_le, ii_eq, ixn_ii, ixo_ii, rem_ii, nb_1, nb_0, nb_bb, bb_0, hI_gv, Int.toNat_of_nonneg, Int.cast_ofNat_Int, ht_sI, ht_sJ, ht_sR, hn_sI, hn_sJ, hn_sR, hR_sI, hR_sJ, kI_v, kV_v, kJ_v, true_and, and_true, forall_eq, tg, ln, rf, ne_eq, not_false_eq_true, forall_const, not_true_eq_false, false_implies, Int.reduceEq, Int.reduceLT, Int.reduceLE, implies_true, and_self, reduceCtorEq, false_and, st_t t2, st_n t2, st_r t2, u18, j5, g1]
      refine c_linkBy ok t2 j2 j3 L0 L1 va.1 va.2 vb.1 vb.2 ?_
      have lr := lbw_rg (one := one) (two := two) (L := L) (a := nV t n p) (b := nV t n (nE t n p)) L0
      have lr2 : -1 ≤ lbw one two L (nV t n p) (nV t n (nE t n p)) ∧ lbw one two L (nV t n p) (nV t n (nE t n p)) < 24 := by omega
      have cut : lnCut t m one two n p H L = if lbw one two L (nV t n p) (nV t n (nE t n p)) = -1 then .inl (4, bl t n p) else .inr (nE t n (nE t n p), ud m 0 (upb (m 0) (lbw one two L (nV t n p) (nV t n (nE t n p))) 0), one, two, L) := by
        unfold lnCut
        rw [if_neg (fun e => e c1), if_neg (fun e => e c2)]
      generalize lbw one two L (nV t n p) (nV t n (nE t n p)) = y at *
      simp (disch := first | omega | decide | assumption | exact st_ne s0 (by decide) (by decide) (by decide) | exact dyn_ne (by assumption) (by decide) | fail) only [Int.reduceAdd, Int.reduceSub, Int.reduceNeg, ii_add, ii_sub, ii_mul, ii_lt, ii_le, ii_eq, ixn_ii, ixo_ii, rem_ii, nb_1, nb_0, nb_bb, bb_0, hI_gv, Int.toNat_of_nonneg, Int.cast_ofNat_Int, ht_sI, ht_sJ, ht_sR, hn_sI, hn_sJ, hn_sR, hR_sI, hR_sJ, kI_v, kV_v, kJ_v, true_and, and_true, forall_eq, tg, ln, rf, ne_eq, not_false_eq_true, forall_const, not_true_eq_false, false_implies, Int.reduceEq, Int.reduceLT, Int.reduceLE, implies_true, and_self, reduceCtorEq, false_and, st_t t2, st_n t2, st_r t2, u18, j1, j5, g1]
      refine ⟨fun c3 => ?_, fun c3 => ?_⟩
      · rw [if_pos c3] at cut
        refine c_wr4 ok r2 (by omega) (by omega) (by omega) (by omega) (fun h3 f3 r3 => ?_)
        have fin := qX _ _ cut h3 (fNm (fr_tr f12 f3)) r3
        obtain ⟨⟨p3, rb3⟩, w18, -, -⟩ := id r3
        simp (disch := first | omega | decide | assumption | exact st_ne s0 (by decide) (by decide) (by decide) | exact dyn_ne (by assumption) (by decide) | fail) only [Int.reduceAdd, Int.reduceSub, Int.reduceNeg, ii_add, ii_sub, ii_mul, ii_lt, ii_le, ii_eq, ixn_ii, ixo_ii, rem_ii, nb_1, nb_0, nb_bb, bb_0, hI_gv, Int.toNat_of_nonneg, Int.cast_ofNat_Int, ht_sI, ht_sJ, ht_sR, hn_sI, hn_sJ, hn_sR, hR_sI, hR_sJ, kI_v, kV_v, kJ_v, true_and, and_true, forall_eq, tg, ln, rf, ne_eq, not_false_eq_true, forall_const, not_true_eq_false, false_implies, Int.reduceEq, Int.reduceLT, Int.reduceLE, implies_true, and_self, reduceCtorEq, false_and, st_t rb3.1, w18]
        exact fin
      · rw [if_neg c3] at cut
        obtain ⟨w1, w2⟩ := upb_ok (up := 0) m0 m1 (by omega : 0 ≤ y) (by omega : y < 24)
        have ev : ii (m 0) ||| (ii 1 <<< (ii y &&& 31)) = ii (upb (m 0) y 0) := by
          unfold upb
          rw [if_neg (by decide), ii_ti]
        rw [ev]
        have f3 : fr ad pN fNx false h2 (hsI h2 (ad 26) 0 (ii (upb (m 0) y 0))) := fr_sIs rfl
        have y1 : gv (hsI h2 (ad 26) 0 (ii (upb (m 0) y 0))) (ad 23) = gv h2 (ad 23) := gv_sIn (st_ne t2 (by decide) (by decide) (by decide))
        have fin := qY _ _ _ _ _ cut _ (fr_tr (fNm f12) f3) (rS_N r2 f3 (by rw [y1]) (by rw [y1])) ⟨by rw [gv_sIi (by omega) (by omega), j1]; rfl, by rw [gv_sIn (st_ne t2 (by decide) (by decide) (by decide))]; exact j2, by rw [gv_sIn (st_ne t2 (by decide) (by decide) (by decide))]; exact j3, by rw [y1]; exact j4, by rw [y1]; exact j5⟩
        exact fin
    · have er : lnCut t m one two n p H L = .inl (oKd t n (nE t n p) H (nV t n p), bl t n (nE t n p)) := by
        unfold lnCut
        rw [if_neg (fun e => e c1), if_pos c2]
      have fin := qX _ _ er h2 (fNm (fr_tr f1 f2)) r2
      obtain ⟨⟨p2, rb2⟩, u18, -, k0⟩ := id r2
      have kb := gv_rg h2 (ad 23) 18
      rw [u18] at kb
      simp (disch := first | omega | decide | assumption | exact st_ne s0 (by decide) (by decide) (by decide) | exact dyn_ne (by assumption) (by decide) | fail) only [Int.reduceAdd, Int.reduceSub, Int.reduceNeg, ii_add, ii_sub, ii_mul, ii_lt, ii_le, ii_eq, ixn_ii, ixo_ii, rem_ii, nb_1, nb_0, nb_bb, bb_0, hI_gv, Int.toNat_of_nonneg, Int.cast_ofNat_Int, ht_sI, ht_sJ, ht_sR, hn_sI, hn_sJ, hn_sR, hR_sI, hR_sJ, kI_v, kV_v, kJ_v, true_and, and_true, forall_eq, tg, ln, rf, ne_eq, not_false_eq_true, forall_const, not_true_eq_false, false_implies, Int.reduceEq, Int.reduceLT, Int.reduceLE, implies_true, and_self, reduceCtorEq, false_and, st_t rb2.1, u18]
      exact ⟨fun g => by omega, fun _ => ⟨fun g => by omega, fun _ => fin⟩⟩
  · have er : lnCut t m one two n p H L = .inl (nK t n p 0 (H - 1), bl t n p) := by
      unfold lnCut
      rw [if_pos c1]
    obtain ⟨p2, rb2⟩ := r1.1
    simp (disch := first | omega | decide | assumption | exact st_ne s0 (by decide) (by decide) (by decide) | exact dyn_ne (by assumption) (by decide) | fail) only [Int.reduceAdd, Int.reduceSub, Int.reduceNeg, ii_add, ii_sub, ii_mul, ii_lt, ii_le, ii_eq, ixn_ii, ixo_ii, rem_ii, nb_1, nb_0, nb_bb, bb_0, hI_gv, Int.toNat_of_nonneg, Int.cast_ofNat_Int, ht_sI, ht_sJ, ht_sR, hn_sI, hn_sJ, hn_sR, hR_sI, hR_sJ, kI_v, kV_v, kJ_v, true_and, and_true, forall_eq, tg, ln, rf, ne_eq, not_false_eq_true, forall_const, not_true_eq_false, false_implies, st_t rb2.1]
    refine c_otherX ok r1 (fun h2 f2 r2 => ?_)
    have fin := qX _ _ er h2 (fNm (fr_tr f1 f2)) r2
    obtain ⟨⟨p3, rb3⟩, u18, -, k0⟩ := id r2
    have kb := gv_rg h2 (ad 23) 18
    rw [u18] at kb
    simp (disch := first | omega | decide | assumption | exact st_ne s0 (by decide) (by decide) (by decide) | exact dyn_ne (by assumption) (by decide) | fail) only [Int.reduceAdd, Int.reduceSub, Int.reduceNeg, ii_add, ii_sub, ii_mul, ii_lt, ii_le, ii_eq, ixn_ii, ixo_ii, rem_ii, nb_1, nb_0, nb_bb, bb_0, hI_gv, Int.toNat_of_nonneg, Int.cast_ofNat_Int, ht_sI, ht_sJ, ht_sR, hn_sI, hn_sJ, hn_sR, hR_sI, hR_sJ, kI_v, kV_v, kJ_v, true_and, and_true, forall_eq, tg, ln, rf, ne_eq, not_false_eq_true, forall_const, not_true_eq_false, false_implies, Int.reduceEq, Int.reduceLT, Int.reduceLE, implies_true, and_self, reduceCtorEq, false_and, st_t rb3.1, u18]
    exact ⟨fun g => by omega, fun _ => ⟨fun g => by omega, fun _ => fin⟩⟩
theorem c_baseTold (ok : tr_ok E) (r : rS ad h t n p) (rn : rN ad h m one two H L) (m0 : 0 ≤ m 4) (m1 : m 4 ≤ 997) (qX : ∀ k w, lnBase t m one two n p L = .inl (k, w) → ∀ h', fr ad pN fNx false h h' → rX ad h' t n k w → Q (.inl none) h') (qY : ∀ p' m' o' w' L', lnBase t m one two n p L = .inr (p', m', o', w', L') → ∀ h', fr ad pN fNx false h h' → rS ad h' t n p' → rN ad h' m' o' w' H L' → Q (.inl none) h') : tr_C E 149 [.inr (.inr (ad 23))] h Q := by
  refine T_X8_baseTold ok ?_
  obtain ⟨rb, e18⟩ := id r
  obtain ⟨s0, e33, e15, e16, p0, p1, n0, n1⟩ := id rb
  obtain ⟨i1, i2, i3, i4, i5⟩ := id rn
  have va := nV_rg (t := t) (n := n) (p := p)
  have vb := nV_rg (t := t) (n := n) (p := nE t n p)
  have eb : ∀ (d : Decidable (2 < m 4 + 1)), @ite _ (2 < m 4 + 1) d (ii (m 4 + 1)) (ii 2) = ii (bse (m 4)) := fun d => by
    unfold bse
    by_cases e : 2 < m 4 + 1
    · rw [if_pos e, if_pos e]
    · rw [if_neg e, if_neg e]
  have br : 0 ≤ bse (m 4) ∧ bse (m 4) ≤ 1000 := by unfold bse; split <;> omega
  simp (disch := first | omega | decide | assumption | exact st_ne s0 (by decide) (by decide) (by decide) | exact dyn_ne (by assumption) (by decide) | fail) only [Int.reduceAdd, Int.reduceSub, Int.reduceNeg, ii_add, ii_sub, ii_mul, ii_lt, ii_le, ii_eq, ixn_ii, ixo_ii, rem_ii, nb_1, nb_0, nb_bb, bb_0, hI_gv, Int.toNat_of_nonneg, Int.cast_ofNat_Int, ht_sI, ht_sJ, ht_sR, hn_sI, hn_sJ, hn_sR, hR_sI, hR_sJ, kI_v, kV_v, kJ_v, true_and, and_true, forall_eq, tg, ln, rf, ne_eq, not_false_eq_true, forall_const, not_true_eq_false, false_implies, W_X8_baseTold, st_t s0, st_n s0, st_r s0, i1, eb]
  refine ⟨by omega, c_num ok r (by omega) (by omega) (by omega) (by omega) (fun c1 h1 f1 r1 g1 => ?_) (fun c1 h1 f1 r1 => ?_)⟩
  · have t1 := r1.1.1
    have rn1 := rN_fr s0 f1 rn
    simp (disch := first | omega | decide | assumption | exact st_ne s0 (by decide) (by decide) (by decide) | exact dyn_ne (by assumption) (by decide) | fail) only [Int.reduceAdd, Int.reduceSub, Int.reduceNeg, ii_add, ii_sub, ii_mul, ii_lt, ii_le, ii_eq, ixn_ii, ixo_ii, rem_ii, nb_1, nb_0, nb_bb, bb_0, hI_gv, Int.toNat_of_nonneg, Int.cast_ofNat_Int, ht_sI, ht_sJ, ht_sR, hn_sI, hn_sJ, hn_sR, hR_sI, hR_sJ, kI_v, kV_v, kJ_v, true_and, and_true, forall_eq, tg, ln, rf, ne_eq, not_false_eq_true, forall_const, not_true_eq_false, false_implies, st_t t1]
    refine c_num ok r1 (by omega) (by omega) (by omega) (by omega) (fun c2 h2 f2 r2 g2 => ?_) (fun c2 h2 f2 r2 => ?_)
    · have t2 := r2.1.1
      have rn2 := rN_fr t1 f2 rn1
      obtain ⟨j1, j2, j3, j4, j5⟩ := id rn2
      have u18 := r2.2
      have f12 := fr_tr f1 f2
      have er : lnBase t m one two n p L = .inr (nE t n (nE t n p), ud (ud m 2 (nV t n p)) 3 (nV t n (nE t n p)), one, two, L) := by
        unfold lnBase
        rw [if_neg (fun e => e c1), if_neg (fun e => e c2)]
      have f3 : fr ad pN fNx false h2 (hsI (hsI h2 (ad 26) (2 : Int).toNat (ii (nV t n p))) (ad 26) (3 : Int).toNat (ii (nV t n (nE t n p)))) := fr_sI (fr_sIs rfl) rfl
      have y1 : gv (hsI (hsI h2 (ad 26) (2 : Int).toNat (ii (nV t n p))) (ad 26) (3 : Int).toNat (ii (nV t n (nE t n p)))) (ad 23) = gv h2 (ad 23) := by rw [gv_sIn (st_ne t2 (by decide) (by decide) (by decide)), gv_sIn (st_ne t2 (by decide) (by decide) (by decide))]
      have fin := qY _ _ _ _ _ er _ (fr_tr (fNm f12) f3) (rS_N r2 f3 (by rw [y1]) (by rw [y1])) ⟨by rw [gv_sIi (by omega) (by omega), gv_sIi (by omega) (by omega), j1]; rfl, by rw [gv_sIn (st_ne t2 (by decide) (by decide) (by decide)), gv_sIn (st_ne t2 (by decide) (by decide) (by decide))]; exact j2, by rw [gv_sIn (st_ne t2 (by decide) (by decide) (by decide)), gv_sIn (st_ne t2 (by decide) (by decide) (by decide))]; exact j3, by rw [y1]; exact j4, by rw [y1]; exact j5⟩
      simp (disch := first | omega | decide | assumption | exact st_ne s0 (by decide) (by decide) (by decide) | exact dyn_ne (by assumption) (by decide) | fail) only [Int.reduceAdd, Int.reduceSub, Int.reduceNeg, ii_add, ii_sub, ii_mul, ii_lt, ii_le, ii_eq, ixn_ii, ixo_ii, rem_ii, nb_1, nb_0, nb_bb, bb_0, hI_gv, Int.toNat_of_nonneg, Int.cast_ofNat_Int, ht_sI, ht_sJ, ht_sR, hn_sI, hn_sJ, hn_sR, hR_sI, hR_sJ, kI_v, kV_v, kJ_v, true_and, and_true, forall_eq, tg, ln, rf, ne_eq, not_false_eq_true, forall_const, not_true_eq_false, false_implies, Int.reduceEq, Int.reduceLT, Int.reduceLE, implies_true, and_self, reduceCtorEq, false_and, st_t t2, st_n t2, st_r t2, u18]
      exact fin
    · have er : lnBase t m one two n p L = .inl (nK t n (nE t n p) 1 (nV t n p), bl t n (nE t n p)) := by
        unfold lnBase
        rw [if_neg (fun e => e c1), if_pos c2]
      have fin := qX _ _ er h2 (fNm (fr_tr f1 f2)) r2
      obtain ⟨⟨p2, rb2⟩, u18, -, k0⟩ := id r2
      have kb := gv_rg h2 (ad 23) 18
      rw [u18] at kb
      simp (disch := first | omega | decide | assumption | exact st_ne s0 (by decide) (by decide) (by decide) | exact dyn_ne (by assumption) (by decide) | fail) only [Int.reduceAdd, Int.reduceSub, Int.reduceNeg, ii_add, ii_sub, ii_mul, ii_lt, ii_le, ii_eq, ixn_ii, ixo_ii, rem_ii, nb_1, nb_0, nb_bb, bb_0, hI_gv, Int.toNat_of_nonneg, Int.cast_ofNat_Int, ht_sI, ht_sJ, ht_sR, hn_sI, hn_sJ, hn_sR, hR_sI, hR_sJ, kI_v, kV_v, kJ_v, true_and, and_true, forall_eq, tg, ln, rf, ne_eq, not_false_eq_true, forall_const, not_true_eq_false, false_implies, st_t rb2.1, u18]
      exact ⟨fun g => by omega, fun _ => fin⟩
  · have er : lnBase t m one two n p L = .inl (nK t n p (bse (m 4)) 997, bl t n p) := by
      unfold lnBase
      rw [if_pos c1]
    obtain ⟨p2, rb2⟩ := r1.1
    simp (disch := first | omega | decide | assumption | exact st_ne s0 (by decide) (by decide) (by decide) | exact dyn_ne (by assumption) (by decide) | fail) only [Int.reduceAdd, Int.reduceSub, Int.reduceNeg, ii_add, ii_sub, ii_mul, ii_lt, ii_le, ii_eq, ixn_ii, ixo_ii, rem_ii, nb_1, nb_0, nb_bb, bb_0, hI_gv, Int.toNat_of_nonneg, Int.cast_ofNat_Int, ht_sI, ht_sJ, ht_sR, hn_sI, hn_sJ, hn_sR, hR_sI, hR_sJ, kI_v, kV_v, kJ_v, true_and, and_true, forall_eq, tg, ln, rf, ne_eq, not_false_eq_true, forall_const, not_true_eq_false, false_implies, st_t rb2.1]
    refine c_numberX ok r1 (fun h2 f2 r2 => ?_)
    have fin := qX _ _ er h2 (fNm (fr_tr f1 f2)) r2
    obtain ⟨⟨p3, rb3⟩, u18, -, k0⟩ := id r2
    have kb := gv_rg h2 (ad 23) 18
    rw [u18] at kb
    simp (disch := first | omega | decide | assumption | exact st_ne s0 (by decide) (by decide) (by decide) | exact dyn_ne (by assumption) (by decide) | fail) only [Int.reduceAdd, Int.reduceSub, Int.reduceNeg, ii_add, ii_sub, ii_mul, ii_lt, ii_le, ii_eq, ixn_ii, ixo_ii, rem_ii, nb_1, nb_0, nb_bb, bb_0, hI_gv, Int.toNat_of_nonneg, Int.cast_ofNat_Int, ht_sI, ht_sJ, ht_sR, hn_sI, hn_sJ, hn_sR, hR_sI, hR_sJ, kI_v, kV_v, kJ_v, true_and, and_true, forall_eq, tg, ln, rf, ne_eq, not_false_eq_true, forall_const, not_true_eq_false, false_implies, st_t rb3.1, u18]
    exact ⟨fun g => by omega, fun _ => fin⟩
theorem c_readsRoute (ok : tr_ok E) (r : rS ad h t n p) (rn : rN ad h m one two H L) (H0 : 2 ≤ H) (H1 : H ≤ 10) (L0 : 0 ≤ L) (L1 : L ≤ 24) (qX : ∀ k w, lnRoute t m one two n p H L = .inl (k, w) → ∀ h', fr ad pN fNx false h h' → rX ad h' t n k w → Q (.inl none) h') (qY : ∀ p' m' o' w' L', lnRoute t m one two n p H L = .inr (p', m', o', w', L') → ∀ h', fr ad pN fNx false h h' → rS ad h' t n p' → rN ad h' m' o' w' H L' → Q (.inl none) h') : tr_C E 148 [.inr (.inr (ad 23))] h Q := by
  refine T_X8_readsRoute ok ?_
  obtain ⟨rb, e18⟩ := id r
  obtain ⟨s0, e33, e15, e16, p0, p1, n0, n1⟩ := id rb
  obtain ⟨i1, i2, i3, i4, i5⟩ := id rn
  have va := nV_rg (t := t) (n := n) (p := p)
  have vb := nV_rg (t := t) (n := n) (p := nE t n p)
  have vc := nV_rg (t := t) (n := n) (p := nE t n (nE t n p))
  have blr := bl_rg rb
  simp (disch := first | omega | decide | assumption | exact st_ne s0 (by decide) (by decide) (by decide) | exact dyn_ne (by assumption) (by decide) | fail) only [Int.reduceAdd, Int.reduceSub, Int.reduceNeg, ii_add, ii_sub, ii_mul, ii_lt, ii_le, ii_eq, ixn_ii, ixo_ii, rem_ii, nb_1, nb_0, nb_bb, bb_0, hI_gv, Int.toNat_of_nonneg, Int.cast_ofNat_Int, ht_sI, ht_sJ, ht_sR, hn_sI, hn_sJ, hn_sR, hR_sI, hR_sJ, kI_v, kV_v, kJ_v, true_and, and_true, forall_eq, tg, ln, rf, ne_eq, not_false_eq_true, forall_const, not_true_eq_false, false_implies, W_X8_readsRoute, st_t s0, i4]
  refine c_num ok r (by omega) (by omega) (by omega) (by omega) (fun c1 h1 f1 r1 g1 => ?_) (fun c1 h1 f1 r1 => ?_)
  · have t1 := r1.1.1
    have rn1 := rN_fr s0 f1 rn
    simp (disch := first | omega | decide | assumption | exact st_ne s0 (by decide) (by decide) (by decide) | exact dyn_ne (by assumption) (by decide) | fail) only [Int.reduceAdd, Int.reduceSub, Int.reduceNeg, ii_add, ii_sub, ii_mul, ii_lt, ii_le, ii_eq, ixn_ii, ixo_ii, rem_ii, nb_1, nb_0, nb_bb, bb_0, hI_gv, Int.toNat_of_nonneg, Int.cast_ofNat_Int, ht_sI, ht_sJ, ht_sR, hn_sI, hn_sJ, hn_sR, hR_sI, hR_sJ, kI_v, kV_v, kJ_v, true_and, and_true, forall_eq, tg, ln, rf, ne_eq, not_false_eq_true, forall_const, not_true_eq_false, false_implies, st_t t1]
    refine c_other ok r1 rn1.2.2.2.1 (by omega) H1 va.1 va.2 (fun c2 h2 f2 r2 => ?_) (fun c2 h2 f2 r2 x x0 x1 => ?_)
    · have t2 := r2.1.1
      have rn2 := rN_fr t1 f2 rn1
      have f12 := fr_tr f1 f2
      simp (disch := first | omega | decide | assumption | exact st_ne s0 (by decide) (by decide) (by decide) | exact dyn_ne (by assumption) (by decide) | fail) only [Int.reduceAdd, Int.reduceSub, Int.reduceNeg, ii_add, ii_sub, ii_mul, ii_lt, ii_le, ii_eq, ixn_ii, ixo_ii, rem_ii, nb_1, nb_0, nb_bb, bb_0, hI_gv, Int.toNat_of_nonneg, Int.cast_ofNat_Int, ht_sI, ht_sJ, ht_sR, hn_sI, hn_sJ, hn_sR, hR_sI, hR_sJ, kI_v, kV_v, kJ_v, true_and, and_true, forall_eq, tg, ln, rf, ne_eq, not_false_eq_true, forall_const, not_true_eq_false, false_implies, st_t t2]
      refine c_other ok r2 rn2.2.2.2.1 (by omega) H1 va.1 va.2 (fun c3 h3 f3 r3 => ?_) (fun c3 h3 f3 r3 x x0 x1 => ?_)
      · have t3 := r3.1.1
        have rn3 := rN_fr t2 f3 rn2
        obtain ⟨j1, j2, j3, j4, j5⟩ := id rn3
        have u18 := r3.2
        have f13 := fr_tr f12 f3
        have ra := (nK_0.1 c1).2
        have rbb := (oKd_0.1 c2).2.1
        simp (disch := first | omega | decide | assumption | exact st_ne s0 (by decide) (by decide) (by decide) | exact dyn_ne (by assumption) (by decide) | fail) only [Int.reduceAdd, Int.reduceSub, Int.reduceNeg, ii_add, ii_sub, ii_mul, ii_lt, ii_le, ii_eq, ixn_ii, ixo_ii, rem_ii, nb_1, nb_0, nb_bb, bb_0, hI_gv, Int.toNat_of_nonneg, Int.cast_ofNat_Int, ht_sI, ht_sJ, ht_sR, hn_sI, hn_sJ, hn_sR, hR_sI, hR_sJ, kI_v, kV_v, kJ_v, true_and, and_true, forall_eq, tg, ln, rf, ne_eq, not_false_eq_true, forall_const, not_true_eq_false, false_implies, Int.reduceEq, Int.reduceLT, Int.reduceLE, implies_true, and_self, reduceCtorEq, false_and, st_t t3, st_n t3, st_r t3, u18, j5, g1]
        refine c_linkBy ok t3 j2 j3 L0 L1 va.1 va.2 vc.1 vc.2 ?_
        have lr := lbw_rg (one := one) (two := two) (L := L) (a := nV t n p) (b := nV t n (nE t n (nE t n p))) L0
        have lr2 : -1 ≤ lbw one two L (nV t n p) (nV t n (nE t n (nE t n p))) ∧ lbw one two L (nV t n p) (nV t n (nE t n (nE t n p))) < 24 := by omega
        have rte : lnRoute t m one two n p H L = if lbw one two L (nV t n p) (nV t n (nE t n (nE t n p))) = -1 then .inl (4, bl t n p) else .inr (nE t n (nE t n (nE t n p)), ud m (6 + 10 * nV t n p + nV t n (nE t n p)) (lbw one two L (nV t n p) (nV t n (nE t n (nE t n p)))), one, two, L) := by
          unfold lnRoute
          rw [if_neg (fun e => e c1), if_neg (fun e => e c2), if_neg (fun e => e c3)]
        generalize lbw one two L (nV t n p) (nV t n (nE t n (nE t n p))) = y at *
        simp (disch := first | omega | decide | assumption | exact st_ne s0 (by decide) (by decide) (by decide) | exact dyn_ne (by assumption) (by decide) | fail) only [Int.reduceAdd, Int.reduceSub, Int.reduceNeg, ii_add, ii_sub, ii_mul, ii_lt, ii_le, ii_eq, ixn_ii, ixo_ii, rem_ii, nb_1, nb_0, nb_bb, bb_0, hI_gv, Int.toNat_of_nonneg, Int.cast_ofNat_Int, ht_sI, ht_sJ, ht_sR, hn_sI, hn_sJ, hn_sR, hR_sI, hR_sJ, kI_v, kV_v, kJ_v, true_and, and_true, forall_eq, tg, ln, rf, ne_eq, not_false_eq_true, forall_const, not_true_eq_false, false_implies, Int.reduceEq, Int.reduceLT, Int.reduceLE, implies_true, and_self, reduceCtorEq, false_and, st_t t3, st_n t3, st_r t3, u18, j1, j5, g1]
        refine ⟨fun c4 => ?_, fun c4 => ?_⟩
        · rw [if_pos c4] at rte
          refine c_wr4 ok r3 (by omega) (by omega) (by omega) (by omega) (fun h4 f4 r4 => ?_)
          have fin := qX _ _ rte h4 (fNm (fr_tr f13 f4)) r4
          obtain ⟨⟨p4, rb4⟩, w18, -, -⟩ := id r4
          simp (disch := first | omega | decide | assumption | exact st_ne s0 (by decide) (by decide) (by decide) | exact dyn_ne (by assumption) (by decide) | fail) only [Int.reduceAdd, Int.reduceSub, Int.reduceNeg, ii_add, ii_sub, ii_mul, ii_lt, ii_le, ii_eq, ixn_ii, ixo_ii, rem_ii, nb_1, nb_0, nb_bb, bb_0, hI_gv, Int.toNat_of_nonneg, Int.cast_ofNat_Int, ht_sI, ht_sJ, ht_sR, hn_sI, hn_sJ, hn_sR, hR_sI, hR_sJ, kI_v, kV_v, kJ_v, true_and, and_true, forall_eq, tg, ln, rf, ne_eq, not_false_eq_true, forall_const, not_true_eq_false, false_implies, Int.reduceEq, Int.reduceLT, Int.reduceLE, implies_true, and_self, reduceCtorEq, false_and, st_t rb4.1, w18]
          exact fin
        · rw [if_neg c4] at rte
          have f4 : fr ad pN fNx false h3 (hsI h3 (ad 26) (6 + 10 * nV t n p + nV t n (nE t n p)).toNat (ii y)) := fr_sIs rfl
          have y1 : gv (hsI h3 (ad 26) (6 + 10 * nV t n p + nV t n (nE t n p)).toNat (ii y)) (ad 23) = gv h3 (ad 23) := gv_sIn (st_ne t3 (by decide) (by decide) (by decide))
          have fin := qY _ _ _ _ _ rte _ (fr_tr (fNm f13) f4) (rS_N r3 f4 (by rw [y1]) (by rw [y1])) ⟨by rw [gv_sIi (by omega) (by omega), j1, Int.toNat_of_nonneg (by omega)], by rw [gv_sIn (st_ne t3 (by decide) (by decide) (by decide))]; exact j2, by rw [gv_sIn (st_ne t3 (by decide) (by decide) (by decide))]; exact j3, by rw [y1]; exact j4, by rw [y1]; exact j5⟩
          exact ⟨⟨by omega, by omega⟩, fin⟩
      · have er : lnRoute t m one two n p H L = .inl (oKd t n (nE t n (nE t n p)) H (nV t n p), bl t n (nE t n (nE t n p))) := by
          unfold lnRoute
          rw [if_neg (fun e => e c1), if_neg (fun e => e c2), if_pos c3]
        have fin := qX _ _ er h3 (fNm (fr_tr f12 f3)) r3
        obtain ⟨⟨p2, rb2⟩, u18, -, k0⟩ := id r3
        have kb := gv_rg h3 (ad 23) 18
        rw [u18] at kb
        simp (disch := first | omega | decide | assumption | exact st_ne s0 (by decide) (by decide) (by decide) | exact dyn_ne (by assumption) (by decide) | fail) only [Int.reduceAdd, Int.reduceSub, Int.reduceNeg, ii_add, ii_sub, ii_mul, ii_lt, ii_le, ii_eq, ixn_ii, ixo_ii, rem_ii, nb_1, nb_0, nb_bb, bb_0, hI_gv, Int.toNat_of_nonneg, Int.cast_ofNat_Int, ht_sI, ht_sJ, ht_sR, hn_sI, hn_sJ, hn_sR, hR_sI, hR_sJ, kI_v, kV_v, kJ_v, true_and, and_true, forall_eq, tg, ln, rf, ne_eq, not_false_eq_true, forall_const, not_true_eq_false, false_implies, Int.reduceEq, Int.reduceLT, Int.reduceLE, implies_true, and_self, reduceCtorEq, false_and, st_t rb2.1, u18]
        exact ⟨fun g => by omega, fun _ => ⟨fun g => by omega, fun _ => fin⟩⟩
    · have er : lnRoute t m one two n p H L = .inl (oKd t n (nE t n p) H (nV t n p), bl t n (nE t n p)) := by
        unfold lnRoute
        rw [if_neg (fun e => e c1), if_pos c2]
      obtain ⟨p2, rb2⟩ := r2.1
      simp (disch := first | omega | decide | assumption | exact st_ne s0 (by decide) (by decide) (by decide) | exact dyn_ne (by assumption) (by decide) | fail) only [Int.reduceAdd, Int.reduceSub, Int.reduceNeg, ii_add, ii_sub, ii_mul, ii_lt, ii_le, ii_eq, ixn_ii, ixo_ii, rem_ii, nb_1, nb_0, nb_bb, bb_0, hI_gv, Int.toNat_of_nonneg, Int.cast_ofNat_Int, ht_sI, ht_sJ, ht_sR, hn_sI, hn_sJ, hn_sR, hR_sI, hR_sJ, kI_v, kV_v, kJ_v, true_and, and_true, forall_eq, tg, ln, rf, ne_eq, not_false_eq_true, forall_const, not_true_eq_false, false_implies, st_t rb2.1]
      refine c_otherX ok r2 (fun h3 f3 r3 => ?_)
      have fin := qX _ _ er h3 (fNm (fr_tr f1 (fr_tr f2 f3))) r3
      obtain ⟨⟨p3, rb3⟩, u18, -, k0⟩ := id r3
      have kb := gv_rg h3 (ad 23) 18
      rw [u18] at kb
      simp (disch := first | omega | decide | assumption | exact st_ne s0 (by decide) (by decide) (by decide) | exact dyn_ne (by assumption) (by decide) | fail) only [Int.reduceAdd, Int.reduceSub, Int.reduceNeg, ii_add, ii_sub, ii_mul, ii_lt, ii_le, ii_eq, ixn_ii, ixo_ii, rem_ii, nb_1, nb_0, nb_bb, bb_0, hI_gv, Int.toNat_of_nonneg, Int.cast_ofNat_Int, ht_sI, ht_sJ, ht_sR, hn_sI, hn_sJ, hn_sR, hR_sI, hR_sJ, kI_v, kV_v, kJ_v, true_and, and_true, forall_eq, tg, ln, rf, ne_eq, not_false_eq_true, forall_const, not_true_eq_false, false_implies, Int.reduceEq, Int.reduceLT, Int.reduceLE, implies_true, and_self, reduceCtorEq, false_and, st_t rb3.1, u18]
      exact ⟨fun g => by omega, fun _ => ⟨fun g => by omega, fun _ => fin⟩⟩
  · have er : lnRoute t m one two n p H L = .inl (nK t n p 0 (H - 1), bl t n p) := by
      unfold lnRoute
      rw [if_pos c1]
    obtain ⟨p2, rb2⟩ := r1.1
    simp (disch := first | omega | decide | assumption | exact st_ne s0 (by decide) (by decide) (by decide) | exact dyn_ne (by assumption) (by decide) | fail) only [Int.reduceAdd, Int.reduceSub, Int.reduceNeg, ii_add, ii_sub, ii_mul, ii_lt, ii_le, ii_eq, ixn_ii, ixo_ii, rem_ii, nb_1, nb_0, nb_bb, bb_0, hI_gv, Int.toNat_of_nonneg, Int.cast_ofNat_Int, ht_sI, ht_sJ, ht_sR, hn_sI, hn_sJ, hn_sR, hR_sI, hR_sJ, kI_v, kV_v, kJ_v, true_and, and_true, forall_eq, tg, ln, rf, ne_eq, not_false_eq_true, forall_const, not_true_eq_false, false_implies, st_t rb2.1]
    refine c_otherX ok r1 (fun h2 f2 r2 => ?_)
    obtain ⟨p3, rb3⟩ := r2.1
    simp (disch := first | omega | decide | assumption | exact st_ne s0 (by decide) (by decide) (by decide) | exact dyn_ne (by assumption) (by decide) | fail) only [Int.reduceAdd, Int.reduceSub, Int.reduceNeg, ii_add, ii_sub, ii_mul, ii_lt, ii_le, ii_eq, ixn_ii, ixo_ii, rem_ii, nb_1, nb_0, nb_bb, bb_0, hI_gv, Int.toNat_of_nonneg, Int.cast_ofNat_Int, ht_sI, ht_sJ, ht_sR, hn_sI, hn_sJ, hn_sR, hR_sI, hR_sJ, kI_v, kV_v, kJ_v, true_and, and_true, forall_eq, tg, ln, rf, ne_eq, not_false_eq_true, forall_const, not_true_eq_false, false_implies, st_t rb3.1]
    refine c_otherX ok r2 (fun h3 f3 r3 => ?_)
    have fin := qX _ _ er h3 (fNm (fr_tr f1 (fr_tr f2 f3))) r3
    obtain ⟨⟨p4, rb4⟩, u18, -, k0⟩ := id r3
    have kb := gv_rg h3 (ad 23) 18
    rw [u18] at kb
    simp (disch := first | omega | decide | assumption | exact st_ne s0 (by decide) (by decide) (by decide) | exact dyn_ne (by assumption) (by decide) | fail) only [Int.reduceAdd, Int.reduceSub, Int.reduceNeg, ii_add, ii_sub, ii_mul, ii_lt, ii_le, ii_eq, ixn_ii, ixo_ii, rem_ii, nb_1, nb_0, nb_bb, bb_0, hI_gv, Int.toNat_of_nonneg, Int.cast_ofNat_Int, ht_sI, ht_sJ, ht_sR, hn_sI, hn_sJ, hn_sR, hR_sI, hR_sJ, kI_v, kV_v, kJ_v, true_and, and_true, forall_eq, tg, ln, rf, ne_eq, not_false_eq_true, forall_const, not_true_eq_false, false_implies, Int.reduceEq, Int.reduceLT, Int.reduceLE, implies_true, and_self, reduceCtorEq, false_and, st_t rb4.1, u18]
    exact ⟨fun g => by omega, fun _ => ⟨fun g => by omega, fun _ => fin⟩⟩
end TX5
