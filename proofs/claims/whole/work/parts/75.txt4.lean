/-! TEXT: link, cut, route, base; the reference -/
abbrev LR : Type := (Int × Int) ⊕ (Int × (Int → Int) × (Int → Int) × (Int → Int) × Int)
def lnLink (t m one two : Int → Int) (n s p H L : Int) : LR := if L = 24 then .inl (3, s) else if nK t n p 0 (H - 1) ≠ 0 then .inl (nK t n p 0 (H - 1), bl t n p) else if oKd t n (nE t n p) H (nV t n p) ≠ 0 then .inl (oKd t n (nE t n p) H (nV t n p), bl t n (nE t n p)) else if lbw one two L (nV t n p) (nV t n (nE t n p)) ≠ -1 then .inl (4, bl t n p) else .inr (nE t n (nE t n p), m, ud one L (nV t n p), ud two L (nV t n (nE t n p)), L + 1)
def lnCut (t m one two : Int → Int) (n p H L : Int) : LR := if nK t n p 0 (H - 1) ≠ 0 then .inl (nK t n p 0 (H - 1), bl t n p) else if oKd t n (nE t n p) H (nV t n p) ≠ 0 then .inl (oKd t n (nE t n p) H (nV t n p), bl t n (nE t n p)) else if lbw one two L (nV t n p) (nV t n (nE t n p)) = -1 then .inl (4, bl t n p) else .inr (nE t n (nE t n p), ud m 0 (upb (m 0) (lbw one two L (nV t n p) (nV t n (nE t n p))) 0), one, two, L)
def lnRoute (t m one two : Int → Int) (n p H L : Int) : LR := if nK t n p 0 (H - 1) ≠ 0 then .inl (nK t n p 0 (H - 1), bl t n p) else if oKd t n (nE t n p) H (nV t n p) ≠ 0 then .inl (oKd t n (nE t n p) H (nV t n p), bl t n (nE t n p)) else if oKd t n (nE t n (nE t n p)) H (nV t n p) ≠ 0 then .inl (oKd t n (nE t n (nE t n p)) H (nV t n p), bl t n (nE t n (nE t n p))) else if lbw one two L (nV t n p) (nV t n (nE t n (nE t n p))) = -1 then .inl (4, bl t n p) else .inr (nE t n (nE t n (nE t n p)), ud m (6 + 10 * nV t n p + nV t n (nE t n p)) (lbw one two L (nV t n p) (nV t n (nE t n (nE t n p)))), one, two, L)
def bse (x : Int) : Int := if 2 < x + 1 then x + 1 else 2
def lnBase (t m one two : Int → Int) (n p L : Int) : LR := if nK t n p (bse (m 4)) 997 ≠ 0 then .inl (nK t n p (bse (m 4)) 997, bl t n p) else if nK t n (nE t n p) 1 (nV t n p) ≠ 0 then .inl (nK t n (nE t n p) 1 (nV t n p), bl t n (nE t n p)) else .inr (nE t n (nE t n p), ud (ud m 2 (nV t n p)) 3 (nV t n (nE t n p)), one, two, L)
def pN (i : Nat) : Bool := Nat.beq i 26 || (Nat.beq i 30 || Nat.beq i 31)
def fNx (z : Int) : Bool := decide (16 ≤ z ∧ z ≤ 22)
theorem pN_lt (j : Nat) (h : pN j = true) : j < 42 := by
  unfold pN at h
  simp only [Bool.or_eq_true, Nat.beq_eq] at h
  omega
section TX4
variable {E : tr_Env} {ad : Nat → Nat} {h h0 h1 : tr_H} {Q : tr_Q} {t m one two : Int → Int} {n s p H L a b k z : Int}
theorem fNm (f : fr ad p00 fR false h h1) : fr ad pN fNx false h h1 := fr_mono (fun _ e => by cases e) (fun y e => by
  unfold fR at e
  unfold fNx
  rw [decide_eq_true_eq] at e ⊢
  omega) (fun e => e) f
theorem rB_N (r : rB ad h t n p) (f : fr ad pN fNx false h h1) (e : gv h1 (ad 23) 16 = gv h (ad 23) 16) : rB ad h1 t n p := by
  obtain ⟨s, e33, e15, e16, p0, p1, n0, n1⟩ := r
  exact ⟨st_fr s f, by rw [fr_gv s f (by decide) (by decide) rfl pN_lt]; exact e33, by rw [fr_gf s f rfl pN_lt rfl]; exact e15, e.trans e16, p0, p1, n0, n1⟩
theorem rS_N (r : rS ad h t n p) (f : fr ad pN fNx false h h1) (e : gv h1 (ad 23) 16 = gv h (ad 23) 16) (e2 : gv h1 (ad 23) 18 = gv h (ad 23) 18) : rS ad h1 t n p := ⟨rB_N r.1 f e, e2.trans r.2⟩
theorem rX_N (r : rX ad h t n k z) (f : fr ad pN fNx false h h1) (e : gv h1 (ad 23) = gv h (ad 23)) : rX ad h1 t n k z := by
  obtain ⟨⟨p, r⟩, e18, e19, k0⟩ := r
  exact ⟨⟨p, rB_N r f (by rw [e])⟩, by rw [e]; exact e18, by rw [e]; exact e19, k0⟩
theorem c_rl18X (ok : tr_ok E) (r : rX ad h t n k z) (q : ∀ h', fr ad p00 fR false h h' → rX ad h' t n k z → Q (.inl none) h') : tr_G E 146 Q 18 [some (.inr (.inr (ad 23))), none, none, none] [] h 0 0 := by
  refine T_X8_readsLink_18 ok ?_
  obtain ⟨p, rb⟩ := r.1
  simp (disch := first | omega | decide | assumption | exact st_ne s0 (by decide) (by decide) (by decide) | exact dyn_ne (by assumption) (by decide) | fail) only [Int.reduceAdd, Int.reduceSub, Int.reduceNeg, ii_add, ii_sub, ii_mul, ii_lt, ii_le, ii_eq, ixn_ii, ixo_ii, rem_ii, nb_1, nb_0, nb_bb, bb_0, hI_gv, Int.toNat_of_nonneg, Int.cast_ofNat_Int, ht_sI, ht_sJ, ht_sR, hn_sI, hn_sJ, hn_sR, hR_sI, hR_sJ, kI_v, kV_v, kJ_v, true_and, and_true, forall_eq, tg, ln, rf, ne_eq, not_false_eq_true, forall_const, not_true_eq_false, false_implies, W_X8_readsLink_18, st_t rb.1]
  have kb := gv_rg h (ad 23) 18
  rw [r.2.1] at kb
  have k0 := r.2.2.2
  have hb := gv_rg h (ad 23) 21
  refine c_numberX ok r (fun h1 f1 r1 => ?_)
  obtain ⟨p1, rb1⟩ := r1.1
  simp (disch := first | omega | decide | assumption | exact st_ne s0 (by decide) (by decide) (by decide) | exact dyn_ne (by assumption) (by decide) | fail) only [Int.reduceAdd, Int.reduceSub, Int.reduceNeg, ii_add, ii_sub, ii_mul, ii_lt, ii_le, ii_eq, ixn_ii, ixo_ii, rem_ii, nb_1, nb_0, nb_bb, bb_0, hI_gv, Int.toNat_of_nonneg, Int.cast_ofNat_Int, ht_sI, ht_sJ, ht_sR, hn_sI, hn_sJ, hn_sR, hR_sI, hR_sJ, kI_v, kV_v, kJ_v, true_and, and_true, forall_eq, tg, ln, rf, ne_eq, not_false_eq_true, forall_const, not_true_eq_false, false_implies, st_t rb1.1]
  refine c_otherX ok r1 (fun h2 f2 r2 => ?_)
  obtain ⟨⟨p2, rb2⟩, e18, -, -⟩ := id r2
  simp (disch := first | omega | decide | assumption | exact st_ne s0 (by decide) (by decide) (by decide) | exact dyn_ne (by assumption) (by decide) | fail) only [Int.reduceAdd, Int.reduceSub, Int.reduceNeg, ii_add, ii_sub, ii_mul, ii_lt, ii_le, ii_eq, ixn_ii, ixo_ii, rem_ii, nb_1, nb_0, nb_bb, bb_0, hI_gv, Int.toNat_of_nonneg, Int.cast_ofNat_Int, ht_sI, ht_sJ, ht_sR, hn_sI, hn_sJ, hn_sR, hR_sI, hR_sJ, kI_v, kV_v, kJ_v, true_and, and_true, forall_eq, tg, ln, rf, ne_eq, not_false_eq_true, forall_const, not_true_eq_false, false_implies, st_t rb2.1, e18]
  exact ⟨fun g => by omega, fun _ => ⟨fun g => by omega, fun _ => q h2 (fr_tr f1 f2) r2⟩⟩
theorem c_readsLink (ok : tr_ok E) (r : rS ad h t n p) (e17 : gv h (ad 23) 17 = s) (rn : rN ad h m one two H L) (H0 : 2 ≤ H) (H1 : H ≤ 10) (L0 : 0 ≤ L) (L1 : L ≤ 24) (qX : ∀ k w, lnLink t m one two n s p H L = .inl (k, w) → ∀ h', fr ad pN fNx false h h' → rX ad h' t n k w → Q (.inl none) h') (qY : ∀ p' m' o' w' L', lnLink t m one two n s p H L = .inr (p', m', o', w', L') → ∀ h', fr ad pN fNx false h h' → rS ad h' t n p' → rN ad h' m' o' w' H L' → Q (.inl none) h') : tr_C E 146 [.inr (.inr (ad 23))] h Q := by
  refine T_X8_readsLink ok ?_
  obtain ⟨rb, e18⟩ := id r
  obtain ⟨s0, e33, e15, e16, p0, p1, n0, n1⟩ := id rb
  obtain ⟨i1, i2, i3, i4, i5⟩ := id rn
  have sb := gv_rg h (ad 23) 17
  rw [e17] at sb
  simp (disch := first | omega | decide | assumption | exact st_ne s0 (by decide) (by decide) (by decide) | exact dyn_ne (by assumption) (by decide) | fail) only [Int.reduceAdd, Int.reduceSub, Int.reduceNeg, ii_add, ii_sub, ii_mul, ii_lt, ii_le, ii_eq, ixn_ii, ixo_ii, rem_ii, nb_1, nb_0, nb_bb, bb_0, hI_gv, Int.toNat_of_nonneg, Int.cast_ofNat_Int, ht_sI, ht_sJ, ht_sR, hn_sI, hn_sJ, hn_sR, hR_sI, hR_sJ, kI_v, kV_v, kJ_v, true_and, and_true, forall_eq, tg, ln, rf, ne_eq, not_false_eq_true, forall_const, not_true_eq_false, false_implies, W_X8_readsLink, st_t s0, i5, e17]
  refine ⟨fun g => ?_, fun g => ?_⟩
  · have er : lnLink t m one two n s p H L = .inl (3, s) := if_pos g
    refine c_wrong ok s0 (by omega) (by omega) (by omega) (by omega) (fun h1 f1 g1 => ?_)
    rw [if_pos (by omega)] at g1
    have d18 : gv h1 (ad 23) 18 = 3 := by rw [g1, ud_ne (by decide), ud_eq]
    have d19 : gv h1 (ad 23) 19 = s := by rw [g1, ud_eq]
    have d16 : gv h1 (ad 23) 16 = p := by rw [g1, ud_ne (by decide), ud_ne (by decide)]; exact e16
    have r1 := rB_fr rb f1 d16 p0 p1
    exact c_rl18X ok ⟨⟨_, r1⟩, d18, d19, by decide⟩ (fun h2 f2 r2 => qX 3 s er h2 (fNm (fr_tr f1 f2)) r2)
  · refine T_X8_readsLink_18 ok ?_
    simp (disch := first | omega | decide | assumption | exact st_ne s0 (by decide) (by decide) (by decide) | exact dyn_ne (by assumption) (by decide) | fail) only [Int.reduceAdd, Int.reduceSub, Int.reduceNeg, ii_add, ii_sub, ii_mul, ii_lt, ii_le, ii_eq, ixn_ii, ixo_ii, rem_ii, nb_1, nb_0, nb_bb, bb_0, hI_gv, Int.toNat_of_nonneg, Int.cast_ofNat_Int, ht_sI, ht_sJ, ht_sR, hn_sI, hn_sJ, hn_sR, hR_sI, hR_sJ, kI_v, kV_v, kJ_v, true_and, and_true, forall_eq, tg, ln, rf, ne_eq, not_false_eq_true, forall_const, not_true_eq_false, false_implies, W_X8_readsLink_18, st_t s0, i4]
    have va := nV_rg (t := t) (n := n) (p := p)
    have vb := nV_rg (t := t) (n := n) (p := nE t n p)
    refine c_num ok r (by omega) (by omega) (by omega) (by omega) (fun c1 h1 f1 r1 g1 => ?_) (fun c1 h1 f1 r1 => ?_)
    · have t1 := r1.1.1
      have rn1 := rN_fr s0 f1 rn
      simp (disch := first | omega | decide | assumption | exact st_ne s0 (by decide) (by decide) (by decide) | exact dyn_ne (by assumption) (by decide) | fail) only [Int.reduceAdd, Int.reduceSub, Int.reduceNeg, ii_add, ii_sub, ii_mul, ii_lt, ii_le, ii_eq, ixn_ii, ixo_ii, rem_ii, nb_1, nb_0, nb_bb, bb_0, hI_gv, Int.toNat_of_nonneg, Int.cast_ofNat_Int, ht_sI, ht_sJ, ht_sR, hn_sI, hn_sJ, hn_sR, hR_sI, hR_sJ, kI_v, kV_v, kJ_v, true_and, and_true, forall_eq, tg, ln, rf, ne_eq, not_false_eq_true, forall_const, not_true_eq_false, false_implies, st_t t1]
      refine c_other ok r1 rn1.2.2.2.1 (by omega) H1 va.1 va.2 (fun c2 h2 f2 r2 => ?_) (fun c2 h2 f2 r2 x x0 x1 => ?_)
      · have t2 := r2.1.1
        have rn2 := rN_fr t1 f2 rn1
        obtain ⟨j1, j2, j3, j4, j5⟩ := id rn2
        have u18 := r2.2
        have f12 := fr_tr f1 f2
        have blr : 0 ≤ bl t n p ∧ bl t n p ≤ n := by
          have := skp_rg (cB t) n p
          change p ≤ bl t n p ∧ (bl t n p ≤ p ∨ bl t n p ≤ n) at this
          omega
        simp (disch := first | omega | decide | assumption | exact st_ne s0 (by decide) (by decide) (by decide) | exact dyn_ne (by assumption) (by decide) | fail) only [Int.reduceAdd, Int.reduceSub, Int.reduceNeg, ii_add, ii_sub, ii_mul, ii_lt, ii_le, ii_eq, ixn_ii, ixo_ii, rem_ii, nb_1, nb_0, nb_bb, bb_0, hI_gv, Int.toNat_of_nonneg, Int.cast_ofNat_Int, ht_sI, ht_sJ, ht_sR, hn_sI, hn_sJ, hn_sR, hR_sI, hR_sJ, kI_v, kV_v, kJ_v, true_and, and_true, forall_eq, tg, ln, rf, ne_eq, not_false_eq_true, forall_const, not_true_eq_false, false_implies, Int.reduceEq, Int.reduceLT, Int.reduceLE, implies_true, and_self, reduceCtorEq, false_and, st_t t2, st_n t2, st_r t2, u18, j5, g1]
        refine c_linkBy ok t2 j2 j3 L0 L1 va.1 va.2 vb.1 vb.2 ?_
        have lr := lbw_rg (one := one) (two := two) (L := L) (a := nV t n p) (b := nV t n (nE t n p)) L0
        have lr2 : -1 ≤ lbw one two L (nV t n p) (nV t n (nE t n p)) ∧ lbw one two L (nV t n p) (nV t n (nE t n p)) < 24 := by omega
        simp (disch := first | omega | decide | assumption | exact st_ne s0 (by decide) (by decide) (by decide) | exact dyn_ne (by assumption) (by decide) | fail) only [Int.reduceAdd, Int.reduceSub, Int.reduceNeg, ii_add, ii_sub, ii_mul, ii_lt, ii_le, ii_eq, ixn_ii, ixo_ii, rem_ii, nb_1, nb_0, nb_bb, bb_0, hI_gv, Int.toNat_of_nonneg, Int.cast_ofNat_Int, ht_sI, ht_sJ, ht_sR, hn_sI, hn_sJ, hn_sR, hR_sI, hR_sJ, kI_v, kV_v, kJ_v, true_and, and_true, forall_eq, tg, ln, rf, ne_eq, not_false_eq_true, forall_const, not_true_eq_false, false_implies, Int.reduceEq, Int.reduceLT, Int.reduceLE, implies_true, and_self, reduceCtorEq, false_and, st_t t2, st_n t2, st_r t2, u18, j5, g1]
        refine ⟨fun c3 => ?_, fun c3 => ?_⟩
        · have er : lnLink t m one two n s p H L = .inr (nE t n (nE t n p), m, ud one L (nV t n p), ud two L (nV t n (nE t n p)), L + 1) := by
            unfold lnLink
            rw [if_neg g, if_neg (fun e => e c1), if_neg (fun e => e c2), if_neg (fun e => e c3)]
          have y1 : gv (hsI h2 (ad 30) L.toNat (ii (nV t n p))) (ad 23) = gv h2 (ad 23) := gv_sIn (st_ne t2 (by decide) (by decide) (by decide))
          have y2 : gv (hsI (hsI h2 (ad 30) L.toNat (ii (nV t n p))) (ad 31) L.toNat (ii (nV t n (nE t n p)))) (ad 23) = gv h2 (ad 23) := (gv_sIn (st_ne t2 (by decide) (by decide) (by decide))).trans y1
          simp (disch := first | omega | decide | assumption | exact st_ne s0 (by decide) (by decide) (by decide) | exact dyn_ne (by assumption) (by decide) | fail) only [Int.reduceAdd, Int.reduceSub, Int.reduceNeg, ii_add, ii_sub, ii_mul, ii_lt, ii_le, ii_eq, ixn_ii, ixo_ii, rem_ii, nb_1, nb_0, nb_bb, bb_0, hI_gv, Int.toNat_of_nonneg, Int.cast_ofNat_Int, ht_sI, ht_sJ, ht_sR, hn_sI, hn_sJ, hn_sR, hR_sI, hR_sJ, kI_v, kV_v, kJ_v, true_and, and_true, forall_eq, tg, ln, rf, ne_eq, not_false_eq_true, forall_const, not_true_eq_false, false_implies, y1, y2, j5]
          refine ⟨⟨by omega, by omega⟩, ⟨by omega, by omega⟩, ?_⟩
          have f3 : fr ad pN fNx false h2 (hsI (hsI (hsI h2 (ad 30) L.toNat (ii (nV t n p))) (ad 31) L.toNat (ii (nV t n (nE t n p)))) (ad 23) 22 (ii (L + 1))) := fr_sF (fr_sI (fr_sI fr_rfl rfl) rfl) rfl
          have y3 : gv (hsI (hsI (hsI h2 (ad 30) L.toNat (ii (nV t n p))) (ad 31) L.toNat (ii (nV t n (nE t n p)))) (ad 23) 22 (ii (L + 1))) (ad 23) = ud (gv h2 (ad 23)) 22 (L + 1) := by rw [gv_sIi (by omega) (by omega), y2]; rfl
          refine qY _ _ _ _ _ er _ (fr_tr (fNm f12) f3) (rS_N r2 f3 (by rw [y3, ud_ne (by decide)]) (by rw [y3, ud_ne (by decide)])) ⟨?_, ?_, ?_, ?_, ?_⟩
          · rw [gv_sIn (st_ne t2 (by decide) (by decide) (by decide)), gv_sIn (st_ne t2 (by decide) (by decide) (by decide)), gv_sIn (st_ne t2 (by decide) (by decide) (by decide))]; exact j1
          · rw [gv_sIn (st_ne t2 (by decide) (by decide) (by decide)), gv_sIn (st_ne t2 (by decide) (by decide) (by decide)), gv_sIi (by omega) (by omega), j2, Int.toNat_of_nonneg L0]
          · rw [gv_sIn (st_ne t2 (by decide) (by decide) (by decide)), gv_sIi (by omega) (by omega), gv_sIn (st_ne t2 (by decide) (by decide) (by decide)), j3, Int.toNat_of_nonneg L0]
          · rw [y3, ud_ne (by decide)]; exact j4
          · rw [y3, ud_eq]
        · have er : lnLink t m one two n s p H L = .inl (4, bl t n p) := by
            unfold lnLink
            rw [if_neg g, if_neg (fun e => e c1), if_neg (fun e => e c2), if_pos c3]
          refine c_wrong ok t2 (by omega) (by omega) (by omega) (by omega) (fun h3 f3 g3 => ?_)
          rw [if_pos (by omega)] at g3
          have d18 : gv h3 (ad 23) 18 = 4 := by rw [g3, ud_ne (by decide), ud_eq]
          have d19 : gv h3 (ad 23) 19 = bl t n p := by rw [g3, ud_eq]
          have d16 : gv h3 (ad 23) 16 = nE t n (nE t n p) := by rw [g3, ud_ne (by decide), ud_ne (by decide)]; exact r2.1.2.2.2.1
          have r3 := rB_fr r2.1 f3 d16 r2.1.2.2.2.2.1 r2.1.2.2.2.2.2.1
          have fin := qX _ _ er h3 (fNm (fr_tr f12 f3)) ⟨⟨_, r3⟩, d18, d19, by decide⟩
          simp (disch := first | omega | decide | assumption | exact st_ne s0 (by decide) (by decide) (by decide) | exact dyn_ne (by assumption) (by decide) | fail) only [Int.reduceAdd, Int.reduceSub, Int.reduceNeg, ii_add, ii_sub, ii_mul, ii_lt, ii_le, ii_eq, ixn_ii, ixo_ii, rem_ii, nb_1, nb_0, nb_bb, bb_0, hI_gv, Int.toNat_of_nonneg, Int.cast_ofNat_Int, ht_sI, ht_sJ, ht_sR, hn_sI, hn_sJ, hn_sR, hR_sI, hR_sJ, kI_v, kV_v, kJ_v, true_and, and_true, forall_eq, tg, ln, rf, ne_eq, not_false_eq_true, forall_const, not_true_eq_false, false_implies, Int.reduceEq, Int.reduceLT, Int.reduceLE, implies_true, and_self, reduceCtorEq, false_and, st_t r3.1, d18]
          exact fin
      · have er : lnLink t m one two n s p H L = .inl (oKd t n (nE t n p) H (nV t n p), bl t n (nE t n p)) := by
          unfold lnLink
          rw [if_neg g, if_neg (fun e => e c1), if_pos c2]
        have fin := qX _ _ er h2 (fNm (fr_tr f1 f2)) r2
        obtain ⟨⟨p2, rb2⟩, u18, -, k0⟩ := id r2
        have kb := gv_rg h2 (ad 23) 18
        rw [u18] at kb
        simp (disch := first | omega | decide | assumption | exact st_ne s0 (by decide) (by decide) (by decide) | exact dyn_ne (by assumption) (by decide) | fail) only [Int.reduceAdd, Int.reduceSub, Int.reduceNeg, ii_add, ii_sub, ii_mul, ii_lt, ii_le, ii_eq, ixn_ii, ixo_ii, rem_ii, nb_1, nb_0, nb_bb, bb_0, hI_gv, Int.toNat_of_nonneg, Int.cast_ofNat_Int, ht_sI, ht_sJ, ht_sR, hn_sI, hn_sJ, hn_sR, hR_sI, hR_sJ, kI_v, kV_v, kJ_v, true_and, and_true, forall_eq, tg, ln, rf, ne_eq, not_false_eq_true, forall_const, not_true_eq_false, false_implies, st_t rb2.1, u18]
        exact ⟨fun g => by omega, fun _ => ⟨fun g => by omega, fun _ => fin⟩⟩
    · have er : lnLink t m one two n s p H L = .inl (nK t n p 0 (H - 1), bl t n p) := by
        unfold lnLink
        rw [if_neg g, if_pos c1]
      obtain ⟨p2, rb2⟩ := r1.1
      simp (disch := first | omega | decide | assumption | exact st_ne s0 (by decide) (by decide) (by decide) | exact dyn_ne (by assumption) (by decide) | fail) only [Int.reduceAdd, Int.reduceSub, Int.reduceNeg, ii_add, ii_sub, ii_mul, ii_lt, ii_le, ii_eq, ixn_ii, ixo_ii, rem_ii, nb_1, nb_0, nb_bb, bb_0, hI_gv, Int.toNat_of_nonneg, Int.cast_ofNat_Int, ht_sI, ht_sJ, ht_sR, hn_sI, hn_sJ, hn_sR, hR_sI, hR_sJ, kI_v, kV_v, kJ_v, true_and, and_true, forall_eq, tg, ln, rf, ne_eq, not_false_eq_true, forall_const, not_true_eq_false, false_implies, st_t rb2.1]
      refine c_otherX ok r1 (fun h2 f2 r2 => ?_)
      have fin := qX _ _ er h2 (fNm (fr_tr f1 f2)) r2
      obtain ⟨⟨p3, rb3⟩, u18, -, k0⟩ := id r2
      have kb := gv_rg h2 (ad 23) 18
      rw [u18] at kb
      simp (disch := first | omega | decide | assumption | exact st_ne s0 (by decide) (by decide) (by decide) | exact dyn_ne (by assumption) (by decide) | fail) only [Int.reduceAdd, Int.reduceSub, Int.reduceNeg, ii_add, ii_sub, ii_mul, ii_lt, ii_le, ii_eq, ixn_ii, ixo_ii, rem_ii, nb_1, nb_0, nb_bb, bb_0, hI_gv, Int.toNat_of_nonneg, Int.cast_ofNat_Int, ht_sI, ht_sJ, ht_sR, hn_sI, hn_sJ, hn_sR, hR_sI, hR_sJ, kI_v, kV_v, kJ_v, true_and, and_true, forall_eq, tg, ln, rf, ne_eq, not_false_eq_true, forall_const, not_true_eq_false, false_implies, st_t rb3.1, u18]
      exact ⟨fun g => by omega, fun _ => ⟨fun g => by omega, fun _ => fin⟩⟩
end TX4
