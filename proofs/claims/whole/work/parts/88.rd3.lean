/-! TEXT: the class's reader and its net -/
def wn (hb h h' : tr_H) : Prop := ∀ x, ht h' x = ht h x ∧ hn h' x = hn h x ∧ hR h' x = hR h x ∧ hJ h' x = hJ h x ∧ (ht hb x ≠ 0 → gv h' x = gv h x)
def RD (hb : tr_H) (ad : Nat → Nat) (h : tr_H) (q : Nat) (t : Int → Int) (n p : Int) (m one two : Int → Int) (H L : Int) : Prop := rRd ad h q t n p ∧ gv h q 9 = -1 ∧ nst ad h (hR h q 7) m one two H L ∧ (ht hb q = 0 ∧ own hb h (hR h q 7) ∧ ht hb (hR h (hR h q 7) 2) = 0 ∧ ht hb (hR h (hR h q 7) 3) = 0 ∧ hR h (hR h q 7) 2 ≠ hR h (hR h q 7) 3) ∧ ∀ l, L ≤ l → l < 24 → bt (m 0) l = false
section RD3
variable {E : tr_Env} {ad : Nat → Nat} {hb h h0 h1 h2 : tr_H} {Q : tr_Q} {t m one two m' o' w' : Int → Int} {n p H L H' L' a b : Int} {q w : Nat}
theorem wn_rfl : wn hb h h := fun _ => ⟨rfl, rfl, rfl, rfl, fun _ => rfl⟩
theorem wn_tr (a : wn hb h h1) (b : wn hb h1 h2) : wn hb h h2 := fun x => by
  obtain ⟨a1, a2, a3, a4, a5⟩ := a x
  obtain ⟨b1, b2, b3, b4, b5⟩ := b x
  exact ⟨b1.trans a1, b2.trans a2, b3.trans a3, b4.trans a4, fun g => (b5 g).trans (a5 g)⟩
theorem wn_wr (hq : ht hb q = 0) (a : wr q h h1) : wn hb h h1 := fun x => by
  obtain ⟨a1, a2, a3, a4, a5⟩ := a x
  exact ⟨a1, a2, a3, a4, fun g => a5 (fun e => g (by rw [e]; exact hq))⟩
theorem wn_sI {r k : Nat} {v : Int32} (hq : ht hb r = 0) : wn hb h (hsI h r k v) := wn_wr hq (wr_sI k v)
theorem wr_fx (a : wr q h h1) : fx q h h1 := fun x _ => ⟨⟨(a x).1, (a x).2.1⟩, fun e => ⟨(a x).2.2.2.2 e, (a x).2.2.2.1, (a x).2.2.1⟩⟩
theorem RD_w (r : RD hb ad h q t n p m one two H L) (a : wr q h h1) (e1 : gv h1 q 1 = gv h q 1) (e9 : gv h1 q 9 = gv h q 9) {p2 : Int} (e2 : gv h1 q 2 = p2) (p0 : 0 ≤ p2) (p1 : p2 ≤ n) : RD hb ad h1 q t n p2 m one two H L := by
  obtain ⟨r, e, nn, ⟨o0, o1, o2, o3, o4⟩, b⟩ := r
  refine ⟨rRd_w r a e1 e2 p0 p1, e9.trans e, ?_, ?_, b⟩
  · rw [(a q).2.2.1]; exact nst_fx (wr_fx a) (by rw [r.2.1]; decide) (by rw [r.2.1]; decide) nn
  · rw [(a q).2.2.1]
    unfold own at o1 ⊢
    rw [(a (hR h q 7)).2.2.1]
    exact ⟨o0, o1, o2, o3, o4⟩
theorem RD_s (r : RD hb ad h q t n p m one two H L) {A k : Nat} {v : Int32} (tA : ht h A = 3 ∨ ht h A = 11) (nn : nst ad (hsI h A k v) (hR h q 7) m' o' w' H' L') (b : ∀ l, L' ≤ l → l < 24 → bt (m' 0) l = false) : RD hb ad (hsI h A k v) q t n p m' o' w' H' L' := by
  obtain ⟨⟨s, c0, c1, c2, c3, c4, c5, c6, c7⟩, e, _, o, _⟩ := r
  have d : q ≠ A := fun e => by rw [← e, c0] at tA; omega
  have d5 : ad 5 ≠ A := fun e => by rw [← e, st_t s (by decide)] at tA; revert tA; decide
  exact ⟨⟨s, c0, c1, by rw [gv_sIn d]; exact c2, by rw [gv_sIn d]; exact c3, fun z z0 z1 => by rw [gv_sIn d5]; exact c4 z z0 z1, c5, c6, c7⟩, by rw [gv_sIn d]; exact e, nn, o, b⟩
theorem hI_e {r : Nat} {k : Nat} {v : Int} (e : gv h r (k : Int) = v) : hI h r k = ii v := by rw [hI_gv, e]
theorem RD_p (r : RD hb ad h q t n p m one two H L) : (0 ≤ bl t n p ∧ bl t n p ≤ n ∧ bl t n p ≤ nE t n p ∧ nE t n p ≤ n) ∧ n ≤ 400 := by
  obtain ⟨⟨s, c0, c1, c2, c3, c4, c5, c6, c7⟩, -⟩ := r
  have g1 := skp_rg (cB t) n p
  have g2 := skp_rg (cD t) n (bl t n p)
  unfold nE
  unfold bl at *
  omega
theorem k_near (ok : tr_ok E) (r : RD hb ad h q t n p m one two H L) (H0 : 2 ≤ H) (H1 : H ≤ 10) (f0 : nK t n p 0 (H - 1) = 0 → ∀ h', wr q h h' → RD hb ad h' q t n (nE t n p) m one two H L → gv h' q 4 = nV t n p → gv h' q 5 = bl t n p → Q (.inl (some (.inl (ii 1)))) h') (f1 : nK t n p 0 (H - 1) ≠ 0 → ∀ h', wr q h h' → gv h' q 8 = nK t n p 0 (H - 1) → gv h' q 9 = bl t n p → Q (.inl (some (.inl (ii 0)))) h') : tr_C E 51 [.inr (.inr q)] h Q := by
  refine T_X4_readNear ok ?_
  have t5 : ht h q = 5 := r.1.2.1
  have rp := RD_p r
  refine ⟨t5, k_number ok r.1 (fun nd h1 w1 e1 => ?_) (fun nd h1 w1 e8 e9 => ?_)⟩
  · have vr := nV_rg (t := t) (n := n) (p := p)
    have t1 : ht h1 q = 5 := (w1 q).1.trans t5
    refine ⟨t1, fun h3 x3 => ?_⟩
    have t3 : ht h3 q = 5 := by rw [x3]; exact t1
    have g3 : gv h3 q = ud (ud (ud (gv h q) 3 (bl t n p)) 2 (nE t n p)) 4 (nV t n p) := by rw [x3, gv_sIi (by omega) (by omega), e1]; rfl
    refine ⟨t3, t3, fun h4 x4 => ?_⟩
    have i3 : hI h3 q 3 = ii (bl t n p) := hI_e (by rw [g3]; exact (ud_ne (by decide)).trans ((ud_ne (by decide)).trans (ud_eq _ _ _)))
    rw [i3] at x4
    have t4 : ht h4 q = 5 := by rw [x4]; exact t3
    have g4 : gv h4 q = ud (ud (ud (ud (gv h q) 3 (bl t n p)) 2 (nE t n p)) 4 (nV t n p)) 5 (bl t n p) := by rw [x4, gv_sIi (by omega) (by omega), g3]; rfl
    have w4 : wr q h h4 := wr_tr w1 (by rw [x4, x3]; exact wr_tr (wr_sI _ _) (wr_sI _ _))
    have r4 : RD hb ad h4 q t n (nE t n p) m one two H L := RD_w r w4 (by rw [g4, ud_ne (by decide), ud_ne (by decide), ud_ne (by decide), ud_ne (by decide)]) (by rw [g4, ud_ne (by decide), ud_ne (by decide), ud_ne (by decide), ud_ne (by decide)]) (by rw [g4, ud_ne (by decide), ud_ne (by decide), ud_eq]) (by omega) (by omega)
    have g44 : gv h4 q 4 = nV t n p := by rw [g4, ud_ne (by decide), ud_eq]
    have g45 : gv h4 q 5 = bl t n p := by rw [g4, ud_eq]
    have g43 : gv h4 q 3 = bl t n p := by rw [g4, ud_ne (by decide), ud_ne (by decide), ud_ne (by decide), ud_eq]
    have n4 := r4.2.2.1
    have t6 : ht h4 (hR h4 q 7) = 3 := n4.1
    have i4 : hI h4 q 4 = ii (nV t n p) := hI_e g44
    rw [i4]
    refine ⟨t4, fun g => ?_, fun g => ⟨t4, t4, t6, k_hasHop ok n4 (by omega) (by omega) (by omega) (by omega) ?_⟩⟩
    · rw [ii_eq (by omega) (by omega) (by omega) (by omega)] at g; omega
    · by_cases c : 0 ≤ nV t n p ∧ nV t n p < H
      · rw [decide_eq_true c]
        simp (disch := first | omega | decide | assumption | exact st_ne s0 (by decide) (by decide) (by decide) | exact dyn_ne (by assumption) (by decide) | fail) only [Int.reduceAdd, Int.reduceSub, Int.reduceNeg, ii_add, ii_sub, ii_mul, ii_lt, ii_le, ii_eq, ixn_ii, ixo_ii, rem_ii, nb_1, nb_0, nb_bb, bb_0, hI_gv, Int.toNat_of_nonneg, Int.cast_ofNat_Int, ht_sI, ht_sJ, ht_sR, hn_sI, hn_sJ, hn_sR, hR_sI, hR_sJ, kI_v, kV_v, kJ_v, true_and, and_true, forall_eq, tg, ln, rf, ne_eq, not_false_eq_true, forall_const, not_true_eq_false, false_implies, Int.reduceEq, Int.reduceLT, Int.reduceLE, implies_true, and_self, reduceCtorEq, false_and, bb_1]
        exact f0 (nK_0.2 ⟨nd, c.1, by omega⟩) h4 w4 r4 g44 g45
      · rw [decide_eq_false c]
        simp (disch := first | omega | decide | assumption | exact st_ne s0 (by decide) (by decide) (by decide) | exact dyn_ne (by assumption) (by decide) | fail) only [Int.reduceAdd, Int.reduceSub, Int.reduceNeg, ii_add, ii_sub, ii_mul, ii_lt, ii_le, ii_eq, ixn_ii, ixo_ii, rem_ii, nb_1, nb_0, nb_bb, bb_0, hI_gv, Int.toNat_of_nonneg, Int.cast_ofNat_Int, ht_sI, ht_sJ, ht_sR, hn_sI, hn_sJ, hn_sR, hR_sI, hR_sJ, kI_v, kV_v, kJ_v, true_and, and_true, forall_eq, tg, ln, rf, ne_eq, not_false_eq_true, forall_const, not_true_eq_false, false_implies, Int.reduceEq, Int.reduceLT, Int.reduceLE, implies_true, and_self, reduceCtorEq, false_and, t4, g43]
        have k2 : nK t n p 0 (H - 1) = 2 := nK_2 nd (by omega)
        refine k_refuse ok t4 (by omega) (by omega) (by omega) (by omega) (fun h' w' e' => ?_)
        have fin := f1 (by omega) h' (wr_tr w4 w') (by rw [e', k2, ud_ne (by decide), ud_eq]) (by rw [e', ud_eq])
        simp (disch := first | omega | decide | assumption | exact st_ne s0 (by decide) (by decide) (by decide) | exact dyn_ne (by assumption) (by decide) | fail) only [Int.reduceAdd, Int.reduceSub, Int.reduceNeg, ii_add, ii_sub, ii_mul, ii_lt, ii_le, ii_eq, ixn_ii, ixo_ii, rem_ii, nb_1, nb_0, nb_bb, bb_0, hI_gv, Int.toNat_of_nonneg, Int.cast_ofNat_Int, ht_sI, ht_sJ, ht_sR, hn_sI, hn_sJ, hn_sR, hR_sI, hR_sJ, kI_v, kV_v, kJ_v, true_and, and_true, forall_eq, tg, ln, rf, ne_eq, not_false_eq_true, forall_const, not_true_eq_false, false_implies, Int.reduceEq, Int.reduceLT, Int.reduceLE, implies_true, and_self, reduceCtorEq, false_and,]
        exact fin
  · have t1 : ht h1 q = 5 := (w1 q).1.trans t5
    have k1 : nK t n p 0 (H - 1) = 1 := nK_1 nd
    refine ⟨t1, fun h3 x3 => ?_⟩
    have t3 : ht h3 q = 5 := by rw [x3]; exact t1
    refine ⟨t3, t3, fun h4 x4 => ?_⟩
    have t4 : ht h4 q = 5 := by rw [x4]; exact t3
    have w4 : wr q h h4 := wr_tr w1 (by rw [x4, x3]; exact wr_tr (wr_sI _ _) (wr_sI _ _))
    have g8 : gv h4 q 8 = 1 := by rw [x4, gv_sI, ud_ne (by decide), x3, gv_sI, ud_ne (by decide)]; exact e8
    have g9 : gv h4 q 9 = bl t n p := by rw [x4, gv_sI, ud_ne (by decide), x3, gv_sI, ud_ne (by decide)]; exact e9
    have i4 : hI h4 q 4 = ii (-1) := hI_e (by rw [x4, gv_sI, ud_ne (by decide), x3, gv_sIi (by omega) (by omega)]; exact ud_eq _ _ _)
    have fin := f1 (by omega) h4 w4 (by rw [g8, k1]) g9
    rw [i4]
    refine ⟨t4, fun g => ?_, fun g => absurd rfl g⟩
    simp (disch := first | omega | decide | assumption | exact st_ne s0 (by decide) (by decide) (by decide) | exact dyn_ne (by assumption) (by decide) | fail) only [Int.reduceAdd, Int.reduceSub, Int.reduceNeg, ii_add, ii_sub, ii_mul, ii_lt, ii_le, ii_eq, ixn_ii, ixo_ii, rem_ii, nb_1, nb_0, nb_bb, bb_0, hI_gv, Int.toNat_of_nonneg, Int.cast_ofNat_Int, ht_sI, ht_sJ, ht_sR, hn_sI, hn_sJ, hn_sR, hR_sI, hR_sJ, kI_v, kV_v, kJ_v, true_and, and_true, forall_eq, tg, ln, rf, ne_eq, not_false_eq_true, forall_const, not_true_eq_false, false_implies, Int.reduceEq, Int.reduceLT, Int.reduceLE, implies_true, and_self, reduceCtorEq, false_and,]
    exact fin
theorem k_far (ok : tr_ok E) (r : RD hb ad h q t n p m one two H L) (H0 : 2 ≤ H) (H1 : H ≤ 10) (ha : gv h q 4 = a) (f0 : oKd t n p H a = 0 → ∀ h', wr q h h' → RD hb ad h' q t n (nE t n p) m one two H L → gv h' q 4 = a → gv h' q 5 = gv h q 5 → gv h' q 6 = nV t n p → Q (.inl (some (.inl (ii 1)))) h') (f1 : oKd t n p H a ≠ 0 → ∀ h', wr q h h' → gv h' q 8 = oKd t n p H a → gv h' q 9 = bl t n p → Q (.inl (some (.inl (ii 0)))) h') : tr_C E 52 [.inr (.inr q)] h Q := by
  refine T_X4_readFar ok ?_
  have t5 : ht h q = 5 := r.1.2.1
  have rp := RD_p r
  have ar := gv_rg h q 4
  rw [ha] at ar
  refine ⟨t5, k_number ok r.1 (fun nd h1 w1 e1 => ?_) (fun nd h1 w1 e8 e9 => ?_)⟩
  · have vr := nV_rg (t := t) (n := n) (p := p)
    have t1 : ht h1 q = 5 := (w1 q).1.trans t5
    refine ⟨t1, fun h4 x4 => ?_⟩
    have t4 : ht h4 q = 5 := by rw [x4]; exact t1
    have g4 : gv h4 q = ud (ud (ud (gv h q) 3 (bl t n p)) 2 (nE t n p)) 6 (nV t n p) := by rw [x4, gv_sIi (by omega) (by omega), e1]; rfl
    have w4 : wr q h h4 := wr_tr w1 (by rw [x4]; exact wr_sI _ _)
    have r4 : RD hb ad h4 q t n (nE t n p) m one two H L := RD_w r w4 (by rw [g4, ud_ne (by decide), ud_ne (by decide), ud_ne (by decide)]) (by rw [g4, ud_ne (by decide), ud_ne (by decide), ud_ne (by decide)]) (by rw [g4, ud_ne (by decide), ud_eq]) (by omega) (by omega)
    have g44 : gv h4 q 4 = a := by rw [g4, ud_ne (by decide), ud_ne (by decide), ud_ne (by decide)]; exact ha
    have g45 : gv h4 q 5 = gv h q 5 := by rw [g4, ud_ne (by decide), ud_ne (by decide), ud_ne (by decide)]
    have g46 : gv h4 q 6 = nV t n p := by rw [g4, ud_eq]
    have g43 : gv h4 q 3 = bl t n p := by rw [g4, ud_ne (by decide), ud_ne (by decide), ud_eq]
    have n4 := r4.2.2.1
    have t6 : ht h4 (hR h4 q 7) = 3 := n4.1
    have i6 : hI h4 q 6 = ii (nV t n p) := hI_e g46
    have wrong : ¬ ((0 ≤ nV t n p ∧ nV t n p ≤ H - 1) ∧ a ≠ nV t n p) → tr_C E 58 [.inr (.inr q), .inl (ii 2), .inl (ii (bl t n p))] h4 (kI (fun v7 h6 => (v7 = ii 0 → (Q (.inl (some (.inl (tr_nb (ii 0))))) h6)) ∧ (¬ v7 = ii 0 → (Q (.inl (some (.inl (tr_nb (ii 1))))) h6))) (fun E h' => Q (.inr E) h')) := fun gg => by
      have k2 : oKd t n p H a = 2 := oKd_2 nd gg
      refine k_refuse ok t4 (by omega) (by omega) (by omega) (by omega) (fun h' w' e' => ?_)
      have fin := f1 (by omega) h' (wr_tr w4 w') (by rw [e', k2, ud_ne (by decide), ud_eq]) (by rw [e', ud_eq])
      simp (disch := first | omega | decide | assumption | exact st_ne s0 (by decide) (by decide) (by decide) | exact dyn_ne (by assumption) (by decide) | fail) only [Int.reduceAdd, Int.reduceSub, Int.reduceNeg, ii_add, ii_sub, ii_mul, ii_lt, ii_le, ii_eq, ixn_ii, ixo_ii, rem_ii, nb_1, nb_0, nb_bb, bb_0, hI_gv, Int.toNat_of_nonneg, Int.cast_ofNat_Int, ht_sI, ht_sJ, ht_sR, hn_sI, hn_sJ, hn_sR, hR_sI, hR_sJ, kI_v, kV_v, kJ_v, true_and, and_true, forall_eq, tg, ln, rf, ne_eq, not_false_eq_true, forall_const, not_true_eq_false, false_implies, Int.reduceEq, Int.reduceLT, Int.reduceLE, implies_true, and_self, reduceCtorEq, false_and,]
      exact fin
    have i3 : hI h4 q 3 = ii (bl t n p) := hI_e g43
    rw [i6]
    refine ⟨t4, fun g => ?_, fun g => ⟨t4, t4, t6, k_hasHop ok n4 (by omega) (by omega) (by omega) (by omega) ?_⟩⟩
    · rw [ii_eq (by omega) (by omega) (by omega) (by omega)] at g; omega
    · refine ⟨fun g2 => ⟨t4, t4, ?_⟩, fun g2 => ⟨t4, t4, ?_⟩⟩
      · have c : ¬ (0 ≤ nV t n p ∧ nV t n p < H) := fun c => by
          rw [decide_eq_true c, bb_0] at g2
          cases g2
        rw [i3]
        exact wrong (by omega)
      · have c : 0 ≤ nV t n p ∧ nV t n p < H := by
          by_cases c : 0 ≤ nV t n p ∧ nV t n p < H
          · exact c
          · rw [decide_eq_false c] at g2
            exact absurd rfl g2
        rw [i6, i3, show hI h4 q 4 = ii a from hI_e g44, ii_eq (by omega) (by omega) (by omega) (by omega)]
        refine ⟨fun g3 => ⟨t4, t4, wrong (fun e => e.2 g3.symm)⟩, fun g3 => ?_⟩
        have fin := f0 (oKd_0.2 ⟨nd, ⟨c.1, by omega⟩, fun e => g3 e.symm⟩) h4 w4 r4 g44 g45 g46
        simp (disch := first | omega | decide | assumption | exact st_ne s0 (by decide) (by decide) (by decide) | exact dyn_ne (by assumption) (by decide) | fail) only [Int.reduceAdd, Int.reduceSub, Int.reduceNeg, ii_add, ii_sub, ii_mul, ii_lt, ii_le, ii_eq, ixn_ii, ixo_ii, rem_ii, nb_1, nb_0, nb_bb, bb_0, hI_gv, Int.toNat_of_nonneg, Int.cast_ofNat_Int, ht_sI, ht_sJ, ht_sR, hn_sI, hn_sJ, hn_sR, hR_sI, hR_sJ, kI_v, kV_v, kJ_v, true_and, and_true, forall_eq, tg, ln, rf, ne_eq, not_false_eq_true, forall_const, not_true_eq_false, false_implies, Int.reduceEq, Int.reduceLT, Int.reduceLE, implies_true, and_self, reduceCtorEq, false_and,]
        exact fin
  · have t1 : ht h1 q = 5 := (w1 q).1.trans t5
    have k1 : oKd t n p H a = 1 := oKd_1 nd
    refine ⟨t1, fun h4 x4 => ?_⟩
    have t4 : ht h4 q = 5 := by rw [x4]; exact t1
    have w4 : wr q h h4 := wr_tr w1 (by rw [x4]; exact wr_sI _ _)
    have g8 : gv h4 q 8 = 1 := by rw [x4, gv_sI, ud_ne (by decide)]; exact e8
    have g9 : gv h4 q 9 = bl t n p := by rw [x4, gv_sI, ud_ne (by decide)]; exact e9
    have i4 : hI h4 q 6 = ii (-1) := hI_e (by rw [x4, gv_sIi (by omega) (by omega)]; exact ud_eq _ _ _)
    have fin := f1 (by omega) h4 w4 (by rw [g8, k1]) g9
    rw [i4]
    refine ⟨t4, fun g => ?_, fun g => absurd rfl g⟩
    simp (disch := first | omega | decide | assumption | exact st_ne s0 (by decide) (by decide) (by decide) | exact dyn_ne (by assumption) (by decide) | fail) only [Int.reduceAdd, Int.reduceSub, Int.reduceNeg, ii_add, ii_sub, ii_mul, ii_lt, ii_le, ii_eq, ixn_ii, ixo_ii, rem_ii, nb_1, nb_0, nb_bb, bb_0, hI_gv, Int.toNat_of_nonneg, Int.cast_ofNat_Int, ht_sI, ht_sJ, ht_sR, hn_sI, hn_sJ, hn_sR, hR_sI, hR_sJ, kI_v, kV_v, kJ_v, true_and, and_true, forall_eq, tg, ln, rf, ne_eq, not_false_eq_true, forall_const, not_true_eq_false, false_implies, Int.reduceEq, Int.reduceLT, Int.reduceLE, implies_true, and_self, reduceCtorEq, false_and,]
    exact fin
end RD3
