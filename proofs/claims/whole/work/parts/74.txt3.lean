/-! TEXT: the lines, the reference -/
def nK (t : Int → Int) (n p lo hi : Int) : Int := if nD t n p then (if lo ≤ nV t n p ∧ nV t n p ≤ hi then 0 else 2) else 1
def oKd (t : Int → Int) (n p H a : Int) : Int := if nD t n p then (if (0 ≤ nV t n p ∧ nV t n p ≤ H - 1) ∧ a ≠ nV t n p then 0 else 2) else 1
def lb (one two : Int → Int) (a b : Int) : Nat → Int → Int
  | 0, _ => -1
  | k + 1, i => if one i = a ∧ two i = b then i else lb one two a b k (i + 1)
def lbw (one two : Int → Int) (L a b : Int) : Int := lb one two a b L.toNat 0
theorem lb_rg {one two : Int → Int} {a b : Int} : ∀ (k : Nat) (i : Int), lb one two a b k i = -1 ∨ (i ≤ lb one two a b k i ∧ lb one two a b k i < i + k ∧ one (lb one two a b k i) = a ∧ two (lb one two a b k i) = b)
  | 0, i => Or.inl rfl
  | k + 1, i => by
    by_cases e : one i = a ∧ two i = b
    · rw [show lb one two a b (k + 1) i = i from if_pos e]
      exact Or.inr ⟨by omega, by omega, e.1, e.2⟩
    · rw [show lb one two a b (k + 1) i = lb one two a b k (i + 1) from if_neg e]
      rcases lb_rg (one := one) (two := two) (a := a) (b := b) k (i + 1) with g | ⟨g1, g2, g3⟩
      · exact Or.inl g
      · exact Or.inr ⟨by omega, by omega, g3⟩
theorem lbw_rg {one two : Int → Int} {L a b : Int} (L0 : 0 ≤ L) : lbw one two L a b = -1 ∨ (0 ≤ lbw one two L a b ∧ lbw one two L a b < L ∧ one (lbw one two L a b) = a ∧ two (lbw one two L a b) = b) := by
  rcases lb_rg (one := one) (two := two) (a := a) (b := b) L.toNat 0 with g | ⟨g1, g2, g3⟩
  · exact Or.inl g
  · exact Or.inr ⟨g1, by unfold lbw; omega, g3⟩
def rN (ad : Nat → Nat) (h : tr_H) (m one two : Int → Int) (H L : Int) : Prop := gv h (ad 26) = m ∧ gv h (ad 30) = one ∧ gv h (ad 31) = two ∧ gv h (ad 23) 21 = H ∧ gv h (ad 23) 22 = L
section TX3
variable {E : tr_Env} {ad : Nat → Nat} {h h0 h1 : tr_H} {Q : tr_Q} {t m one two : Int → Int} {n p H L a b : Int}
theorem rN_fr (s : stat ad h) (f : fr ad p00 fR false h h1) (r : rN ad h m one two H L) : rN ad h1 m one two H L := by
  obtain ⟨r1, r2, r3, r4, r5⟩ := r
  exact ⟨(fr_gv s f (by decide) (by decide) rfl p00_lt).trans r1, (fr_gv s f (by decide) (by decide) rfl p00_lt).trans r2, (fr_gv s f (by decide) (by decide) rfl p00_lt).trans r3, (fr_gf s f rfl p00_lt rfl).trans r4, (fr_gf s f rfl p00_lt rfl).trans r5⟩
theorem nK_0 {lo hi : Int} : nK t n p lo hi = 0 ↔ (nD t n p ∧ lo ≤ nV t n p ∧ nV t n p ≤ hi) := by
  unfold nK
  by_cases e : nD t n p
  · rw [if_pos e]
    by_cases g : lo ≤ nV t n p ∧ nV t n p ≤ hi
    · rw [if_pos g]; exact ⟨fun _ => ⟨e, g⟩, fun _ => rfl⟩
    · rw [if_neg g]; exact ⟨fun k => absurd k (by decide), fun k => absurd k.2 g⟩
  · rw [if_neg e]; exact ⟨fun k => absurd k (by decide), fun k => absurd k.1 e⟩
theorem oKd_0 : oKd t n p H a = 0 ↔ (nD t n p ∧ (0 ≤ nV t n p ∧ nV t n p ≤ H - 1) ∧ a ≠ nV t n p) := by
  unfold oKd
  by_cases e : nD t n p
  · rw [if_pos e]
    by_cases g : (0 ≤ nV t n p ∧ nV t n p ≤ H - 1) ∧ a ≠ nV t n p
    · rw [if_pos g]; exact ⟨fun _ => ⟨e, g⟩, fun _ => rfl⟩
    · rw [if_neg g]; exact ⟨fun k => absurd k (by decide), fun k => absurd k.2 g⟩
  · rw [if_neg e]; exact ⟨fun k => absurd k (by decide), fun k => absurd k.1 e⟩
theorem nK_1 {lo hi : Int} (g : ¬ nD t n p) : nK t n p lo hi = 1 := if_neg g
theorem nK_2 {lo hi : Int} (g : nD t n p) (g2 : ¬ (lo ≤ nV t n p ∧ nV t n p ≤ hi)) : nK t n p lo hi = 2 := by unfold nK; rw [if_pos g, if_neg g2]
theorem oKd_1 (g : ¬ nD t n p) : oKd t n p H a = 1 := if_neg g
theorem oKd_2 (g : nD t n p) (g2 : ¬ ((0 ≤ nV t n p ∧ nV t n p ≤ H - 1) ∧ a ≠ nV t n p)) : oKd t n p H a = 2 := by unfold oKd; rw [if_pos g, if_neg g2]
theorem nV_rg : 0 ≤ nV t n p ∧ nV t n p ≤ 100000 := dvp_rg t n (bl t n p)
theorem c_num (ok : tr_ok E) (r : rS ad h t n p) {lo hi : Int} (l0 : -2147483648 ≤ lo) (l1 : lo ≤ 2147483647) (h0 : -2147483648 ≤ hi) (h1 : hi ≤ 2147483647) (q0 : nK t n p lo hi = 0 → ∀ h', fr ad p00 fR false h h' → rS ad h' t n (nE t n p) → gv h' (ad 23) 17 = bl t n p → Q (.inl (some (.inl (ii (nV t n p))))) h') (q1 : nK t n p lo hi ≠ 0 → ∀ h', fr ad p00 fR false h h' → rX ad h' t n (nK t n p lo hi) (bl t n p) → Q (.inl (some (.inl (ii 0)))) h') : tr_C E 142 [.inr (.inr (ad 23)), .inl (ii lo), .inl (ii hi)] h Q := by
  refine c_number ok r l0 l1 h0 h1 (fun g g1 g2 h' f' r' e => q0 (nK_0.2 ⟨g, g1, g2⟩) h' f' r' e) (fun g h' f' r' => q1 (fun e => g (nK_0.1 e).1) h' f' (by rw [nK_1 g]; exact r')) (fun g g2 h' f' r' => q1 (fun e => g2 (nK_0.1 e).2) h' f' (by rw [nK_2 g g2]; exact r'))
theorem c_otherX (ok : tr_ok E) {k z : Int} {l1 : Int32} (r : rX ad h t n k z) (q : ∀ h', fr ad p00 fR false h h' → rX ad h' t n k z → Q (.inl (some (.inl (ii 0)))) h') : tr_C E 145 [.inr (.inr (ad 23)), .inl l1] h Q := by
  refine T_X8_other ok ?_
  obtain ⟨p, rb⟩ := r.1
  have kb := gv_rg h (ad 23) 18
  rw [r.2.1] at kb
  have k0 := r.2.2.2
  simp (disch := first | omega | decide | assumption | exact st_ne s0 (by decide) (by decide) (by decide) | exact dyn_ne (by assumption) (by decide) | fail) only [Int.reduceAdd, Int.reduceSub, Int.reduceNeg, ii_add, ii_sub, ii_mul, ii_lt, ii_le, ii_eq, ixn_ii, ixo_ii, rem_ii, nb_1, nb_0, nb_bb, bb_0, hI_gv, Int.toNat_of_nonneg, Int.cast_ofNat_Int, ht_sI, ht_sJ, ht_sR, hn_sI, hn_sJ, hn_sR, hR_sI, hR_sJ, kI_v, kV_v, kJ_v, true_and, and_true, forall_eq, tg, ln, rf, ne_eq, not_false_eq_true, forall_const, not_true_eq_false, false_implies, W_X8_other, st_t rb.1]
  refine c_numberX ok r (fun h1 f1 r1 => ?_)
  obtain ⟨⟨p2, rb2⟩, e18, -, -⟩ := id r1
  simp (disch := first | omega | decide | assumption | exact st_ne s0 (by decide) (by decide) (by decide) | exact dyn_ne (by assumption) (by decide) | fail) only [Int.reduceAdd, Int.reduceSub, Int.reduceNeg, ii_add, ii_sub, ii_mul, ii_lt, ii_le, ii_eq, ixn_ii, ixo_ii, rem_ii, nb_1, nb_0, nb_bb, bb_0, hI_gv, Int.toNat_of_nonneg, Int.cast_ofNat_Int, ht_sI, ht_sJ, ht_sR, hn_sI, hn_sJ, hn_sR, hR_sI, hR_sJ, kI_v, kV_v, kJ_v, true_and, and_true, forall_eq, tg, ln, rf, ne_eq, not_false_eq_true, forall_const, not_true_eq_false, false_implies, st_t rb2.1, e18]
  exact ⟨fun g => by omega, fun _ => q h1 f1 r1⟩
theorem c_other (ok : tr_ok E) (r : rS ad h t n p) (eH : gv h (ad 23) 21 = H) (H0 : 0 ≤ H) (H1 : H ≤ 10) (a0 : 0 ≤ a) (a1 : a ≤ 100000) (q0 : oKd t n p H a = 0 → ∀ h', fr ad p00 fR false h h' → rS ad h' t n (nE t n p) → Q (.inl (some (.inl (ii (nV t n p))))) h') (q1 : oKd t n p H a ≠ 0 → ∀ h', fr ad p00 fR false h h' → rX ad h' t n (oKd t n p H a) (bl t n p) → ∀ x : Int, 0 ≤ x → x ≤ 100000 → Q (.inl (some (.inl (ii x)))) h') : tr_C E 145 [.inr (.inr (ad 23)), .inl (ii a)] h Q := by
  refine T_X8_other ok ?_
  have s := r.1.1
  have vr := nV_rg (t := t) (n := n) (p := p)
  simp (disch := first | omega | decide | assumption | exact st_ne s0 (by decide) (by decide) (by decide) | exact dyn_ne (by assumption) (by decide) | fail) only [Int.reduceAdd, Int.reduceSub, Int.reduceNeg, ii_add, ii_sub, ii_mul, ii_lt, ii_le, ii_eq, ixn_ii, ixo_ii, rem_ii, nb_1, nb_0, nb_bb, bb_0, hI_gv, Int.toNat_of_nonneg, Int.cast_ofNat_Int, ht_sI, ht_sJ, ht_sR, hn_sI, hn_sJ, hn_sR, hR_sI, hR_sJ, kI_v, kV_v, kJ_v, true_and, and_true, forall_eq, tg, ln, rf, ne_eq, not_false_eq_true, forall_const, not_true_eq_false, false_implies, W_X8_other, st_t s, eH]
  refine c_number ok r (by omega) (by omega) (by omega) (by omega) (fun g g1 g2 h1 f1 r1 e17 => ?_) (fun g h1 f1 r1 => ?_) (fun g g2 h1 f1 r1 => ?_)
  · obtain ⟨rb, e18⟩ := id r1
    have pb' : bl t n p ≤ n ∧ 0 ≤ bl t n p := by
      have := skp_rg (cB t) n p
      have u := r.1.2.2.2.2
      change p ≤ bl t n p ∧ (bl t n p ≤ p ∨ bl t n p ≤ n) at this
      omega
    have n1 := r.1.2.2.2.2.2.2.2
    simp (disch := first | omega | decide | assumption | exact st_ne s0 (by decide) (by decide) (by decide) | exact dyn_ne (by assumption) (by decide) | fail) only [Int.reduceAdd, Int.reduceSub, Int.reduceNeg, ii_add, ii_sub, ii_mul, ii_lt, ii_le, ii_eq, ixn_ii, ixo_ii, rem_ii, nb_1, nb_0, nb_bb, bb_0, hI_gv, Int.toNat_of_nonneg, Int.cast_ofNat_Int, ht_sI, ht_sJ, ht_sR, hn_sI, hn_sJ, hn_sR, hR_sI, hR_sJ, kI_v, kV_v, kJ_v, true_and, and_true, forall_eq, tg, ln, rf, ne_eq, not_false_eq_true, forall_const, not_true_eq_false, false_implies, Int.reduceEq, Int.reduceLT, Int.reduceLE, implies_true, and_self, reduceCtorEq, false_and, st_t rb.1, e18, e17]
    refine ⟨fun e => ?_, fun e => q0 (oKd_0.2 ⟨g, ⟨g1, g2⟩, e⟩) h1 f1 r1⟩
    have g3 : ¬ ((0 ≤ nV t n p ∧ nV t n p ≤ H - 1) ∧ a ≠ nV t n p) := fun k => k.2 e
    refine c_wrong ok rb.1 (by omega) (by omega) (by omega) (by omega) (fun h4 f4 g4 => ?_)
    rw [if_pos (by omega)] at g4
    have d18 : gv h4 (ad 23) 18 = 2 := by rw [g4, ud_ne (by decide), ud_eq]
    have d19 : gv h4 (ad 23) 19 = bl t n p := by rw [g4, ud_eq]
    have d16 : gv h4 (ad 23) 16 = nE t n p := by rw [g4, ud_ne (by decide), ud_ne (by decide)]; exact rb.2.2.2.1
    have r4 := rB_fr rb f4 d16 rb.2.2.2.2.1 rb.2.2.2.2.2.1
    exact q1 (by rw [oKd_2 g g3]; decide) h4 (fr_tr f1 f4) ⟨⟨_, r4⟩, by rw [oKd_2 g g3]; exact d18, d19, by rw [oKd_2 g g3]; decide⟩ _ vr.1 vr.2
  · obtain ⟨⟨p2, rb2⟩, e18, -, -⟩ := id r1
    have fin := q1 (by rw [oKd_1 g]; decide) h1 f1 (by rw [oKd_1 g]; exact r1) 0 (by decide) (by decide)
    simp (disch := first | omega | decide | assumption | exact st_ne s0 (by decide) (by decide) (by decide) | exact dyn_ne (by assumption) (by decide) | fail) only [Int.reduceAdd, Int.reduceSub, Int.reduceNeg, ii_add, ii_sub, ii_mul, ii_lt, ii_le, ii_eq, ixn_ii, ixo_ii, rem_ii, nb_1, nb_0, nb_bb, bb_0, hI_gv, Int.toNat_of_nonneg, Int.cast_ofNat_Int, ht_sI, ht_sJ, ht_sR, hn_sI, hn_sJ, hn_sR, hR_sI, hR_sJ, kI_v, kV_v, kJ_v, true_and, and_true, forall_eq, tg, ln, rf, ne_eq, not_false_eq_true, forall_const, not_true_eq_false, false_implies, Int.reduceEq, Int.reduceLT, Int.reduceLE, implies_true, and_self, reduceCtorEq, false_and, st_t rb2.1, e18]
    exact fin
  · obtain ⟨⟨p2, rb2⟩, e18, -, -⟩ := id r1
    have g3 : ¬ ((0 ≤ nV t n p ∧ nV t n p ≤ H - 1) ∧ a ≠ nV t n p) := fun k => g2 k.1
    have fin := q1 (by rw [oKd_2 g g3]; decide) h1 f1 (by rw [oKd_2 g g3]; exact r1) 0 (by decide) (by decide)
    simp (disch := first | omega | decide | assumption | exact st_ne s0 (by decide) (by decide) (by decide) | exact dyn_ne (by assumption) (by decide) | fail) only [Int.reduceAdd, Int.reduceSub, Int.reduceNeg, ii_add, ii_sub, ii_mul, ii_lt, ii_le, ii_eq, ixn_ii, ixo_ii, rem_ii, nb_1, nb_0, nb_bb, bb_0, hI_gv, Int.toNat_of_nonneg, Int.cast_ofNat_Int, ht_sI, ht_sJ, ht_sR, hn_sI, hn_sJ, hn_sR, hR_sI, hR_sJ, kI_v, kV_v, kJ_v, true_and, and_true, forall_eq, tg, ln, rf, ne_eq, not_false_eq_true, forall_const, not_true_eq_false, false_implies, Int.reduceEq, Int.reduceLT, Int.reduceLE, implies_true, and_self, reduceCtorEq, false_and, st_t rb2.1, e18]
    exact fin
theorem c_linkBy_3 (ok : tr_ok E) (s : stat ad h) (e30 : gv h (ad 30) = one) (e31 : gv h (ad 31) = two) (L1 : L ≤ 24) (a0 : 0 ≤ a) (a1 : a ≤ 100000) (b0 : 0 ≤ b) (b1 : b ≤ 100000) : ∀ (k : Nat) (i : Int), 0 ≤ i → i + k = L → Q (.inl (some (.inl (ii (lb one two a b k i))))) h → tr_G E 144 Q 3 [none, some (.inr (.inr (ad 30))), some (.inr (.inr (ad 31))), some (.inl (ii L)), some (.inl (ii a)), some (.inl (ii b)), some (.inl (ii i))] [] h 0 0 := by
  intro k
  induction k with
  | zero =>
    intro i i0 i1 q
    refine T_X8_linkBy_3 ok ?_
    simp (disch := first | omega | decide | assumption | exact st_ne s0 (by decide) (by decide) (by decide) | exact dyn_ne (by assumption) (by decide) | fail) only [Int.reduceAdd, Int.reduceSub, Int.reduceNeg, ii_add, ii_sub, ii_mul, ii_lt, ii_le, ii_eq, ixn_ii, ixo_ii, rem_ii, nb_1, nb_0, nb_bb, bb_0, hI_gv, Int.toNat_of_nonneg, Int.cast_ofNat_Int, ht_sI, ht_sJ, ht_sR, hn_sI, hn_sJ, hn_sR, hR_sI, hR_sJ, kI_v, kV_v, kJ_v, true_and, and_true, forall_eq, tg, ln, rf, ne_eq, not_false_eq_true, forall_const, not_true_eq_false, false_implies, W_X8_linkBy_3, st_t s, st_n s]
    exact ⟨fun g => by omega, fun _ => q⟩
  | succ k ih =>
    intro i i0 i1 q
    refine T_X8_linkBy_3 ok ?_
    have o := gv_rg h (ad 30) i
    have w := gv_rg h (ad 31) i
    rw [e30] at o
    rw [e31] at w
    have nx : ¬ (one i = a ∧ two i = b) → tr_G E 144 Q 3 [none, some (.inr (.inr (ad 30))), some (.inr (.inr (ad 31))), some (.inl (ii L)), some (.inl (ii a)), some (.inl (ii b)), some (.inl (ii (i + 1)))] [] h 0 0 := fun g => ih (i + 1) (by omega) (by omega) (by rw [show lb one two a b (k + 1) i = lb one two a b k (i + 1) from if_neg g] at q; exact q)
    simp (disch := first | omega | decide | assumption | exact st_ne s0 (by decide) (by decide) (by decide) | exact dyn_ne (by assumption) (by decide) | fail) only [Int.reduceAdd, Int.reduceSub, Int.reduceNeg, ii_add, ii_sub, ii_mul, ii_lt, ii_le, ii_eq, ixn_ii, ixo_ii, rem_ii, nb_1, nb_0, nb_bb, bb_0, hI_gv, Int.toNat_of_nonneg, Int.cast_ofNat_Int, ht_sI, ht_sJ, ht_sR, hn_sI, hn_sJ, hn_sR, hR_sI, hR_sJ, kI_v, kV_v, kJ_v, true_and, and_true, forall_eq, tg, ln, rf, ne_eq, not_false_eq_true, forall_const, not_true_eq_false, false_implies, W_X8_linkBy_3, st_t s, st_n s, e30, e31]
    refine ⟨fun _ => ⟨⟨by omega, by omega⟩, fun g => ⟨⟨by omega, by omega⟩, fun g2 => ?_, fun g2 => nx (fun e => g2 e.2)⟩, fun g => nx (fun e => g e.1)⟩, fun g => by omega⟩
    rw [show lb one two a b (k + 1) i = i from if_pos ⟨g, g2⟩] at q
    exact q
theorem c_linkBy (ok : tr_ok E) (s : stat ad h) (e30 : gv h (ad 30) = one) (e31 : gv h (ad 31) = two) (L0 : 0 ≤ L) (L1 : L ≤ 24) (a0 : 0 ≤ a) (a1 : a ≤ 100000) (b0 : 0 ≤ b) (b1 : b ≤ 100000) (q : Q (.inl (some (.inl (ii (lbw one two L a b))))) h) : tr_C E 144 [.inr (.inr (ad 23)), .inr (.inr (ad 30)), .inr (.inr (ad 31)), .inl (ii L), .inl (ii a), .inl (ii b)] h Q := by
  refine T_X8_linkBy ok ?_
  simp (disch := first | omega | decide | assumption | exact st_ne s0 (by decide) (by decide) (by decide) | exact dyn_ne (by assumption) (by decide) | fail) only [Int.reduceAdd, Int.reduceSub, Int.reduceNeg, ii_add, ii_sub, ii_mul, ii_lt, ii_le, ii_eq, ixn_ii, ixo_ii, rem_ii, nb_1, nb_0, nb_bb, bb_0, hI_gv, Int.toNat_of_nonneg, Int.cast_ofNat_Int, ht_sI, ht_sJ, ht_sR, hn_sI, hn_sJ, hn_sR, hR_sI, hR_sJ, kI_v, kV_v, kJ_v, true_and, and_true, forall_eq, tg, ln, rf, ne_eq, not_false_eq_true, forall_const, not_true_eq_false, false_implies, W_X8_linkBy]
  exact c_linkBy_3 ok s e30 e31 L1 a0 a1 b0 b1 L.toNat 0 (by omega) (by omega) q
end TX3
