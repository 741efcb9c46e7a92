/-! THE CLASS'S NET, PACKETS AND STATE -/
def lkk (m : Int → Int) (p k : Int) : Int := if k = 0 then -1 else lk m p (k - 1)
def nst (ad : Nat → Nat) (h : tr_H) (n : Nat) (m one two : Int → Int) (H L : Int) : Prop := ht h n = 3 ∧ gv h n 0 = H ∧ gv h n 1 = L ∧ (ht h (hR h n 2) = 11 ∧ hn h (hR h n 2) = 24 ∧ ∀ l, 0 ≤ l → l < L → gv h (hR h n 2) l = one l) ∧ (ht h (hR h n 3) = 11 ∧ hn h (hR h n 3) = 24 ∧ ∀ l, 0 ≤ l → l < L → gv h (hR h n 3) l = two l) ∧ (ht h (hR h n 4) = 11 ∧ hn h (hR h n 4) = 24 ∧ ∀ l, 0 ≤ l → l < L → gv h (hR h n 4) l = b2 (!bt (m 0) l)) ∧ (ht h (hR h n 5) = 11 ∧ hn h (hR h n 5) = 100 ∧ ∀ k, 0 ≤ k → k < 100 → gv h (hR h n 5) k = m (6 + k)) ∧ (ht h (hR h n 6) = 11 ∧ hn h (hR h n 6) = 5 ∧ gv h (hR h n 6) 0 = m 1 ∧ gv h (hR h n 6) 1 = m 2 ∧ gv h (hR h n 6) 2 = m 3 ∧ gv h (hR h n 6) 3 = m 4 ∧ gv h (hR h n 6) 4 = m 5) ∧ dyn ad (hR h n 2) ∧ dyn ad (hR h n 3) ∧ dyn ad (hR h n 4) ∧ dyn ad (hR h n 5) ∧ dyn ad (hR h n 6)
def pst (ad : Nat → Nat) (h : tr_H) (q : Nat) (m two : Int → Int) (p : Int) : Prop := ht h q = 4 ∧ gv h q 0 = fd m p 0 ∧ gv h q 1 = fd m p 1 ∧ gv h q 2 = fd m p 2 ∧ gv h q 3 = fd m p 3 ∧ gv h q 4 = fd m p 4 ∧ gv h q 5 = hsh m p ∧ gv h q 8 = fd m p 6 + 1 ∧ gv h q 9 = fd m p 5 ∧ (ht h (hR h q 6) = 11 ∧ (hn h (hR h q 6) : Int) = fd m p 4 + 1 ∧ ∀ k, 0 ≤ k → k ≤ fd m p 6 → gv h (hR h q 6) k = hop m two p k) ∧ (ht h (hR h q 7) = 11 ∧ (hn h (hR h q 7) : Int) = fd m p 4 + 1 ∧ ∀ k, 0 ≤ k → k ≤ fd m p 6 → gv h (hR h q 7) k = lkk m p k) ∧ dyn ad (hR h q 6) ∧ dyn ad (hR h q 7)
def cst (ad : Nat → Nat) (h : tr_H) (s : Nat) (m one two : Int → Int) (H L : Int) : Prop := ht h s = 7 ∧ nst ad h (hR h s 0) m one two H L ∧ ht h (hR h s 1) = 16 ∧ hn h (hR h s 1) = 40 ∧ gv h s 2 = m 106 ∧ ∀ p, 0 ≤ p → p < m 106 → pst ad h (hR h (hR h s 1) p.toNat) m two p
section CFR
variable {ad : Nat → Nat} {h h' : tr_H} {m one two : Int → Int} {H L p : Int} {n q s : Nat} {P : Nat → Bool} {F : Int → Bool} {R : Bool}
theorem dyn_t (s0 : stat ad h) {r : Nat} (h1 : ht h r ≠ 11) (h2 : ht h r = 3 ∨ ht h r = 4 ∨ ht h r = 7 ∨ ht h r = 16) : dyn ad r := by
  intro i hi e
  rw [e, st_t s0 hi] at h2
  unfold tg at h2
  split at h2 <;> omega
theorem fr_dyn (a : fr ad P F R h h') (hP1 : ∀ j, P j = true → j < 42) {r : Nat} (hr : ht h r ≠ 0) (d : dyn ad r) : ht h' r = ht h r ∧ hn h' r = hn h r ∧ gv h' r = gv h r ∧ hJ h' r = hJ h r ∧ hR h' r = hR h r := by
  obtain ⟨a1, a2, a3, a4⟩ := a r hr
  obtain ⟨a5, a6⟩ := a3 (fun i hi => d i (hP1 i hi))
  refine ⟨a1, a2, funext fun z => a5 z (fun _ => d 23 (by decide)), a6, funext fun k => a4 k (fun _ => ⟨d 6 (by decide), fun e => absurd e (d 1 (by decide))⟩)⟩
theorem nst_fr (s0 : stat ad h) (a : fr ad P F R h h') (hP1 : ∀ j, P j = true → j < 42) (w : nst ad h n m one two H L) : nst ad h' n m one two H L := by
  obtain ⟨n0, n1, n2, ⟨sa, sb, sc⟩, ⟨ea, eb, ec⟩, ⟨ua, ub, uc⟩, ⟨ra, rb, rc⟩, ⟨ga, gb, g0, g1, g2, g3, g4⟩, d2, d3, d4, d5, d6⟩ := w
  obtain ⟨a1, a2, a3, a4, a5⟩ := fr_dyn a hP1 (r := n) (by omega) (dyn_t s0 (by omega) (by omega))
  obtain ⟨b1, b2, b3, b4, b5⟩ := fr_dyn a hP1 (by omega) d2
  obtain ⟨c1, c2, c3, c4, c5⟩ := fr_dyn a hP1 (by omega) d3
  obtain ⟨e1, e2, e3, e4, e5⟩ := fr_dyn a hP1 (by omega) d4
  obtain ⟨f1, f2, f3, f4, f5⟩ := fr_dyn a hP1 (by omega) d5
  obtain ⟨i1, i2, i3, i4, i5⟩ := fr_dyn a hP1 (by omega) d6
  unfold nst
  rw [a5, a1, a3, b1, b2, b3, c1, c2, c3, e1, e2, e3, f1, f2, f3, i1, i2, i3]
  exact ⟨n0, n1, n2, ⟨sa, sb, sc⟩, ⟨ea, eb, ec⟩, ⟨ua, ub, uc⟩, ⟨ra, rb, rc⟩, ⟨ga, gb, g0, g1, g2, g3, g4⟩, d2, d3, d4, d5, d6⟩
theorem pst_fr (s0 : stat ad h) (a : fr ad P F R h h') (hP1 : ∀ j, P j = true → j < 42) (w : pst ad h q m two p) : pst ad h' q m two p := by
  obtain ⟨k0, ka, kb, kc, kd, ke, kf, kg, kh, ⟨ha, hb, hc⟩, ⟨la, lb, lc⟩, d6, d7⟩ := w
  obtain ⟨a1, a2, a3, a4, a5⟩ := fr_dyn a hP1 (r := q) (by omega) (dyn_t s0 (by omega) (by omega))
  obtain ⟨b1, b2, b3, b4, b5⟩ := fr_dyn a hP1 (by omega) d6
  obtain ⟨c1, c2, c3, c4, c5⟩ := fr_dyn a hP1 (by omega) d7
  unfold pst
  rw [a5, a1, a3, b1, b2, b3, c1, c2, c3]
  exact ⟨k0, ka, kb, kc, kd, ke, kf, kg, kh, ⟨ha, hb, hc⟩, ⟨la, lb, lc⟩, d6, d7⟩
theorem cst_fr (s0 : stat ad h) (a : fr ad P F R h h') (hP1 : ∀ j, P j = true → j < 42) (w : cst ad h s m one two H L) : cst ad h' s m one two H L := by
  obtain ⟨c0, c1, c2, c3, c4, c5⟩ := w
  obtain ⟨a1, a2, a3, a4, a5⟩ := fr_dyn a hP1 (r := s) (by omega) (dyn_t s0 (by omega) (by omega))
  obtain ⟨b1, b2, b3, b4, b5⟩ := fr_dyn a hP1 (r := hR h s 1) (by omega) (dyn_t s0 (by omega) (by omega))
  unfold cst
  rw [a5, a1, a3, b1, b2, b5]
  exact ⟨c0, nst_fr s0 a hP1 c1, c2, c3, c4, fun p h1 h2 => pst_fr s0 a hP1 (c5 p h1 h2)⟩
end CFR
section CLS
variable {E : tr_Env} {ad : Nat → Nat} {h : tr_H} {Q : tr_Q} {m one two : Int → Int} {H L : Int} {nn : Nat} {qq : Nat}
theorem k_hasHop (ok : tr_ok E) (n : nst ad h nn m one two H L) (h1 : 0 ≤ H) (h2 : H ≤ 1000) {a : Int} (h3 : -2147483648 ≤ a) (h4 : a ≤ 2147483647) (q : Q (.inl (some (.inl (bb (decide (0 ≤ a ∧ a < H)))))) h) : tr_C E 27 [.inr (.inr nn), .inl (ii a)] h Q := by
  refine T_X2_hasHop ok ?_
  simp (disch := first | omega | decide | assumption | exact st_ne s0 (by decide) (by decide) (by decide) | exact dyn_ne (by assumption) (by decide) | fail) only [Int.reduceAdd, Int.reduceSub, Int.reduceNeg, ii_add, ii_sub, ii_mul, ii_lt, ii_le, ii_eq, ixn_ii, ixo_ii, rem_ii, nb_1, nb_0, nb_bb, bb_0, hI_gv, Int.toNat_of_nonneg, Int.cast_ofNat_Int, ht_sI, ht_sJ, ht_sR, hn_sI, hn_sJ, hn_sR, hR_sI, hR_sJ, kI_v, kV_v, kJ_v, true_and, and_true, forall_eq, tg, ln, rf, ne_eq, not_false_eq_true, forall_const, not_true_eq_false, false_implies, W_X2_hasHop, n.1, n.2.1]
  refine ⟨fun g => ?_, fun g => ⟨fun g2 => ?_, fun g2 => ?_⟩⟩
  · rw [decide_eq_false (by omega)] at q; exact q
  · rw [decide_eq_true (by omega)] at q; exact q
  · rw [decide_eq_false (by omega)] at q; exact q
theorem k_hasLink (ok : tr_ok E) (n : nst ad h nn m one two H L) (h1 : 0 ≤ L) (h2 : L ≤ 1000) {a : Int} (h3 : -2147483648 ≤ a) (h4 : a ≤ 2147483647) (q : Q (.inl (some (.inl (bb (decide (0 ≤ a ∧ a < L)))))) h) : tr_C E 28 [.inr (.inr nn), .inl (ii a)] h Q := by
  refine T_X2_hasLink ok ?_
  simp (disch := first | omega | decide | assumption | exact st_ne s0 (by decide) (by decide) (by decide) | exact dyn_ne (by assumption) (by decide) | fail) only [Int.reduceAdd, Int.reduceSub, Int.reduceNeg, ii_add, ii_sub, ii_mul, ii_lt, ii_le, ii_eq, ixn_ii, ixo_ii, rem_ii, nb_1, nb_0, nb_bb, bb_0, hI_gv, Int.toNat_of_nonneg, Int.cast_ofNat_Int, ht_sI, ht_sJ, ht_sR, hn_sI, hn_sJ, hn_sR, hR_sI, hR_sJ, kI_v, kV_v, kJ_v, true_and, and_true, forall_eq, tg, ln, rf, ne_eq, not_false_eq_true, forall_const, not_true_eq_false, false_implies, W_X2_hasLink, n.1, n.2.2.1]
  refine ⟨fun g => ?_, fun g => ⟨fun g2 => ?_, fun g2 => ?_⟩⟩
  · rw [decide_eq_false (by omega)] at q; exact q
  · rw [decide_eq_true (by omega)] at q; exact q
  · rw [decide_eq_false (by omega)] at q; exact q
theorem k_hasPacket (ok : tr_ok E) {ss : Nat} (c : cst ad h ss m one two H L) (v : vok m one two H L) {a : Int} (h3 : -2147483648 ≤ a) (h4 : a ≤ 2147483647) (q : Q (.inl (some (.inl (bb (decide (0 ≤ a ∧ a < m 106)))))) h) : tr_C E 66 [.inr (.inr ss), .inl (ii a)] h Q := by
  refine T_X6_hasPacket ok ?_
  have vm := v_m v
  simp (disch := first | omega | decide | assumption | exact st_ne s0 (by decide) (by decide) (by decide) | exact dyn_ne (by assumption) (by decide) | fail) only [Int.reduceAdd, Int.reduceSub, Int.reduceNeg, ii_add, ii_sub, ii_mul, ii_lt, ii_le, ii_eq, ixn_ii, ixo_ii, rem_ii, nb_1, nb_0, nb_bb, bb_0, hI_gv, Int.toNat_of_nonneg, Int.cast_ofNat_Int, ht_sI, ht_sJ, ht_sR, hn_sI, hn_sJ, hn_sR, hR_sI, hR_sJ, kI_v, kV_v, kJ_v, true_and, and_true, forall_eq, tg, ln, rf, ne_eq, not_false_eq_true, forall_const, not_true_eq_false, false_implies, W_X6_hasPacket, c.1, c.2.2.2.2.1]
  refine ⟨fun g => ?_, fun g => ⟨fun g2 => ?_, fun g2 => ?_⟩⟩
  · rw [decide_eq_false (by omega)] at q; exact q
  · rw [decide_eq_true (by omega)] at q; exact q
  · rw [decide_eq_false (by omega)] at q; exact q
/-- the first link from one hop to another -/
def lkb (one two : Int → Int) (a b : Int) : Int → Nat → Int
  | _, 0 => -1
  | i, n + 1 => if one i = a ∧ two i = b then i else lkb one two a b (i + 1) n
theorem k_linkBetween_2 (ok : tr_ok E) (n : nst ad h nn m one two H L) (hL : 0 ≤ L) (hL2 : L ≤ 24) (hr : ∀ l, 0 ≤ l → l < L → 0 ≤ one l ∧ one l < 10 ∧ 0 ≤ two l ∧ two l < 10) {a b : Int} (h1 : 0 ≤ a) (h2 : a < 10) (h3 : 0 ≤ b) (h4 : b < 10) : ∀ (k : Nat) (i : Int), i + k = L → 0 ≤ i → Q (.inl (some (.inl (ii (lkb one two a b i k))))) h → tr_G E 30 Q 2 [some (.inr (.inr nn)), some (.inl (ii a)), some (.inl (ii b)), some (.inl (ii i))] [] h 0 0
  | k, i, hk, g0, q => by
    refine T_X2_linkBetween_2 ok ?_
    obtain ⟨n0, n1, n2, ⟨sa, sb, sc⟩, ⟨ea, eb, ec⟩, -⟩ := id n
    simp (disch := first | omega | decide | assumption | exact st_ne s0 (by decide) (by decide) (by decide) | exact dyn_ne (by assumption) (by decide) | fail) only [Int.reduceAdd, Int.reduceSub, Int.reduceNeg, ii_add, ii_sub, ii_mul, ii_lt, ii_le, ii_eq, ixn_ii, ixo_ii, rem_ii, nb_1, nb_0, nb_bb, bb_0, hI_gv, Int.toNat_of_nonneg, Int.cast_ofNat_Int, ht_sI, ht_sJ, ht_sR, hn_sI, hn_sJ, hn_sR, hR_sI, hR_sJ, kI_v, kV_v, kJ_v, true_and, and_true, forall_eq, tg, ln, rf, ne_eq, not_false_eq_true, forall_const, not_true_eq_false, false_implies, W_X2_linkBetween_2, n0, n2]
    refine ⟨fun g => ?_, fun g => ?_⟩
    · obtain ⟨k, rfl⟩ : ∃ n', k = n' + 1 := ⟨k - 1, by omega⟩
      obtain ⟨r1, r2, r3, r4⟩ := hr i g0 g
      unfold lkb at q
      simp (disch := first | omega | decide | assumption | exact st_ne s0 (by decide) (by decide) (by decide) | exact dyn_ne (by assumption) (by decide) | fail) only [Int.reduceAdd, Int.reduceSub, Int.reduceNeg, ii_add, ii_sub, ii_mul, ii_lt, ii_le, ii_eq, ixn_ii, ixo_ii, rem_ii, nb_1, nb_0, nb_bb, bb_0, hI_gv, Int.toNat_of_nonneg, Int.cast_ofNat_Int, ht_sI, ht_sJ, ht_sR, hn_sI, hn_sJ, hn_sR, hR_sI, hR_sJ, kI_v, kV_v, kJ_v, true_and, and_true, forall_eq, tg, ln, rf, ne_eq, not_false_eq_true, forall_const, not_true_eq_false, false_implies, sa, sb, sc, ea, eb, ec]
      refine ⟨by omega, fun g2 => ⟨by omega, fun g3 => ?_, fun g3 => ?_⟩, fun g2 => ?_⟩
      · rw [if_pos ⟨g2, g3⟩] at q; exact q
      · rw [if_neg (fun e => g3 e.2)] at q
        exact k_linkBetween_2 ok n hL hL2 hr h1 h2 h3 h4 k (i + 1) (by omega) (by omega) q
      · rw [if_neg (fun e => g2 e.1)] at q
        exact k_linkBetween_2 ok n hL hL2 hr h1 h2 h3 h4 k (i + 1) (by omega) (by omega) q
    · obtain rfl : k = 0 := by omega
      exact q
theorem k_linkBetween (ok : tr_ok E) (n : nst ad h nn m one two H L) (hL : 0 ≤ L) (hL2 : L ≤ 24) (hr : ∀ l, 0 ≤ l → l < L → 0 ≤ one l ∧ one l < 10 ∧ 0 ≤ two l ∧ two l < 10) {a b : Int} (h1 : 0 ≤ a) (h2 : a < 10) (h3 : 0 ≤ b) (h4 : b < 10) (q : Q (.inl (some (.inl (ii (lkb one two a b 0 L.toNat))))) h) : tr_C E 30 [.inr (.inr nn), .inl (ii a), .inl (ii b)] h Q := by
  refine T_X2_linkBetween ok ?_
  exact k_linkBetween_2 ok n hL hL2 hr h1 h2 h3 h4 L.toNat 0 (by omega) (by omega) q
theorem k_fieldAt (ok : tr_ok E) {p : Int} (pk : pst ad h qq m two p) (v : vok m one two H L) (h1 : 0 ≤ p) (h2 : p < m 106) {f k : Int} (h3 : 0 ≤ f) (h4 : f < 5) (q : Q (.inl (some (.inl (ii (fa m p k f))))) h) : tr_C E 40 [.inr (.inr qq), .inl (ii f), .inl (ii k)] h Q := by
  refine T_X3_fieldAt ok ?_
  obtain ⟨k0, ka, kb, kc, kd, ke, kf, kg, kh, ⟨ha, hb, hc⟩, ⟨la, lb, lc⟩, kdy⟩ := id pk
  simp (disch := first | omega | decide | assumption | exact st_ne s0 (by decide) (by decide) (by decide) | exact dyn_ne (by assumption) (by decide) | fail) only [Int.reduceAdd, Int.reduceSub, Int.reduceNeg, ii_add, ii_sub, ii_mul, ii_lt, ii_le, ii_eq, ixn_ii, ixo_ii, rem_ii, nb_1, nb_0, nb_bb, bb_0, hI_gv, Int.toNat_of_nonneg, Int.cast_ofNat_Int, ht_sI, ht_sJ, ht_sR, hn_sI, hn_sJ, hn_sR, hR_sI, hR_sJ, kI_v, kV_v, kJ_v, true_and, and_true, forall_eq, tg, ln, rf, ne_eq, not_false_eq_true, forall_const, not_true_eq_false, false_implies, W_X3_fieldAt, k0, ka, kb, kc, kd, ke, kf, kg, kh, ha, hb, hc, la, lb, lc]
  unfold fa at q
  refine ⟨fun g => ?_, fun g => ⟨fun g1 => ?_, fun g1 => ⟨fun g2 => ?_, fun g2 => ⟨fun g3 => ?_, fun g3 => ?_⟩⟩⟩⟩
  · subst g; exact q
  · subst g1; exact q
  · subst g2; exact q
  · subst g3; exact q
  · rw [if_neg (by omega)] at q; exact q
theorem k_bareMix_14 (ok : tr_ok E) {p : Int} (pk : pst ad h qq m two p) (v : vok m one two H L) (h1 : 0 ≤ p) (h2 : p < m 106) {k mk : Int} (h3 : 0 ≤ k) (h4 : k ≤ fd m p 4) (h5 : 0 ≤ mk) (h6 : mk ≤ 31) : ∀ (n : Nat) (f a : Int), f + n = 5 → 0 ≤ f → 0 ≤ a → a < m 2 → Q (.inl (some (.inl (ii (mixL (m 2) mk (fa m p k) a f n))))) h → tr_G E 32 Q 14 [none, some (.inr (.inr qq)), some (.inl (ii k)), some (.inl (ii mk)), some (.inl (ii (m 2))), some (.inl (ii a)), some (.inl (ii f))] [] h 0 0
  | n, f, a, hn0, g0, g1, g2, q => by
    refine T_X2_bareMix_14 ok ?_
    have vm := v_m v
    have vb := v_2 v
    have vH := v_H v
    obtain ⟨q0, q1, q2, q3, q4, q5, q6, q7⟩ := v_p v h1 h2
    simp (disch := first | omega | decide | assumption | exact st_ne s0 (by decide) (by decide) (by decide) | exact dyn_ne (by assumption) (by decide) | fail) only [Int.reduceAdd, Int.reduceSub, Int.reduceNeg, ii_add, ii_sub, ii_mul, ii_lt, ii_le, ii_eq, ixn_ii, ixo_ii, rem_ii, nb_1, nb_0, nb_bb, bb_0, hI_gv, Int.toNat_of_nonneg, Int.cast_ofNat_Int, ht_sI, ht_sJ, ht_sR, hn_sI, hn_sJ, hn_sR, hR_sI, hR_sJ, kI_v, kV_v, kJ_v, true_and, and_true, forall_eq, tg, ln, rf, ne_eq, not_false_eq_true, forall_const, not_true_eq_false, false_implies, W_X2_bareMix_14, bt_mk, pk.1]
    refine ⟨fun g => ⟨fun g3 => by omega, fun _ => ?_⟩, fun g => ?_⟩
    · obtain ⟨n, rfl⟩ : ∃ n', n = n' + 1 := ⟨n - 1, by omega⟩
      unfold mixL at q
      simp (disch := first | omega | decide | assumption | exact st_ne s0 (by decide) (by decide) (by decide) | exact dyn_ne (by assumption) (by decide) | fail) only [Int.reduceAdd, Int.reduceSub, Int.reduceNeg, ii_add, ii_sub, ii_mul, ii_lt, ii_le, ii_eq, ixn_ii, ixo_ii, rem_ii, nb_1, nb_0, nb_bb, bb_0, hI_gv, Int.toNat_of_nonneg, Int.cast_ofNat_Int, ht_sI, ht_sJ, ht_sR, hn_sI, hn_sJ, hn_sR, hR_sI, hR_sJ, kI_v, kV_v, kJ_v, true_and, and_true, forall_eq, tg, ln, rf, ne_eq, not_false_eq_true, forall_const, not_true_eq_false, false_implies, bt_mk, pk.1]
      refine ⟨fun g3 => ?_, fun g3 => ?_⟩
      · refine k_bareMix_14 ok pk v h1 h2 h3 h4 h5 h6 n (f + 1) _ (by omega) (by omega) g1 g2 ?_
        rw [g3] at q; exact q
      · rw [Bool.not_eq_false] at g3
        refine k_fieldAt ok pk v h1 h2 (by omega) (by omega) ?_
        have hr : 0 ≤ fa m p k f ∧ fa m p k f ≤ 9999 := by
          unfold fa
          rcases (by omega : f = 0 ∨ f = 1 ∨ f = 2 ∨ f = 3 ∨ f = 4) with rfl | rfl | rfl | rfl | rfl <;> simp <;> omega
        simp (disch := first | omega | decide | assumption | exact st_ne s0 (by decide) (by decide) (by decide) | exact dyn_ne (by assumption) (by decide) | fail) only [Int.reduceAdd, Int.reduceSub, Int.reduceNeg, ii_add, ii_sub, ii_mul, ii_lt, ii_le, ii_eq, ixn_ii, ixo_ii, rem_ii, nb_1, nb_0, nb_bb, bb_0, hI_gv, Int.toNat_of_nonneg, Int.cast_ofNat_Int, ht_sI, ht_sJ, ht_sR, hn_sI, hn_sJ, hn_sR, hR_sI, hR_sJ, kI_v, kV_v, kJ_v, true_and, and_true, forall_eq, tg, ln, rf, ne_eq, not_false_eq_true, forall_const, not_true_eq_false, false_implies]
        refine ⟨by omega, ?_⟩
        refine k_bareMix_14 ok pk v h1 h2 h3 h4 h5 h6 n (f + 1) _ (by omega) (by omega) (Int.emod_nonneg _ (by omega)) (Int.emod_lt_of_pos _ (by omega)) ?_
        rw [g3] at q; exact q
    · obtain rfl : n = 0 := by omega
      exact q
theorem k_bareMix (ok : tr_ok E) {p : Int} (n : nst ad h nn m one two H L) (pk : pst ad h qq m two p) (v : vok m one two H L) (h1 : 0 ≤ p) (h2 : p < m 106) {k mk : Int} (h3 : 0 ≤ k) (h4 : k ≤ fd m p 4) (h5 : 0 ≤ mk) (h6 : mk ≤ 31) (q : Q (.inl (some (.inl (ii (mixB m p k mk))))) h) : tr_C E 32 [.inr (.inr nn), .inr (.inr qq), .inl (ii k), .inl (ii mk)] h Q := by
  refine T_X2_bareMix ok ?_
  obtain ⟨n0, n1, n2, ⟨sa, sb, sc⟩, ⟨ea, eb, ec⟩, ⟨ua, ub, uc⟩, ⟨ra, rb, rc⟩, ⟨ga, gb, g0, g1, g2, g3, g4⟩, nd⟩ := id n
  simp (disch := first | omega | decide | assumption | exact st_ne s0 (by decide) (by decide) (by decide) | exact dyn_ne (by assumption) (by decide) | fail) only [Int.reduceAdd, Int.reduceSub, Int.reduceNeg, ii_add, ii_sub, ii_mul, ii_lt, ii_le, ii_eq, ixn_ii, ixo_ii, rem_ii, nb_1, nb_0, nb_bb, bb_0, hI_gv, Int.toNat_of_nonneg, Int.cast_ofNat_Int, ht_sI, ht_sJ, ht_sR, hn_sI, hn_sJ, hn_sR, hR_sI, hR_sJ, kI_v, kV_v, kJ_v, true_and, and_true, forall_eq, tg, ln, rf, ne_eq, not_false_eq_true, forall_const, not_true_eq_false, false_implies, W_X2_bareMix, n0, ga, gb, g1]
  refine ⟨by omega, ?_⟩
  exact k_bareMix_14 ok pk v h1 h2 h3 h4 h5 h6 5 0 0 (by omega) (by omega) (by omega) (by have := v_2 v; omega) q
theorem k_mixOf (ok : tr_ok E) {p : Int} (n : nst ad h nn m one two H L) (pk : pst ad h qq m two p) (v : vok m one two H L) (h1 : 0 ≤ p) (h2 : p < m 106) {k : Int} (h3 : 0 ≤ k) (h4 : k ≤ fd m p 4) (q : Q (.inl (some (.inl (ii (mixA m p k))))) h) : tr_C E 33 [.inr (.inr nn), .inr (.inr qq), .inl (ii k)] h Q := by
  refine T_X2_mixOf ok ?_
  obtain ⟨n0, n1, n2, ⟨sa, sb, sc⟩, ⟨ea, eb, ec⟩, ⟨ua, ub, uc⟩, ⟨ra, rb, rc⟩, ⟨ga, gb, g0, g1, g2, g3, g4⟩, nd⟩ := id n
  obtain ⟨vH, vL, vl, v0, v1, v2, v3, v4, v5, vr, vm, vp⟩ := id v
  have vx := mixB_rg (p := p) (k := k) v (m 1)
  simp (disch := first | omega | decide | assumption | exact st_ne s0 (by decide) (by decide) (by decide) | exact dyn_ne (by assumption) (by decide) | fail) only [Int.reduceAdd, Int.reduceSub, Int.reduceNeg, ii_add, ii_sub, ii_mul, ii_lt, ii_le, ii_eq, ixn_ii, ixo_ii, rem_ii, nb_1, nb_0, nb_bb, bb_0, hI_gv, Int.toNat_of_nonneg, Int.cast_ofNat_Int, ht_sI, ht_sJ, ht_sR, hn_sI, hn_sJ, hn_sR, hR_sI, hR_sJ, kI_v, kV_v, kJ_v, true_and, and_true, forall_eq, tg, ln, rf, ne_eq, not_false_eq_true, forall_const, not_true_eq_false, false_implies, W_X2_mixOf, n0, ga, gb, g0, g1, g2, g3, g4]
  refine ⟨by omega, k_bareMix ok n pk v h1 h2 h3 h4 (by omega) (by omega) ?_⟩
  simp (disch := first | omega | decide | assumption | exact st_ne s0 (by decide) (by decide) (by decide) | exact dyn_ne (by assumption) (by decide) | fail) only [Int.reduceAdd, Int.reduceSub, Int.reduceNeg, ii_add, ii_sub, ii_mul, ii_lt, ii_le, ii_eq, ixn_ii, ixo_ii, rem_ii, nb_1, nb_0, nb_bb, bb_0, hI_gv, Int.toNat_of_nonneg, Int.cast_ofNat_Int, ht_sI, ht_sJ, ht_sR, hn_sI, hn_sJ, hn_sR, hR_sI, hR_sJ, kI_v, kV_v, kJ_v, true_and, and_true, forall_eq, tg, ln, rf, ne_eq, not_false_eq_true, forall_const, not_true_eq_false, false_implies, n0, ga, gb, g0, g1, g2, g3, g4]
  unfold mixA at q
  refine ⟨by omega, by omega, fun g => ?_, fun g => ⟨by omega, ?_⟩⟩
  · rw [Int.emod_eq_of_lt (by omega) g] at q; exact q
  · have e : mixB m p k (m 1) + m 4 = (mixB m p k (m 1) + m 4 - m 2) + m 2 := by omega
    rw [e, Int.add_emod_right, Int.emod_eq_of_lt (by omega) (by omega)] at q; exact q
theorem k_chooses (ok : tr_ok E) {p : Int} (n : nst ad h nn m one two H L) (pk : pst ad h qq m two p) (v : vok m one two H L) (h1 : 0 ≤ p) (h2 : p < m 106) {k : Int} (h3 : 0 ≤ k) (h4 : k ≤ fd m p 4) (q : Q (.inl (some (.inl (bb (chs m p k))))) h) : tr_C E 34 [.inr (.inr nn), .inr (.inr qq), .inl (ii k)] h Q := by
  refine T_X2_chooses ok ?_
  obtain ⟨n0, n1, n2, ⟨sa, sb, sc⟩, ⟨ea, eb, ec⟩, ⟨ua, ub, uc⟩, ⟨ra, rb, rc⟩, ⟨ga, gb, g0, g1, g2, g3, g4⟩, nd⟩ := id n
  obtain ⟨vH, vL, vl, v0, v1, v2, v3, v4, v5, vr, vm, vp⟩ := id v
  have vx := mixA_rg (p := p) (k := k) v
  simp (disch := first | omega | decide | assumption | exact st_ne s0 (by decide) (by decide) (by decide) | exact dyn_ne (by assumption) (by decide) | fail) only [Int.reduceAdd, Int.reduceSub, Int.reduceNeg, ii_add, ii_sub, ii_mul, ii_lt, ii_le, ii_eq, ixn_ii, ixo_ii, rem_ii, nb_1, nb_0, nb_bb, bb_0, hI_gv, Int.toNat_of_nonneg, Int.cast_ofNat_Int, ht_sI, ht_sJ, ht_sR, hn_sI, hn_sJ, hn_sR, hR_sI, hR_sJ, kI_v, kV_v, kJ_v, true_and, and_true, forall_eq, tg, ln, rf, ne_eq, not_false_eq_true, forall_const, not_true_eq_false, false_implies, W_X2_chooses, n0]
  refine k_mixOf ok n pk v h1 h2 h3 h4 ?_
  simp (disch := first | omega | decide | assumption | exact st_ne s0 (by decide) (by decide) (by decide) | exact dyn_ne (by assumption) (by decide) | fail) only [Int.reduceAdd, Int.reduceSub, Int.reduceNeg, ii_add, ii_sub, ii_mul, ii_lt, ii_le, ii_eq, ixn_ii, ixo_ii, rem_ii, nb_1, nb_0, nb_bb, bb_0, hI_gv, Int.toNat_of_nonneg, Int.cast_ofNat_Int, ht_sI, ht_sJ, ht_sR, hn_sI, hn_sJ, hn_sR, hR_sI, hR_sJ, kI_v, kV_v, kJ_v, true_and, and_true, forall_eq, tg, ln, rf, ne_eq, not_false_eq_true, forall_const, not_true_eq_false, false_implies, n0, ga, gb, g0, g1, g2, g3, g4]
  unfold chs at q
  refine ⟨by omega, fun g => ?_, fun g => ?_⟩
  · rw [decide_eq_true g] at q; exact q
  · rw [decide_eq_false g] at q; exact q
theorem k_countChosen_4 (ok : tr_ok E) {p : Int} (n : nst ad h nn m one two H L) (pk : pst ad h qq m two p) (v : vok m one two H L) (h1 : 0 ≤ p) (h2 : p < m 106) : ∀ (k : Nat) (i a : Int), i + k = fd m p 6 + 1 → 0 ≤ i → 0 ≤ a → a ≤ i → Q (.inl (some (.inl (ii (a + sm (fun k => b2 (chs m p k)) i k))))) h → tr_G E 35 Q 4 [some (.inr (.inr nn)), some (.inr (.inr qq)), some (.inl (ii a)), some (.inl (ii i))] [] h 0 0
  | k, i, a, hk, g0, g1, g2, q => by
    refine T_X2_countChosen_4 ok ?_
    obtain ⟨q0, q1, q2, q3, q4, q5, q6, q7⟩ := v_p v h1 h2
    obtain ⟨k0, ka, kb, kc, kd, ke, kf, kg, kh, -⟩ := id pk
    simp (disch := first | omega | decide | assumption | exact st_ne s0 (by decide) (by decide) (by decide) | exact dyn_ne (by assumption) (by decide) | fail) only [Int.reduceAdd, Int.reduceSub, Int.reduceNeg, ii_add, ii_sub, ii_mul, ii_lt, ii_le, ii_eq, ixn_ii, ixo_ii, rem_ii, nb_1, nb_0, nb_bb, bb_0, hI_gv, Int.toNat_of_nonneg, Int.cast_ofNat_Int, ht_sI, ht_sJ, ht_sR, hn_sI, hn_sJ, hn_sR, hR_sI, hR_sJ, kI_v, kV_v, kJ_v, true_and, and_true, forall_eq, tg, ln, rf, ne_eq, not_false_eq_true, forall_const, not_true_eq_false, false_implies, W_X2_countChosen_4, k0, kg, n.1]
    refine ⟨fun g => ?_, fun g => ?_⟩
    · obtain ⟨k, rfl⟩ : ∃ n', k = n' + 1 := ⟨k - 1, by omega⟩
      rw [sm_s, ← Int.add_assoc] at q
      refine k_chooses ok n pk v h1 h2 (by omega) (by omega) ?_
      simp (disch := first | omega | decide | assumption | exact st_ne s0 (by decide) (by decide) (by decide) | exact dyn_ne (by assumption) (by decide) | fail) only [Int.reduceAdd, Int.reduceSub, Int.reduceNeg, ii_add, ii_sub, ii_mul, ii_lt, ii_le, ii_eq, ixn_ii, ixo_ii, rem_ii, nb_1, nb_0, nb_bb, bb_0, hI_gv, Int.toNat_of_nonneg, Int.cast_ofNat_Int, ht_sI, ht_sJ, ht_sR, hn_sI, hn_sJ, hn_sR, hR_sI, hR_sJ, kI_v, kV_v, kJ_v, true_and, and_true, forall_eq, tg, ln, rf, ne_eq, not_false_eq_true, forall_const, not_true_eq_false, false_implies]
      refine ⟨fun g3 => ?_, fun g3 => ?_⟩
      · refine k_countChosen_4 ok n pk v h1 h2 k (i + 1) _ (by omega) (by omega) (by omega) (by omega) ?_
        rw [g3] at q; exact q
      · rw [Bool.not_eq_false] at g3
        refine k_countChosen_4 ok n pk v h1 h2 k (i + 1) _ (by omega) (by omega) (by omega) (by omega) ?_
        rw [g3] at q; exact q
    · obtain rfl : k = 0 := by omega
      rw [sm_0, Int.add_zero] at q; exact q
theorem k_countChosen (ok : tr_ok E) {p : Int} (n : nst ad h nn m one two H L) (pk : pst ad h qq m two p) (v : vok m one two H L) (h1 : 0 ≤ p) (h2 : p < m 106) (q : Q (.inl (some (.inl (ii (cm m p))))) h) : tr_C E 35 [.inr (.inr nn), .inr (.inr qq)] h Q := by
  refine T_X2_countChosen ok ?_
  obtain ⟨q0, q1, q2, q3, q4, q5, q6, q7⟩ := v_p v h1 h2
  refine k_countChosen_4 ok n pk v h1 h2 (fd m p 6 + 1).toNat 0 0 (by omega) (by omega) (by omega) (by omega) ?_
  rw [Int.zero_add]; exact q
theorem k_labelOf (ok : tr_ok E) {p : Int} (n : nst ad h nn m one two H L) (pk : pst ad h qq m two p) (v : vok m one two H L) (q : Q (.inl (some (.inl (ii (lab m p))))) h) : tr_C E 36 [.inr (.inr nn), .inr (.inr qq)] h Q := by
  refine T_X2_labelOf ok ?_
  obtain ⟨n0, n1, n2, ⟨sa, sb, sc⟩, ⟨ea, eb, ec⟩, ⟨ua, ub, uc⟩, ⟨ra, rb, rc⟩, ⟨ga, gb, g0, g1, g2, g3, g4⟩, nd⟩ := id n
  obtain ⟨vH, vL, vl, v0, v1, v2, v3, v4, v5, vr, vm, vp⟩ := id v
  have vx := hsh_rg (m := m) (p := p)
  obtain ⟨k0, ka, kb, kc, kd, ke, kf, kg, kh, -⟩ := id pk
  simp (disch := first | omega | decide | assumption | exact st_ne s0 (by decide) (by decide) (by decide) | exact dyn_ne (by assumption) (by decide) | fail) only [Int.reduceAdd, Int.reduceSub, Int.reduceNeg, ii_add, ii_sub, ii_mul, ii_lt, ii_le, ii_eq, ixn_ii, ixo_ii, rem_ii, nb_1, nb_0, nb_bb, bb_0, hI_gv, Int.toNat_of_nonneg, Int.cast_ofNat_Int, ht_sI, ht_sJ, ht_sR, hn_sI, hn_sJ, hn_sR, hR_sI, hR_sJ, kI_v, kV_v, kJ_v, true_and, and_true, forall_eq, tg, ln, rf, ne_eq, not_false_eq_true, forall_const, not_true_eq_false, false_implies, W_X2_labelOf, n0, ga, gb, g0, g1, g2, g3, g4, k0, kf]
  exact ⟨by omega, fun g => by omega, fun g => ⟨by omega, by omega, q⟩⟩
end CLS
