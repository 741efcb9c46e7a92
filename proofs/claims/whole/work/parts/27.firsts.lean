/-! THE FIRSTS -/
def fis (ad : Nat → Nat) (h : tr_H) (m : Int → Int) (mk : Int) : Prop := gv h (ad 3) 3 = m 106 ∧ gv h (ad 3) 4 = m 2 ∧ gv h (ad 3) 5 = m 3 ∧ ∀ p, 0 ≤ p → p < m 106 → gv h (ad 19) p = mixB m p 0 mk ∧ gv h (ad 20) p = hsh m p
def chk (m : Int → Int) (mk key p : Int) : Bool := decide ((mixB m p 0 mk + key) % m 2 < m 3)
theorem chk_chs (m : Int → Int) (p : Int) : chk m (m 1) (m 4) p = chs m p 0 := rfl
section FI
variable {E : tr_Env} {ad : Nat → Nat} {h0 : tr_H} {Q : tr_Q} {m one two : Int → Int} {H L : Int} {ss : Nat}
theorem k_gatherF_36 (ok : tr_ok E) (t0 : stat ad h0) (c : cst ad h0 ss m one two H L) (v : vok m one two H L) {mk : Int} (m1 : 0 ≤ mk) (m2 : mk ≤ 31) (q : ∀ h', fr ad pC f0 false h0 h' → fis ad h' m mk → Q (.inl none) h') : ∀ (n : Nat) (i : Int) (h : tr_H), i + n = m 106 → 0 ≤ i → fr ad pC f0 false h0 h → gv h (ad 3) 3 = m 106 → gv h (ad 3) 4 = m 2 → gv h (ad 3) 5 = m 3 → (∀ p, 0 ≤ p → p < i → gv h (ad 19) p = mixB m p 0 mk ∧ gv h (ad 20) p = hsh m p) → tr_G E 1 Q 36 [some (.inr (.inr (ad 3))), some (.inr (.inr ss)), some (.inl (ii mk)), some (.inl (ii i))] [] h 0 0
  | n, i, h, hk, g0, a, e3, e4, e5, e6 => by
    refine T_X0_gather_36 ok ?_
    have s0 := st_fr t0 a
    have c1 := cst_fr t0 a pC_lt c
    obtain ⟨c0, nn, c2, c3, c4, c5⟩ := id c1
    have vm := v_m v
    have v2 := v_2 v
    simp (disch := first | omega | decide | assumption | exact st_ne s0 (by decide) (by decide) (by decide) | exact dyn_ne (by assumption) (by decide) | fail) only [Int.reduceAdd, Int.reduceSub, Int.reduceNeg, ii_add, ii_sub, ii_mul, ii_lt, ii_le, ii_eq, ixn_ii, ixo_ii, rem_ii, nb_1, nb_0, nb_bb, bb_0, hI_gv, Int.toNat_of_nonneg, Int.cast_ofNat_Int, ht_sI, ht_sJ, ht_sR, hn_sI, hn_sJ, hn_sR, hR_sI, hR_sJ, kI_v, kV_v, kJ_v, true_and, and_true, forall_eq, tg, ln, rf, ne_eq, not_false_eq_true, forall_const, not_true_eq_false, false_implies, W_X0_gather_36, st_t s0, st_n s0, st_r s0, c0, c2, c3, c4, e3, nn.1]
    refine ⟨fun g => ⟨by omega, ?_⟩, fun g => ?_⟩
    · obtain ⟨n, rfl⟩ : ∃ n', n = n' + 1 := ⟨n - 1, by omega⟩
      obtain ⟨q0, q1, q2, q3, q4, q5, q6, q7⟩ := v_p v g0 g
      have pk := c5 i g0 g
      have dq : dyn ad (hR h (hR h ss 1) i.toNat) := dyn_t s0 (by rw [pk.1]; decide) (by rw [pk.1]; decide)
      obtain ⟨k0, ka, kb, kc, kd, ke, kf, kg, kh, -⟩ := id pk
      have hx := mixB_rg (p := i) (k := 0) v mk
      have hy := hsh_rg (m := m) (p := i)
      refine k_bareMix ok nn pk v g0 g (by omega) (by omega) m1 m2 ?_
      simp (disch := first | omega | decide | assumption | exact st_ne s0 (by decide) (by decide) (by decide) | exact dyn_ne (by assumption) (by decide) | fail) only [Int.reduceAdd, Int.reduceSub, Int.reduceNeg, ii_add, ii_sub, ii_mul, ii_lt, ii_le, ii_eq, ixn_ii, ixo_ii, rem_ii, nb_1, nb_0, nb_bb, bb_0, hI_gv, Int.toNat_of_nonneg, Int.cast_ofNat_Int, ht_sI, ht_sJ, ht_sR, hn_sI, hn_sJ, hn_sR, hR_sI, hR_sJ, kI_v, kV_v, kJ_v, true_and, and_true, forall_eq, tg, ln, rf, ne_eq, not_false_eq_true, forall_const, not_true_eq_false, false_implies, st_t s0, st_n s0, st_r s0, c0, c2, c3, k0, kf, gv_sIn]
      refine ⟨by omega, by omega, by omega, ?_⟩
      refine k_gatherF_36 ok t0 c v m1 m2 q n (i + 1) _ (by omega) (by omega) (fr_sI (fr_sI a rfl) rfl) ?_ ?_ ?_ ?_
      · simp (disch := first | omega | decide | assumption | exact st_ne s0 (by decide) (by decide) (by decide) | exact dyn_ne (by assumption) (by decide) | fail) only [Int.reduceAdd, Int.reduceSub, Int.reduceNeg, ii_add, ii_sub, ii_mul, ii_lt, ii_le, ii_eq, ixn_ii, ixo_ii, rem_ii, nb_1, nb_0, nb_bb, bb_0, hI_gv, Int.toNat_of_nonneg, Int.cast_ofNat_Int, ht_sI, ht_sJ, ht_sR, hn_sI, hn_sJ, hn_sR, hR_sI, hR_sJ, kI_v, kV_v, kJ_v, true_and, and_true, forall_eq, tg, ln, rf, ne_eq, not_false_eq_true, forall_const, not_true_eq_false, false_implies, gv_sIn, e3]
      · simp (disch := first | omega | decide | assumption | exact st_ne s0 (by decide) (by decide) (by decide) | exact dyn_ne (by assumption) (by decide) | fail) only [Int.reduceAdd, Int.reduceSub, Int.reduceNeg, ii_add, ii_sub, ii_mul, ii_lt, ii_le, ii_eq, ixn_ii, ixo_ii, rem_ii, nb_1, nb_0, nb_bb, bb_0, hI_gv, Int.toNat_of_nonneg, Int.cast_ofNat_Int, ht_sI, ht_sJ, ht_sR, hn_sI, hn_sJ, hn_sR, hR_sI, hR_sJ, kI_v, kV_v, kJ_v, true_and, and_true, forall_eq, tg, ln, rf, ne_eq, not_false_eq_true, forall_const, not_true_eq_false, false_implies, gv_sIn, e4]
      · simp (disch := first | omega | decide | assumption | exact st_ne s0 (by decide) (by decide) (by decide) | exact dyn_ne (by assumption) (by decide) | fail) only [Int.reduceAdd, Int.reduceSub, Int.reduceNeg, ii_add, ii_sub, ii_mul, ii_lt, ii_le, ii_eq, ixn_ii, ixo_ii, rem_ii, nb_1, nb_0, nb_bb, bb_0, hI_gv, Int.toNat_of_nonneg, Int.cast_ofNat_Int, ht_sI, ht_sJ, ht_sR, hn_sI, hn_sJ, hn_sR, hR_sI, hR_sJ, kI_v, kV_v, kJ_v, true_and, and_true, forall_eq, tg, ln, rf, ne_eq, not_false_eq_true, forall_const, not_true_eq_false, false_implies, gv_sIn, e5]
      · intro p p0 p1
        simp (disch := first | omega | decide | assumption | exact st_ne s0 (by decide) (by decide) (by decide) | exact dyn_ne (by assumption) (by decide) | fail) only [Int.reduceAdd, Int.reduceSub, Int.reduceNeg, ii_add, ii_sub, ii_mul, ii_lt, ii_le, ii_eq, ixn_ii, ixo_ii, rem_ii, nb_1, nb_0, nb_bb, bb_0, hI_gv, Int.toNat_of_nonneg, Int.cast_ofNat_Int, ht_sI, ht_sJ, ht_sR, hn_sI, hn_sJ, hn_sR, hR_sI, hR_sJ, kI_v, kV_v, kJ_v, true_and, and_true, forall_eq, tg, ln, rf, ne_eq, not_false_eq_true, forall_const, not_true_eq_false, false_implies, gv_sIn, gv_sIi]
        by_cases ep : p = i
        · subst ep
          exact ⟨ud_eq _ _ _, ud_eq _ _ _⟩
        · rw [ud_ne ep, ud_ne ep]
          exact e6 p p0 (by omega)
    · obtain rfl : n = 0 := by omega
      exact q h a ⟨e3, e4, e5, fun p p0 p1 => e6 p p0 (by omega)⟩
theorem k_gatherF (ok : tr_ok E) (s0 : stat ad h0) (c : cst ad h0 ss m one two H L) (v : vok m one two H L) {mk : Int} (m1 : 0 ≤ mk) (m2 : mk ≤ 31) (q : ∀ h', fr ad pC f0 false h0 h' → fis ad h' m mk → Q (.inl none) h') : tr_C E 1 [.inr (.inr (ad 3)), .inr (.inr ss), .inl (ii mk)] h0 Q := by
  refine T_X0_gather ok ?_
  obtain ⟨c0, n, c2, c3, c4, c5⟩ := id c
  obtain ⟨n0, n1, n2, ⟨sa, sb, sc⟩, ⟨ea, eb, ec⟩, ⟨ua, ub, uc⟩, ⟨ra, rb, rc⟩, ⟨ga, gb, g0, g1, g2, g3, g4⟩, nd⟩ := id n
  obtain ⟨vH, vL, vl, v0, v1, v2, v3, v4, v5, vr, vm, vp⟩ := id v
  obtain ⟨d2, d3, d4, d5, d6⟩ := nd
  have ds : dyn ad ss := dyn_t s0 (by rw [c0]; decide) (by rw [c0]; decide)
  simp (disch := first | omega | decide | assumption | exact st_ne s0 (by decide) (by decide) (by decide) | exact dyn_ne (by assumption) (by decide) | fail) only [Int.reduceAdd, Int.reduceSub, Int.reduceNeg, ii_add, ii_sub, ii_mul, ii_lt, ii_le, ii_eq, ixn_ii, ixo_ii, rem_ii, nb_1, nb_0, nb_bb, bb_0, hI_gv, Int.toNat_of_nonneg, Int.cast_ofNat_Int, ht_sI, ht_sJ, ht_sR, hn_sI, hn_sJ, hn_sR, hR_sI, hR_sJ, kI_v, kV_v, kJ_v, true_and, and_true, forall_eq, tg, ln, rf, ne_eq, not_false_eq_true, forall_const, not_true_eq_false, false_implies, W_X0_gather, st_t s0, st_n s0, st_r s0, c0, c4, n0, ga, gb, g1, g2, gv_sIn]
  refine ⟨by omega, by omega, ?_⟩
  refine k_gatherF_36 ok s0 c v m1 m2 q (m 106).toNat 0 _ (by omega) (by omega) (fr_sI (fr_sI (fr_sI fr_rfl rfl) rfl) rfl) ?_ ?_ ?_ ?_
  · simp (disch := first | omega | decide | assumption | exact st_ne s0 (by decide) (by decide) (by decide) | exact dyn_ne (by assumption) (by decide) | fail) only [Int.reduceAdd, Int.reduceSub, Int.reduceNeg, ii_add, ii_sub, ii_mul, ii_lt, ii_le, ii_eq, ixn_ii, ixo_ii, rem_ii, nb_1, nb_0, nb_bb, bb_0, hI_gv, Int.toNat_of_nonneg, Int.cast_ofNat_Int, ht_sI, ht_sJ, ht_sR, hn_sI, hn_sJ, hn_sR, hR_sI, hR_sJ, kI_v, kV_v, kJ_v, true_and, and_true, forall_eq, tg, ln, rf, ne_eq, not_false_eq_true, forall_const, not_true_eq_false, false_implies, gv_sIi]
    rfl
  · simp (disch := first | omega | decide | assumption | exact st_ne s0 (by decide) (by decide) (by decide) | exact dyn_ne (by assumption) (by decide) | fail) only [Int.reduceAdd, Int.reduceSub, Int.reduceNeg, ii_add, ii_sub, ii_mul, ii_lt, ii_le, ii_eq, ixn_ii, ixo_ii, rem_ii, nb_1, nb_0, nb_bb, bb_0, hI_gv, Int.toNat_of_nonneg, Int.cast_ofNat_Int, ht_sI, ht_sJ, ht_sR, hn_sI, hn_sJ, hn_sR, hR_sI, hR_sJ, kI_v, kV_v, kJ_v, true_and, and_true, forall_eq, tg, ln, rf, ne_eq, not_false_eq_true, forall_const, not_true_eq_false, false_implies, gv_sIi]
    rfl
  · simp (disch := first | omega | decide | assumption | exact st_ne s0 (by decide) (by decide) (by decide) | exact dyn_ne (by assumption) (by decide) | fail) only [Int.reduceAdd, Int.reduceSub, Int.reduceNeg, ii_add, ii_sub, ii_mul, ii_lt, ii_le, ii_eq, ixn_ii, ixo_ii, rem_ii, nb_1, nb_0, nb_bb, bb_0, hI_gv, Int.toNat_of_nonneg, Int.cast_ofNat_Int, ht_sI, ht_sJ, ht_sR, hn_sI, hn_sJ, hn_sR, hR_sI, hR_sJ, kI_v, kV_v, kJ_v, true_and, and_true, forall_eq, tg, ln, rf, ne_eq, not_false_eq_true, forall_const, not_true_eq_false, false_implies, gv_sIi]
    rfl
  · intro p p0 p1; omega
theorem k_isChosenF (ok : tr_ok E) {h : tr_H} (s0 : stat ad h) {mk : Int} (f : fis ad h m mk) (v : vok m one two H L) {p key : Int} (h1 : 0 ≤ p) (h2 : p < m 106) (h3 : 0 ≤ key) (h4 : key < m 2) (q : Q (.inl (some (.inl (bb (chk m mk key p))))) h) : tr_C E 2 [.inr (.inr (ad 3)), .inl (ii p), .inl (ii key)] h Q := by
  refine T_X0_isChosen ok ?_
  obtain ⟨vH, vL, vl, v0, v1, v2, v3, v4, v5, vr, vm, vp⟩ := id v
  obtain ⟨e3, e4, e5, e6⟩ := f
  obtain ⟨e7, -⟩ := e6 p h1 h2
  have hx := mixB_rg (p := p) (k := 0) v mk
  simp (disch := first | omega | decide | assumption | exact st_ne s0 (by decide) (by decide) (by decide) | exact dyn_ne (by assumption) (by decide) | fail) only [Int.reduceAdd, Int.reduceSub, Int.reduceNeg, ii_add, ii_sub, ii_mul, ii_lt, ii_le, ii_eq, ixn_ii, ixo_ii, rem_ii, nb_1, nb_0, nb_bb, bb_0, hI_gv, Int.toNat_of_nonneg, Int.cast_ofNat_Int, ht_sI, ht_sJ, ht_sR, hn_sI, hn_sJ, hn_sR, hR_sI, hR_sJ, kI_v, kV_v, kJ_v, true_and, and_true, forall_eq, tg, ln, rf, ne_eq, not_false_eq_true, forall_const, not_true_eq_false, false_implies, W_X0_isChosen, st_t s0, st_n s0, st_r s0, e3, e4, e5, e7]
  unfold chk at q
  refine ⟨by omega, fun g => ⟨fun g2 => ?_, fun g2 => ?_⟩, fun g => ⟨fun g2 => ?_, fun g2 => ?_⟩⟩
  · rw [Int.emod_eq_of_lt (by omega) g, decide_eq_true g2] at q; exact q
  · rw [Int.emod_eq_of_lt (by omega) g, decide_eq_false g2] at q; exact q
  · have e : mixB m p 0 mk + key = (mixB m p 0 mk + key - m 2) + m 2 := by omega
    rw [e, Int.add_emod_right, Int.emod_eq_of_lt (by omega) (by omega), decide_eq_true g2] at q; exact q
  · have e : mixB m p 0 mk + key = (mixB m p 0 mk + key - m 2) + m 2 := by omega
    rw [e, Int.add_emod_right, Int.emod_eq_of_lt (by omega) (by omega), decide_eq_false g2] at q; exact q
end FI
