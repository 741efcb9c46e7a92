/-! JOINING, BY THE CLASS: the search, gone through -/
def cKo (E : tr_Env) (ad : Nat → Nat) (m one two : Int → Int) (H L : Int) (nn : Nat) (n : Nat) : Prop := ∀ (nd : Nd) (a : Ac) (h : tr_H) (t : Int) (Q : tr_Q), nok one two H L 1 nd → nd.ea + nd.cb < n → aok H L 1 a → ovr a = false → stat ad h → nst ad h nn m one two H L → csA ad h nd → gv h (ad 10) nd.d = sv nd → acK ad h a → 0 ≤ t → t + nd.d ≤ 2 * a.st → (ovr (goP one two H L n nd a) = false → ∀ (h' : tr_H) (t' x : Int), fr ad pC f0 false h h' → csA ad h' nd → acK ad h' (goP one two H L n nd a) → agD ad nd.d h h' → gv h' (ad 10) nd.d = x → -1 ≤ x → x < L → (∀ l, x < l → l < L → ¬ (one l = nd.pl ∧ nd.B l ≠ 0)) → 0 ≤ t' → t' + nd.d ≤ 2 * (goP one two H L n nd a).st → tr_G E 11 Q 49 [some (.inr (.inr (ad 2))), some (.inr (.inr nn)), some (.inl (ii nd.d)), some (.inl (ii t')), none] [] h' 0 0) → (ovr (goP one two H L n nd a) = true → ∀ h', fr ad pC f0 false h h' → gv h' (ad 2) 9 = -2 → Q (.inl none) h') → tr_G E 11 Q 49 [some (.inr (.inr (ad 2))), some (.inr (.inr nn)), some (.inl (ii nd.d)), some (.inl (ii t)), none] [] h 0 0
section DFK5
variable {E : tr_Env} {ad : Nat → Nat} {h h0 h1 h2 : tr_H} {Q : tr_Q} {m one two : Int → Int} {H L : Int} {nd : Nd} {a : Ac} {nn : Nat} {d : Int}
theorem ovr_st (o : ovr a = false) (k : aok H L 1 a) : 0 ≤ a.st ∧ a.st ≤ 5000 := by
  unfold ovr at o
  rw [decide_eq_false_iff_not] at o
  have := k.1
  omega
theorem up_ov (k : aok H L 1 a) (o : ovr a = false) : ovr a.up = decide (a.st = 5000) := by
  have := ovr_st o k
  unfold ovr
  show decide (5000 < a.st + 1) = _
  exact decide_eq_decide.mpr ⟨fun e => by omega, fun e => by omega⟩
/-- a move is put -/
theorem put_mv (s0 : stat ad h) (v : vok m one two H L) (k : nok one two H L 1 nd) (cs : csA ad h nd) (ra : acK ad h a) (ka : aok H L 1 a) {r : Int} (r0 : -1 ≤ r) (r1 : r < 24) : fr ad pC f0 false h (hsI (hsI h (ad 2) 8 (ii (a.st + 1))) (ad 10) nd.d.toNat (ii r)) ∧ csA ad (hsI (hsI h (ad 2) 8 (ii (a.st + 1))) (ad 10) nd.d.toNat (ii r)) nd ∧ gv (hsI (hsI h (ad 2) 8 (ii (a.st + 1))) (ad 10) nd.d.toNat (ii r)) (ad 10) nd.d = r ∧ acK ad (hsI (hsI h (ad 2) 8 (ii (a.st + 1))) (ad 10) nd.d.toNat (ii r)) a.up ∧ agD ad 520 h (hsI (hsI h (ad 2) 8 (ii (a.st + 1))) (ad 10) nd.d.toNat (ii r)) := by
  obtain ⟨b1, b2, b3, b4, b5, b6, b7⟩ := n_rg v (by decide) k
  have k1 := ka.1
  have z2 : ∀ w, ud (gv h (ad 2)) 8 w 2 = gv h (ad 2) 2 := fun w => ud_ne (by decide)
  have z3 : ∀ w, ud (gv h (ad 2)) 8 w 3 = gv h (ad 2) 3 := fun w => ud_ne (by decide)
  have z8 : ∀ w, ud (gv h (ad 2)) 8 w 8 = w := fun w => ud_eq _ _ _
  have z9 : ∀ w, ud (gv h (ad 2)) 8 w 9 = gv h (ad 2) 9 := fun w => ud_ne (by decide)
  have z10 : ∀ w, ud (gv h (ad 2)) 8 w 10 = gv h (ad 2) 10 := fun w => ud_ne (by decide)
  refine ⟨fr_sI (fr_sI fr_rfl rfl) rfl, ?_, ?_, ?_, ?_⟩
  · unfold csA
    simp (disch := first | omega | decide | assumption | exact st_ne s0 (by decide) (by decide) (by decide) | exact dyn_ne (by assumption) (by decide) | fail) only [Int.reduceAdd, Int.reduceSub, Int.reduceNeg, ii_add, ii_sub, ii_mul, ii_lt, ii_le, ii_eq, ixn_ii, ixo_ii, rem_ii, nb_1, nb_0, nb_bb, bb_0, hI_gv, Int.toNat_of_nonneg, Int.cast_ofNat_Int, ht_sI, ht_sJ, ht_sR, hn_sI, hn_sJ, hn_sR, hR_sI, hR_sJ, kI_v, kV_v, kJ_v, true_and, and_true, forall_eq, tg, ln, rf, ne_eq, not_false_eq_true, forall_const, not_true_eq_false, false_implies, gv_sIn, gv_sIi, z2, z3]
    obtain ⟨c1, c2, c3, c4, c5, c6, c7, c8, c9⟩ := id cs
    exact ⟨c1, c2, c3, c4, fun j j0 j1 => (ud_ne (by omega)).trans (c5 j j0 j1), c6, c7, c8, c9⟩
  · simp (disch := first | omega | decide | assumption | exact st_ne s0 (by decide) (by decide) (by decide) | exact dyn_ne (by assumption) (by decide) | fail) only [Int.reduceAdd, Int.reduceSub, Int.reduceNeg, ii_add, ii_sub, ii_mul, ii_lt, ii_le, ii_eq, ixn_ii, ixo_ii, rem_ii, nb_1, nb_0, nb_bb, bb_0, hI_gv, Int.toNat_of_nonneg, Int.cast_ofNat_Int, ht_sI, ht_sJ, ht_sR, hn_sI, hn_sJ, hn_sR, hR_sI, hR_sJ, kI_v, kV_v, kJ_v, true_and, and_true, forall_eq, tg, ln, rf, ne_eq, not_false_eq_true, forall_const, not_true_eq_false, false_implies, gv_sIn, gv_sIi]
    exact ud_eq _ _ _
  · unfold acK
    simp (disch := first | omega | decide | assumption | exact st_ne s0 (by decide) (by decide) (by decide) | exact dyn_ne (by assumption) (by decide) | fail) only [Int.reduceAdd, Int.reduceSub, Int.reduceNeg, ii_add, ii_sub, ii_mul, ii_lt, ii_le, ii_eq, ixn_ii, ixo_ii, rem_ii, nb_1, nb_0, nb_bb, bb_0, hI_gv, Int.toNat_of_nonneg, Int.cast_ofNat_Int, ht_sI, ht_sJ, ht_sR, hn_sI, hn_sJ, hn_sR, hR_sI, hR_sJ, kI_v, kV_v, kJ_v, true_and, and_true, forall_eq, tg, ln, rf, ne_eq, not_false_eq_true, forall_const, not_true_eq_false, false_implies, gv_sIn, gv_sIi, z8, z9, z10]
    obtain ⟨a1, a2, a3, a4⟩ := ra
    exact ⟨rfl, a2, a3, a4⟩
  · intro j j0 j1
    simp (disch := first | omega | decide | assumption | exact st_ne s0 (by decide) (by decide) (by decide) | exact dyn_ne (by assumption) (by decide) | fail) only [Int.reduceAdd, Int.reduceSub, Int.reduceNeg, ii_add, ii_sub, ii_mul, ii_lt, ii_le, ii_eq, ixn_ii, ixo_ii, rem_ii, nb_1, nb_0, nb_bb, bb_0, hI_gv, Int.toNat_of_nonneg, Int.cast_ofNat_Int, ht_sI, ht_sJ, ht_sR, hn_sI, hn_sJ, hn_sR, hR_sI, hR_sJ, kI_v, kV_v, kJ_v, true_and, and_true, forall_eq, tg, ln, rf, ne_eq, not_false_eq_true, forall_const, not_true_eq_false, false_implies, gv_sIn, gv_sIi]
/-- back from a link -/
theorem k_back_L (ok : tr_ok E) (s0 : stat ad h) (n : nst ad h nn m one two H L) (v : vok m one two H L) (k : nok one two H L 1 nd) {l : Int} (l0 : 0 ≤ l) (l1 : l < L) (l2 : nd.B l ≠ 0) (cs : csA ad h (ndL two nd l)) {x t : Int} (hx : gv h (ad 10) (nd.d + 1) = x) (x0 : -1 ≤ x) (x1 : x < L) (x2 : ∀ i, x < i → i < L → ¬ (one i = two l ∧ ud nd.B l (nd.B l - 1) i ≠ 0)) (t0 : 0 ≤ t) (t1 : t ≤ 10002) (p1 : gv h (ad 11) nd.d = nd.pl) (p2 : gv h (ad 13) nd.d = if nd.al then nd.bg (nd.w - 1) + mn nd else -1) (q : ∀ h', fr ad pC f0 false h h' → csA ad h' nd → gv h' (ad 10) nd.d = l → agK ad h h' → agD ad 520 h h' → tr_G E 11 Q 49 [some (.inr (.inr (ad 2))), some (.inr (.inr nn)), some (.inl (ii nd.d)), some (.inl (ii (t + 1))), none] [] h' 0 0) : tr_G E 11 Q 49 [some (.inr (.inr (ad 2))), some (.inr (.inr nn)), some (.inl (ii (nd.d + 1))), some (.inl (ii t)), none] [] h 0 0 := by
  refine T_X1_join_49 ok ?_
  have vL := v_L v
  have hv := v_l v l0 l1
  obtain ⟨b1, b2, b3, b4, b5, b6, b7⟩ := n_rg v (by decide) k
  have kl := nok_L (two := two) vL.2 k l0 l1 l2 hv.2.2
  obtain ⟨d1, d2, d3, d4, d5, d6, d7⟩ := n_rg v (by decide) kl
  have d5 : nd.ea + (nd.cb - 1) + (nd.d + 1) + 1 ≤ 520 := d5
  have d2 : 0 ≤ nd.cb - 1 := d2
  have ed : nd.d + 1 + -1 = nd.d := by omega
  simp (disch := first | omega | decide | assumption | exact st_ne s0 (by decide) (by decide) (by decide) | exact dyn_ne (by assumption) (by decide) | fail) only [Int.reduceAdd, Int.reduceSub, Int.reduceNeg, ii_add, ii_sub, ii_mul, ii_lt, ii_le, ii_eq, ixn_ii, ixo_ii, rem_ii, nb_1, nb_0, nb_bb, bb_0, hI_gv, Int.toNat_of_nonneg, Int.cast_ofNat_Int, ht_sI, ht_sJ, ht_sR, hn_sI, hn_sJ, hn_sR, hR_sI, hR_sJ, kI_v, kV_v, kJ_v, true_and, and_true, forall_eq, tg, ln, rf, ne_eq, not_false_eq_true, forall_const, not_true_eq_false, false_implies, W_X1_join_49, st_t s0, ed]
  refine ⟨fun _ => ⟨fun g => by omega, fun _ => ⟨fun _ => ?_, fun g => absurd (by omega) g⟩⟩, fun g => absurd t1 g⟩
  refine k_nextMove (nd := ndL two nd l) ok s0 n v kl cs hx (by omega) x1 ?_
  have e9 : fnl one (ndL two nd l).B (ndL two nd l).pl (x + 1) (L - (x + 1)).toNat = -9 := by
    rcases fnl_rg (one := one) (B := (ndL two nd l).B) (pl := (ndL two nd l).pl) (L - (x + 1)).toNat (x + 1) (by omega) with e | e
    · exact e.1
    · exact absurd ⟨e.2.2.1, Int.ne_of_gt e.2.2.2⟩ (x2 _ (by omega) (by omega))
  rw [if_neg (by omega), e9]
  simp (disch := first | omega | decide | assumption | exact st_ne s0 (by decide) (by decide) (by decide) | exact dyn_ne (by assumption) (by decide) | fail) only [Int.reduceAdd, Int.reduceSub, Int.reduceNeg, ii_add, ii_sub, ii_mul, ii_lt, ii_le, ii_eq, ixn_ii, ixo_ii, rem_ii, nb_1, nb_0, nb_bb, bb_0, hI_gv, Int.toNat_of_nonneg, Int.cast_ofNat_Int, ht_sI, ht_sJ, ht_sR, hn_sI, hn_sJ, hn_sR, hR_sI, hR_sJ, kI_v, kV_v, kJ_v, true_and, and_true, forall_eq, tg, ln, rf, ne_eq, not_false_eq_true, forall_const, not_true_eq_false, false_implies, Int.reduceEq, Int.reduceLT, Int.reduceLE, implies_true, and_self, reduceCtorEq, false_and, st_t s0]
  exact k_takeBack_L ok s0 v k l0 l1 l2 cs p1 p2 q
theorem k_back_X (ok : tr_ok E) (s0 : stat ad h) (n : nst ad h nn m one two H L) (v : vok m one two H L) (k : nok one two H L 1 nd) (hea : 0 < nd.ea) {y : Int} (y0 : 0 ≤ y) (y1 : y < H) (y2 : nd.A y ≠ 0) (cs : csA ad h (ndO (ndX nd) y)) {x t : Int} (hx : gv h (ad 10) (nd.d + 1) = x) (x0 : -1 ≤ x) (x1 : x < L) (x2 : ∀ i, x < i → i < L → ¬ (one i = y ∧ nd.B i ≠ 0)) (t0 : 0 ≤ t) (t1 : t ≤ 10002) (p1 : gv h (ad 11) nd.d = nd.pl) (p2 : gv h (ad 13) nd.d = if nd.al then nd.bg (nd.w - 1) + mn nd else -1) (q : ∀ h', fr ad pC f0 false h h' → csA ad h' nd → gv h' (ad 10) nd.d = -1 → agK ad h h' → agD ad 520 h h' → tr_G E 11 Q 49 [some (.inr (.inr (ad 2))), some (.inr (.inr nn)), some (.inl (ii nd.d)), some (.inl (ii (t + 1))), none] [] h' 0 0) : tr_G E 11 Q 49 [some (.inr (.inr (ad 2))), some (.inr (.inr nn)), some (.inl (ii (nd.d + 1))), some (.inl (ii t)), none] [] h 0 0 := by
  refine T_X1_join_49 ok ?_
  have vL := v_L v
  have vH := v_H v
  obtain ⟨b1, b2, b3, b4, b5, b6, b7⟩ := n_rg v (by decide) k
  have kl := nok_O (by omega) vH.2 (nok_X vH.2 k) y0 y1 y2
  have ed : nd.d + 1 + -1 = nd.d := by omega
  simp (disch := first | omega | decide | assumption | exact st_ne s0 (by decide) (by decide) (by decide) | exact dyn_ne (by assumption) (by decide) | fail) only [Int.reduceAdd, Int.reduceSub, Int.reduceNeg, ii_add, ii_sub, ii_mul, ii_lt, ii_le, ii_eq, ixn_ii, ixo_ii, rem_ii, nb_1, nb_0, nb_bb, bb_0, hI_gv, Int.toNat_of_nonneg, Int.cast_ofNat_Int, ht_sI, ht_sJ, ht_sR, hn_sI, hn_sJ, hn_sR, hR_sI, hR_sJ, kI_v, kV_v, kJ_v, true_and, and_true, forall_eq, tg, ln, rf, ne_eq, not_false_eq_true, forall_const, not_true_eq_false, false_implies, W_X1_join_49, st_t s0, ed]
  refine ⟨fun _ => ⟨fun g => by omega, fun _ => ⟨fun _ => ?_, fun g => absurd (by omega) g⟩⟩, fun g => absurd t1 g⟩
  refine k_nextMove (nd := ndO (ndX nd) y) ok s0 n v kl cs hx (by omega) x1 ?_
  have e9 : fnl one (ndO (ndX nd) y).B (ndO (ndX nd) y).pl (x + 1) (L - (x + 1)).toNat = -9 := by
    rcases fnl_rg (one := one) (B := (ndO (ndX nd) y).B) (pl := (ndO (ndX nd) y).pl) (L - (x + 1)).toNat (x + 1) (by omega) with e | e
    · exact e.1
    · exact absurd ⟨e.2.2.1, Int.ne_of_gt e.2.2.2⟩ (x2 _ (by omega) (by omega))
  rw [if_neg (by omega), e9]
  simp (disch := first | omega | decide | assumption | exact st_ne s0 (by decide) (by decide) (by decide) | exact dyn_ne (by assumption) (by decide) | fail) only [Int.reduceAdd, Int.reduceSub, Int.reduceNeg, ii_add, ii_sub, ii_mul, ii_lt, ii_le, ii_eq, ixn_ii, ixo_ii, rem_ii, nb_1, nb_0, nb_bb, bb_0, hI_gv, Int.toNat_of_nonneg, Int.cast_ofNat_Int, ht_sI, ht_sJ, ht_sR, hn_sI, hn_sJ, hn_sR, hR_sI, hR_sJ, kI_v, kV_v, kJ_v, true_and, and_true, forall_eq, tg, ln, rf, ne_eq, not_false_eq_true, forall_const, not_true_eq_false, false_implies, Int.reduceEq, Int.reduceLT, Int.reduceLE, implies_true, and_self, reduceCtorEq, false_and, st_t s0]
  exact k_takeBack_X ok s0 v k hea y0 y1 cs p1 p2 q
end DFK5
