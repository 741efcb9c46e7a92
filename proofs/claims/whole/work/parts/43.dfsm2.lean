/-! JOINING, BY THE REFERENCE: its methods -/
section DFM2
variable {E : tr_Env} {ad : Nat → Nat} {h h0 : tr_H} {Q : tr_Q} {m one two : Int → Int} {H L : Int} {nd : Nd} {a : Ac}
theorem n_rg {c : Int} (v : vok m one two H L) (c0 : 0 ≤ c) (n : nok one two H L c nd) : 0 ≤ nd.ea ∧ 0 ≤ nd.cb ∧ 0 ≤ nd.w ∧ nd.w + nd.ea + c ≤ 40 ∧ nd.ea + nd.cb + nd.d + c ≤ 520 ∧ nd.w ≤ nd.bg nd.w ∧ nd.bg nd.w ≤ nd.d := by
  have vH := v_H v
  have vL := v_L v
  exact ⟨n_ea n vH.2, n_cb n vL.2, n.w0, n.t2, n.t1, (n_b0 n n.w0 (Int.le_refl _)).1, n.g2⟩
theorem c_takes_85 (ok : tr_ok E) (s : stat ad h0) (v : vok m one two H L) {c : Int} (n : nok one two H L 0 nd) (r : rsA ad h0 nd 0) (q : ∀ h', fr ad pT fT false h0 h' → gv h' (ad 23) 34 = c → gv h' (ad 23) 35 = nd.w → (∀ k, 0 ≤ k → k < nd.w → gv h' (ad 39) k = nd.hp k) → (∀ k, 0 ≤ k → k ≤ nd.w → gv h' (ad 40) k = nd.bg k - k) → (∀ j, 0 ≤ j → j < nd.d - nd.w → gv h' (ad 41) j = gv h0 (ad 38) j) → Q (.inl none) h') : ∀ (m : Nat) (i : Int) (h : tr_H), i + m = nd.d - nd.w → 0 ≤ i → fr ad pT fT false h0 h → gv h (ad 23) 34 = c → gv h (ad 23) 35 = nd.w → (∀ k, 0 ≤ k → k < nd.w → gv h (ad 39) k = nd.hp k) → (∀ k, 0 ≤ k → k ≤ nd.w → gv h (ad 40) k = nd.bg k - k) → (∀ j, 0 ≤ j → j < i → gv h (ad 41) j = gv h0 (ad 38) j) → tr_G E 177 Q 85 [some (.inr (.inr (ad 23))), some (.inl (ii i))] [] h 0 0
  | m, i, h, hm, i0, f, e1, e2, e3, e4, e5 => by
    refine T_X8_takesSet_85 ok ?_
    have s0 := st_fr s f
    have r1 := rsA_fr s f pT_lt rfl rfl rfl rfl rfl rfl rfl rfl r
    obtain ⟨-, -, -, r4, -, r6, -⟩ := id r1
    obtain ⟨b1, b2, b3, b4, b5, b6, b7⟩ := n_rg v (Int.le_refl _) n
    have r7 := r6 nd.w b3 (Int.le_refl _)
    have g3 := n.g3 rfl
    have rg := gv_rg h (ad 38) i
    have e38 : gv h (ad 38) = gv h0 (ad 38) := fr_gv s f (by decide) (by decide) rfl pT_lt
    simp (disch := first | omega | decide | assumption | exact st_ne s0 (by decide) (by decide) (by decide) | exact dyn_ne (by assumption) (by decide) | fail) only [Int.reduceAdd, Int.reduceSub, Int.reduceNeg, ii_add, ii_sub, ii_mul, ii_lt, ii_le, ii_eq, ixn_ii, ixo_ii, rem_ii, nb_1, nb_0, nb_bb, bb_0, hI_gv, Int.toNat_of_nonneg, Int.cast_ofNat_Int, ht_sI, ht_sJ, ht_sR, hn_sI, hn_sJ, hn_sR, hR_sI, hR_sJ, kI_v, kV_v, kJ_v, true_and, and_true, forall_eq, tg, ln, rf, ne_eq, not_false_eq_true, forall_const, not_true_eq_false, false_implies, W_X8_takesSet_85, st_t s0, st_n s0, st_r s0, r4, r7]
    refine ⟨by omega, fun g => ⟨by omega, by omega, ?_⟩, fun g => ?_⟩
    · obtain ⟨m, rfl⟩ : ∃ n', m = n' + 1 := ⟨m - 1, by omega⟩
      refine c_takes_85 ok s v n r q m (i + 1) _ (by omega) (by omega) (fr_sI f rfl) ?_ ?_ ?_ ?_ ?_
      · simp (disch := first | omega | decide | assumption | exact st_ne s0 (by decide) (by decide) (by decide) | exact dyn_ne (by assumption) (by decide) | fail) only [Int.reduceAdd, Int.reduceSub, Int.reduceNeg, ii_add, ii_sub, ii_mul, ii_lt, ii_le, ii_eq, ixn_ii, ixo_ii, rem_ii, nb_1, nb_0, nb_bb, bb_0, hI_gv, Int.toNat_of_nonneg, Int.cast_ofNat_Int, ht_sI, ht_sJ, ht_sR, hn_sI, hn_sJ, hn_sR, hR_sI, hR_sJ, kI_v, kV_v, kJ_v, true_and, and_true, forall_eq, tg, ln, rf, ne_eq, not_false_eq_true, forall_const, not_true_eq_false, false_implies, gv_sIn]
        exact e1
      · simp (disch := first | omega | decide | assumption | exact st_ne s0 (by decide) (by decide) (by decide) | exact dyn_ne (by assumption) (by decide) | fail) only [Int.reduceAdd, Int.reduceSub, Int.reduceNeg, ii_add, ii_sub, ii_mul, ii_lt, ii_le, ii_eq, ixn_ii, ixo_ii, rem_ii, nb_1, nb_0, nb_bb, bb_0, hI_gv, Int.toNat_of_nonneg, Int.cast_ofNat_Int, ht_sI, ht_sJ, ht_sR, hn_sI, hn_sJ, hn_sR, hR_sI, hR_sJ, kI_v, kV_v, kJ_v, true_and, and_true, forall_eq, tg, ln, rf, ne_eq, not_false_eq_true, forall_const, not_true_eq_false, false_implies, gv_sIn]
        exact e2
      · simp (disch := first | omega | decide | assumption | exact st_ne s0 (by decide) (by decide) (by decide) | exact dyn_ne (by assumption) (by decide) | fail) only [Int.reduceAdd, Int.reduceSub, Int.reduceNeg, ii_add, ii_sub, ii_mul, ii_lt, ii_le, ii_eq, ixn_ii, ixo_ii, rem_ii, nb_1, nb_0, nb_bb, bb_0, hI_gv, Int.toNat_of_nonneg, Int.cast_ofNat_Int, ht_sI, ht_sJ, ht_sR, hn_sI, hn_sJ, hn_sR, hR_sI, hR_sJ, kI_v, kV_v, kJ_v, true_and, and_true, forall_eq, tg, ln, rf, ne_eq, not_false_eq_true, forall_const, not_true_eq_false, false_implies, gv_sIn]
        exact e3
      · simp (disch := first | omega | decide | assumption | exact st_ne s0 (by decide) (by decide) (by decide) | exact dyn_ne (by assumption) (by decide) | fail) only [Int.reduceAdd, Int.reduceSub, Int.reduceNeg, ii_add, ii_sub, ii_mul, ii_lt, ii_le, ii_eq, ixn_ii, ixo_ii, rem_ii, nb_1, nb_0, nb_bb, bb_0, hI_gv, Int.toNat_of_nonneg, Int.cast_ofNat_Int, ht_sI, ht_sJ, ht_sR, hn_sI, hn_sJ, hn_sR, hR_sI, hR_sJ, kI_v, kV_v, kJ_v, true_and, and_true, forall_eq, tg, ln, rf, ne_eq, not_false_eq_true, forall_const, not_true_eq_false, false_implies, gv_sIn]
        exact e4
      · intro j j0 j1
        simp (disch := first | omega | decide | assumption | exact st_ne s0 (by decide) (by decide) (by decide) | exact dyn_ne (by assumption) (by decide) | fail) only [Int.reduceAdd, Int.reduceSub, Int.reduceNeg, ii_add, ii_sub, ii_mul, ii_lt, ii_le, ii_eq, ixn_ii, ixo_ii, rem_ii, nb_1, nb_0, nb_bb, bb_0, hI_gv, Int.toNat_of_nonneg, Int.cast_ofNat_Int, ht_sI, ht_sJ, ht_sR, hn_sI, hn_sJ, hn_sR, hR_sI, hR_sJ, kI_v, kV_v, kJ_v, true_and, and_true, forall_eq, tg, ln, rf, ne_eq, not_false_eq_true, forall_const, not_true_eq_false, false_implies, gv_sIi]
        by_cases e : j = i
        · subst e; rw [ud_eq, e38]
        · rw [ud_ne e]; exact e5 j j0 (by omega)
    · obtain rfl : m = 0 := by omega
      exact q h f e1 e2 e3 e4 (fun j j0 j1 => e5 j j0 (by omega))
theorem c_takes_57 (ok : tr_ok E) (s : stat ad h0) (v : vok m one two H L) {c : Int} (n : nok one two H L 0 nd) (r : rsA ad h0 nd 0) (q : ∀ h', fr ad pT fT false h0 h' → gv h' (ad 23) 34 = c → gv h' (ad 23) 35 = nd.w → (∀ k, 0 ≤ k → k < nd.w → gv h' (ad 39) k = nd.hp k) → (∀ k, 0 ≤ k → k ≤ nd.w → gv h' (ad 40) k = nd.bg k - k) → (∀ j, 0 ≤ j → j < nd.d - nd.w → gv h' (ad 41) j = gv h0 (ad 38) j) → Q (.inl none) h') : ∀ (m : Nat) (i : Int) (h : tr_H), i + m = nd.w + 1 → 0 ≤ i → fr ad pT fT false h0 h → gv h (ad 23) 34 = c → gv h (ad 23) 35 = nd.w → (∀ k, 0 ≤ k → k < nd.w → gv h (ad 39) k = nd.hp k) → (∀ k, 0 ≤ k → k < i → gv h (ad 40) k = nd.bg k - k) → tr_G E 177 Q 57 [some (.inr (.inr (ad 23))), some (.inl (ii i))] [] h 0 0
  | m, i, h, hm, i0, f, e1, e2, e3, e4 => by
    refine T_X8_takesSet_57 ok ?_
    have s0 := st_fr s f
    have r1 := rsA_fr s f pT_lt rfl rfl rfl rfl rfl rfl rfl rfl r
    obtain ⟨-, -, -, r4, -, r6, -⟩ := id r1
    obtain ⟨b1, b2, b3, b4, b5, b6, b7⟩ := n_rg v (Int.le_refl _) n
    have g3 := n.g3 rfl
    simp (disch := first | omega | decide | assumption | exact st_ne s0 (by decide) (by decide) (by decide) | exact dyn_ne (by assumption) (by decide) | fail) only [Int.reduceAdd, Int.reduceSub, Int.reduceNeg, ii_add, ii_sub, ii_mul, ii_lt, ii_le, ii_eq, ixn_ii, ixo_ii, rem_ii, nb_1, nb_0, nb_bb, bb_0, hI_gv, Int.toNat_of_nonneg, Int.cast_ofNat_Int, ht_sI, ht_sJ, ht_sR, hn_sI, hn_sJ, hn_sR, hR_sI, hR_sJ, kI_v, kV_v, kJ_v, true_and, and_true, forall_eq, tg, ln, rf, ne_eq, not_false_eq_true, forall_const, not_true_eq_false, false_implies, W_X8_takesSet_57, st_t s0, st_n s0, st_r s0, r4]
    refine ⟨fun g => ?_, fun g => ?_⟩
    · obtain ⟨m, rfl⟩ : ∃ n', m = n' + 1 := ⟨m - 1, by omega⟩
      have r7 := r6 i i0 g
      have r8 := n_b0 n i0 g
      simp (disch := first | omega | decide | assumption | exact st_ne s0 (by decide) (by decide) (by decide) | exact dyn_ne (by assumption) (by decide) | fail) only [Int.reduceAdd, Int.reduceSub, Int.reduceNeg, ii_add, ii_sub, ii_mul, ii_lt, ii_le, ii_eq, ixn_ii, ixo_ii, rem_ii, nb_1, nb_0, nb_bb, bb_0, hI_gv, Int.toNat_of_nonneg, Int.cast_ofNat_Int, ht_sI, ht_sJ, ht_sR, hn_sI, hn_sJ, hn_sR, hR_sI, hR_sJ, kI_v, kV_v, kJ_v, true_and, and_true, forall_eq, tg, ln, rf, ne_eq, not_false_eq_true, forall_const, not_true_eq_false, false_implies, r7]
      refine ⟨by omega, by omega, ?_⟩
      refine c_takes_57 ok s v n r q m (i + 1) _ (by omega) (by omega) (fr_sI f rfl) ?_ ?_ ?_ ?_
      · simp (disch := first | omega | decide | assumption | exact st_ne s0 (by decide) (by decide) (by decide) | exact dyn_ne (by assumption) (by decide) | fail) only [Int.reduceAdd, Int.reduceSub, Int.reduceNeg, ii_add, ii_sub, ii_mul, ii_lt, ii_le, ii_eq, ixn_ii, ixo_ii, rem_ii, nb_1, nb_0, nb_bb, bb_0, hI_gv, Int.toNat_of_nonneg, Int.cast_ofNat_Int, ht_sI, ht_sJ, ht_sR, hn_sI, hn_sJ, hn_sR, hR_sI, hR_sJ, kI_v, kV_v, kJ_v, true_and, and_true, forall_eq, tg, ln, rf, ne_eq, not_false_eq_true, forall_const, not_true_eq_false, false_implies, gv_sIn]
        exact e1
      · simp (disch := first | omega | decide | assumption | exact st_ne s0 (by decide) (by decide) (by decide) | exact dyn_ne (by assumption) (by decide) | fail) only [Int.reduceAdd, Int.reduceSub, Int.reduceNeg, ii_add, ii_sub, ii_mul, ii_lt, ii_le, ii_eq, ixn_ii, ixo_ii, rem_ii, nb_1, nb_0, nb_bb, bb_0, hI_gv, Int.toNat_of_nonneg, Int.cast_ofNat_Int, ht_sI, ht_sJ, ht_sR, hn_sI, hn_sJ, hn_sR, hR_sI, hR_sJ, kI_v, kV_v, kJ_v, true_and, and_true, forall_eq, tg, ln, rf, ne_eq, not_false_eq_true, forall_const, not_true_eq_false, false_implies, gv_sIn]
        exact e2
      · simp (disch := first | omega | decide | assumption | exact st_ne s0 (by decide) (by decide) (by decide) | exact dyn_ne (by assumption) (by decide) | fail) only [Int.reduceAdd, Int.reduceSub, Int.reduceNeg, ii_add, ii_sub, ii_mul, ii_lt, ii_le, ii_eq, ixn_ii, ixo_ii, rem_ii, nb_1, nb_0, nb_bb, bb_0, hI_gv, Int.toNat_of_nonneg, Int.cast_ofNat_Int, ht_sI, ht_sJ, ht_sR, hn_sI, hn_sJ, hn_sR, hR_sI, hR_sJ, kI_v, kV_v, kJ_v, true_and, and_true, forall_eq, tg, ln, rf, ne_eq, not_false_eq_true, forall_const, not_true_eq_false, false_implies, gv_sIn]
        exact e3
      · intro j j0 j1
        simp (disch := first | omega | decide | assumption | exact st_ne s0 (by decide) (by decide) (by decide) | exact dyn_ne (by assumption) (by decide) | fail) only [Int.reduceAdd, Int.reduceSub, Int.reduceNeg, ii_add, ii_sub, ii_mul, ii_lt, ii_le, ii_eq, ixn_ii, ixo_ii, rem_ii, nb_1, nb_0, nb_bb, bb_0, hI_gv, Int.toNat_of_nonneg, Int.cast_ofNat_Int, ht_sI, ht_sJ, ht_sR, hn_sI, hn_sJ, hn_sR, hR_sI, hR_sJ, kI_v, kV_v, kJ_v, true_and, and_true, forall_eq, tg, ln, rf, ne_eq, not_false_eq_true, forall_const, not_true_eq_false, false_implies, gv_sIi]
        by_cases e : j = i
        · subst e; rw [ud_eq]
        · rw [ud_ne e]; exact e4 j j0 (by omega)
    · exact c_takes_85 ok s v n r q (nd.d - nd.w).toNat 0 h (by omega) (by omega) f e1 e2 e3 (fun k k0 k1 => e4 k k0 (by omega)) (fun j j0 j1 => by omega)
theorem c_takes_29 (ok : tr_ok E) (s : stat ad h0) (v : vok m one two H L) {c : Int} (n : nok one two H L 0 nd) (r : rsA ad h0 nd 0) (q : ∀ h', fr ad pT fT false h0 h' → gv h' (ad 23) 34 = c → gv h' (ad 23) 35 = nd.w → (∀ k, 0 ≤ k → k < nd.w → gv h' (ad 39) k = nd.hp k) → (∀ k, 0 ≤ k → k ≤ nd.w → gv h' (ad 40) k = nd.bg k - k) → (∀ j, 0 ≤ j → j < nd.d - nd.w → gv h' (ad 41) j = gv h0 (ad 38) j) → Q (.inl none) h') : ∀ (m : Nat) (i : Int) (h : tr_H), i + m = nd.w → 0 ≤ i → fr ad pT fT false h0 h → gv h (ad 23) 34 = c → gv h (ad 23) 35 = nd.w → (∀ k, 0 ≤ k → k < i → gv h (ad 39) k = nd.hp k) → tr_G E 177 Q 29 [some (.inr (.inr (ad 23))), some (.inl (ii i))] [] h 0 0
  | m, i, h, hm, i0, f, e1, e2, e3 => by
    refine T_X8_takesSet_29 ok ?_
    have s0 := st_fr s f
    have r1 := rsA_fr s f pT_lt rfl rfl rfl rfl rfl rfl rfl rfl r
    obtain ⟨-, -, -, r4, r5, r6, -⟩ := id r1
    obtain ⟨b1, b2, b3, b4, b5, b6, b7⟩ := n_rg v (Int.le_refl _) n
    have vH := v_H v
    simp (disch := first | omega | decide | assumption | exact st_ne s0 (by decide) (by decide) (by decide) | exact dyn_ne (by assumption) (by decide) | fail) only [Int.reduceAdd, Int.reduceSub, Int.reduceNeg, ii_add, ii_sub, ii_mul, ii_lt, ii_le, ii_eq, ixn_ii, ixo_ii, rem_ii, nb_1, nb_0, nb_bb, bb_0, hI_gv, Int.toNat_of_nonneg, Int.cast_ofNat_Int, ht_sI, ht_sJ, ht_sR, hn_sI, hn_sJ, hn_sR, hR_sI, hR_sJ, kI_v, kV_v, kJ_v, true_and, and_true, forall_eq, tg, ln, rf, ne_eq, not_false_eq_true, forall_const, not_true_eq_false, false_implies, W_X8_takesSet_29, st_t s0, st_n s0, st_r s0, r4]
    refine ⟨fun g => ?_, fun g => ?_⟩
    · obtain ⟨m, rfl⟩ : ∃ n', m = n' + 1 := ⟨m - 1, by omega⟩
      have r7 := r5 i i0 (by omega)
      have r8 := n.p1 i i0 (by omega)
      simp (disch := first | omega | decide | assumption | exact st_ne s0 (by decide) (by decide) (by decide) | exact dyn_ne (by assumption) (by decide) | fail) only [Int.reduceAdd, Int.reduceSub, Int.reduceNeg, ii_add, ii_sub, ii_mul, ii_lt, ii_le, ii_eq, ixn_ii, ixo_ii, rem_ii, nb_1, nb_0, nb_bb, bb_0, hI_gv, Int.toNat_of_nonneg, Int.cast_ofNat_Int, ht_sI, ht_sJ, ht_sR, hn_sI, hn_sJ, hn_sR, hR_sI, hR_sJ, kI_v, kV_v, kJ_v, true_and, and_true, forall_eq, tg, ln, rf, ne_eq, not_false_eq_true, forall_const, not_true_eq_false, false_implies, r7]
      refine ⟨by omega, by omega, ?_⟩
      refine c_takes_29 ok s v n r q m (i + 1) _ (by omega) (by omega) (fr_sI f rfl) ?_ ?_ ?_
      · simp (disch := first | omega | decide | assumption | exact st_ne s0 (by decide) (by decide) (by decide) | exact dyn_ne (by assumption) (by decide) | fail) only [Int.reduceAdd, Int.reduceSub, Int.reduceNeg, ii_add, ii_sub, ii_mul, ii_lt, ii_le, ii_eq, ixn_ii, ixo_ii, rem_ii, nb_1, nb_0, nb_bb, bb_0, hI_gv, Int.toNat_of_nonneg, Int.cast_ofNat_Int, ht_sI, ht_sJ, ht_sR, hn_sI, hn_sJ, hn_sR, hR_sI, hR_sJ, kI_v, kV_v, kJ_v, true_and, and_true, forall_eq, tg, ln, rf, ne_eq, not_false_eq_true, forall_const, not_true_eq_false, false_implies, gv_sIn]
        exact e1
      · simp (disch := first | omega | decide | assumption | exact st_ne s0 (by decide) (by decide) (by decide) | exact dyn_ne (by assumption) (by decide) | fail) only [Int.reduceAdd, Int.reduceSub, Int.reduceNeg, ii_add, ii_sub, ii_mul, ii_lt, ii_le, ii_eq, ixn_ii, ixo_ii, rem_ii, nb_1, nb_0, nb_bb, bb_0, hI_gv, Int.toNat_of_nonneg, Int.cast_ofNat_Int, ht_sI, ht_sJ, ht_sR, hn_sI, hn_sJ, hn_sR, hR_sI, hR_sJ, kI_v, kV_v, kJ_v, true_and, and_true, forall_eq, tg, ln, rf, ne_eq, not_false_eq_true, forall_const, not_true_eq_false, false_implies, gv_sIn]
        exact e2
      · intro j j0 j1
        simp (disch := first | omega | decide | assumption | exact st_ne s0 (by decide) (by decide) (by decide) | exact dyn_ne (by assumption) (by decide) | fail) only [Int.reduceAdd, Int.reduceSub, Int.reduceNeg, ii_add, ii_sub, ii_mul, ii_lt, ii_le, ii_eq, ixn_ii, ixo_ii, rem_ii, nb_1, nb_0, nb_bb, bb_0, hI_gv, Int.toNat_of_nonneg, Int.cast_ofNat_Int, ht_sI, ht_sJ, ht_sR, hn_sI, hn_sJ, hn_sR, hR_sI, hR_sJ, kI_v, kV_v, kJ_v, true_and, and_true, forall_eq, tg, ln, rf, ne_eq, not_false_eq_true, forall_const, not_true_eq_false, false_implies, gv_sIi]
        by_cases e : j = i
        · subst e; rw [ud_eq]
        · rw [ud_ne e]; exact e3 j j0 (by omega)
    · exact c_takes_57 ok s v n r q (nd.w + 1).toNat 0 h (by omega) (by omega) f e1 e2 (fun k k0 k1 => e3 k k0 (by omega)) (fun j j0 j1 => by omega)
theorem c_takesSet (ok : tr_ok E) (s0 : stat ad h) (v : vok m one two H L) (n : nok one two H L 0 nd) (r : rsA ad h nd 0) (ra : acR ad h a) (ka : aok H L 0 a) (q : ∀ h', fr ad pJ fN false h h' → rsA ad h' nd 0 → acR ad h' (tkS nd a) → Q (.inl none) h') : tr_C E 177 [.inr (.inr (ad 23))] h Q := by
  refine T_X8_takesSet ok ?_
  obtain ⟨b1, b2, b3, b4, b5, b6, b7⟩ := n_rg v (Int.le_refl _) n
  obtain ⟨a1, a2, a3⟩ := id ra
  obtain ⟨k1, k2, k3⟩ := id ka
  obtain ⟨r1, r2, r3, r4, r5, r6, r7⟩ := id r
  have z34 : ((34 : Nat) : Int) = 34 := rfl
  have z35 : ((35 : Nat) : Int) = 35 := rfl
  have f1 : fr ad pT fT false h (hsI h (ad 23) 34 (ii (a.se + 1))) := fr_sFs rfl
  have u32 : gv (hsI h (ad 23) 34 (ii (a.se + 1))) (ad 23) 32 = nd.w := (fr_gf s0 f1 rfl pT_lt rfl).trans r4
  have u34 : gv (hsI h (ad 23) 34 (ii (a.se + 1))) (ad 23) 34 = a.se + 1 := by
    rw [gv_sIi (by omega) (by omega)]; exact ud_eq _ _ _
  simp (disch := first | omega | decide | assumption | exact st_ne s0 (by decide) (by decide) (by decide) | exact dyn_ne (by assumption) (by decide) | fail) only [Int.reduceAdd, Int.reduceSub, Int.reduceNeg, ii_add, ii_sub, ii_mul, ii_lt, ii_le, ii_eq, ixn_ii, ixo_ii, rem_ii, nb_1, nb_0, nb_bb, bb_0, hI_gv, Int.toNat_of_nonneg, Int.cast_ofNat_Int, ht_sI, ht_sJ, ht_sR, hn_sI, hn_sJ, hn_sR, hR_sI, hR_sJ, kI_v, kV_v, kJ_v, true_and, and_true, forall_eq, tg, ln, rf, ne_eq, not_false_eq_true, forall_const, not_true_eq_false, false_implies, W_X8_takesSet, st_t s0, a2, u32, u34]
  refine ⟨fun g => ?_, fun g => ?_⟩
  · have e0 : a.se = 0 := by omega
    have et : tkS nd a = (a.st, a.se + 1, nd.w, nd.M, nd.bg, nd.hp) := if_pos e0
    refine c_takes_29 (c := a.se + 1) ok s0 v n r (fun h' f' e1 e2 e3 e4 e5 => ?_) nd.w.toNat 0 _ (by omega) (by omega) (fr_sF f1 rfl) ?_ ?_ (fun k k0 k1 => by omega)
    · refine q h' (fr_mono pT_pJ fT_fN (fun e => e) f') (rsA_fr s0 f' pT_lt rfl rfl rfl rfl rfl rfl rfl rfl r) ?_
      rw [et]
      refine ⟨(fr_gf s0 f' rfl pT_lt rfl).trans a1, e1, fun _ => ⟨e2, e3, e4, fun k i k0 k1 i0 i1 => ?_⟩⟩
      have k1 : k < nd.w := k1
      have i1 : i < enN nd k := by unfold enN; rw [if_neg (by omega)]; exact i1
      have ix := n_ix n k0 (by omega) i0 i1
      show gv h' (ad 41) (i - k) = nd.M i
      rw [e5 (i - k) ix.1 ix.2.1]
      exact r7 k i k0 (by omega) i0 i1
    · rw [gv_sIi (by omega) (by omega), ud_ne (by decide)]
      exact u34
    · rw [gv_sIi (by omega) (by omega)]
      exact ud_eq _ _ _
  · have e0 : ¬ a.se = 0 := by omega
    have et : tkS nd a = (a.st, a.se + 1, a.fw, a.fM, a.fb, a.fh) := if_neg e0
    refine q _ (fr_mono pT_pJ fT_fN (fun e => e) f1) (rsA_fr s0 f1 pT_lt rfl rfl rfl rfl rfl rfl rfl rfl r) ?_
    rw [et]
    have a4 := a3 (by omega)
    refine ⟨(fr_gf s0 f1 rfl pT_lt rfl).trans a1, u34, fun _ => ?_⟩
    have x39 : gv (hsI h (ad 23) 34 (ii (a.se + 1))) (ad 39) = gv h (ad 39) := gv_sIn (st_ne s0 (by decide) (by decide) (by decide))
    have x40 : gv (hsI h (ad 23) 34 (ii (a.se + 1))) (ad 40) = gv h (ad 40) := gv_sIn (st_ne s0 (by decide) (by decide) (by decide))
    have x41 : gv (hsI h (ad 23) 34 (ii (a.se + 1))) (ad 41) = gv h (ad 41) := gv_sIn (st_ne s0 (by decide) (by decide) (by decide))
    have x35 : gv (hsI h (ad 23) 34 (ii (a.se + 1))) (ad 23) 35 = gv h (ad 23) 35 := by rw [gv_sI]; exact ud_ne (by decide)
    refine ⟨x35.trans a4.1, ?_, ?_, ?_⟩
    · rw [x39]; exact a4.2.1
    · rw [x40]; exact a4.2.2.1
    · rw [x41]; exact a4.2.2.2
/-- what a call at a place of the search does -/
def cGo (E : tr_Env) (ad : Nat → Nat) (m one two : Int → Int) (H L : Int) (n : Nat) : Prop := ∀ (d : Nat) (nd : Nd) (a : Ac) (h : tr_H) (Q : tr_Q), 2 * n ≤ d → nok one two H L 1 nd → nd.ea + nd.cb < n → aok H L 1 a → ovr a = false → mst ad h m one two H L → rsA ad h nd 1 → acR ad h a → (∀ h', fr ad pJ fN false h h' → rsA ad h' nd 1 → acR ad h' (goP one two H L n nd a) → Q (.inl none) h') → tr_Cr E d 179 [.inr (.inr (ad 23)), .inl (ii nd.pl), .inl (ii (mn nd)), .inl (bb nd.al)] h Q
def pU (i : Nat) : Bool := Nat.ble 34 i && Nat.ble i 38
def fU (z : Int) : Bool := decide (z = 32) || decide (z = 36)
theorem pU_lt (j : Nat) (h : pU j = true) : j < 42 := by
  unfold pU at h
  simp only [Bool.and_eq_true, Nat.ble_eq] at h
  omega
theorem pU_pJ (j : Nat) (h : pU j = true) : pJ j = true := by
  unfold pU at h
  unfold pJ
  simp only [Bool.and_eq_true, Nat.ble_eq] at h ⊢
  omega
theorem fU_fN (z : Int) (h : fU z = true) : fN z = true := by
  unfold fU at h
  unfold fN
  simp only [Bool.or_eq_true, Bool.and_eq_true, decide_eq_true_eq] at h ⊢
  omega
theorem fr_UJ {h' : tr_H} (f : fr ad pU fU false h h') : fr ad pJ fN false h h' := fr_mono pU_pJ fU_fN (fun e => e) f
theorem acR_fr {h' : tr_H} (s0 : stat ad h) (f : fr ad pU fU false h h') (r : acR ad h a) : acR ad h' a := by
  unfold acR at r ⊢
  rw [fr_gv (i := 39) s0 f (by decide) (by decide) rfl pU_lt, fr_gv (i := 40) s0 f (by decide) (by decide) rfl pU_lt, fr_gv (i := 41) s0 f (by decide) (by decide) rfl pU_lt, fr_gf (z := 33) s0 f rfl pU_lt rfl, fr_gf (z := 34) s0 f rfl pU_lt rfl, fr_gf (z := 35) s0 f rfl pU_lt rfl]
  exact r
theorem c_begins_25 (ok : tr_ok E) (v : vok m one two H L) {n d : Nat} (hd : 2 * n ≤ d) (ih : cGo E ad m one two H L n) (s : mst ad h m one two H L) (k : nok one two H L 0 nd) (r : rsA ad h nd 0) (ra : acR ad h a) (ka : aok H L 0 a) (o : ovr a = false) (hr : nd.ea + nd.cb ≤ n) (q : ∀ h', fr ad pJ fN false h h' → rsA ad h' nd 0 → acR ad h' (bgP H (goP one two H L n) nd a) → Q (.inl none) h') : tr_Gr E (d + 1) 176 Q 25 [some (.inr (.inr (ad 23))), some (.inl (ii (fhp nd.A 0 H.toNat)))] [] h 0 0 := by
  refine T_X8_beginsWalk_25 ok ?_
  obtain ⟨s0, em, e1, e2, eH, eL⟩ := id s
  obtain ⟨b1, b2, b3, b4, b5, b6, b7⟩ := n_rg v (Int.le_refl _) k
  obtain ⟨r1, r2, r3, r4, r5, r6, r7⟩ := id r
  have vH := v_H v
  have hx := fhp_rg (A := nd.A) H.toNat 0
  unfold bgP at q
  simp (disch := first | omega | decide | assumption | exact st_ne s0 (by decide) (by decide) (by decide) | exact dyn_ne (by assumption) (by decide) | fail) only [Int.reduceAdd, Int.reduceSub, Int.reduceNeg, ii_add, ii_sub, ii_mul, ii_lt, ii_le, ii_eq, ixn_ii, ixo_ii, rem_ii, nb_1, nb_0, nb_bb, bb_0, hI_gv, Int.toNat_of_nonneg, Int.cast_ofNat_Int, ht_sI, ht_sJ, ht_sR, hn_sI, hn_sJ, hn_sR, hR_sI, hR_sJ, kI_v, kV_v, kJ_v, true_and, and_true, forall_eq, tg, ln, rf, ne_eq, not_false_eq_true, forall_const, not_true_eq_false, false_implies, W_X8_beginsWalk_25, st_t s0, st_n s0, st_r s0, eH, r3]
  refine ⟨fun g => ⟨fun g2 => ?_, fun g2 => ?_⟩, fun g => ?_⟩
  · rw [if_neg (by omega), if_pos g2] at q
    refine tr_Cr_C rfl (c_takesSet ok s0 v k r ra ka (fun h' f' r' a' => ?_))
    exact q h' f' r' a'
  · rw [if_neg (by omega), if_neg g2] at q
    exact q h fr_rfl r ra
  · have x1 : fhp nd.A 0 H.toNat < H := by omega
    rw [if_pos x1] at q
    have x2 := fhp_0 (by omega) x1
    generalize hxe : fhp nd.A 0 H.toNat = x at *
    have x3 := r1 x x2.1 (by omega)
    have x4 := k.a1 x x2.1 (by omega)
    have ko := nok_O (by omega) vH.2 k x2.1 x1 x2.2
    have g3 := k.g3 rfl
    have em : mn (ndO nd x) = 0 := by show nd.d - nd.bg nd.w = 0; omega
    have sh : ∀ h4, h4 = hsI (hsI (hsI h (ad 34) x.toNat (ii (nd.A x - 1))) (ad 23) 36 (ii (nd.ea + nd.cb - 1))) (ad 36) nd.w.toNat (ii x) → fr ad pU fU false h h4 ∧ rsA ad h4 (ndO nd x) 1 := by
      intro h4 e4
      refine ⟨?_, ?_⟩
      · rw [e4]; exact fr_sI (fr_sF (fr_sI fr_rfl rfl) rfl) rfl
      · have y := rsF_O k (x := x) r
        unfold rsA
        rw [e4]
        have z1 : ud (gv h (ad 23)) 36 (nd.ea + nd.cb - 1) 36 = nd.ea + nd.cb - 1 := ud_eq _ _ _
        have z2 : ud (gv h (ad 23)) 36 (nd.ea + nd.cb - 1) 32 = gv h (ad 23) 32 := ud_ne (by decide)
        rw [r3] at y
        simp (disch := first | omega | decide | assumption | exact st_ne s0 (by decide) (by decide) (by decide) | exact dyn_ne (by assumption) (by decide) | fail) only [Int.reduceAdd, Int.reduceSub, Int.reduceNeg, ii_add, ii_sub, ii_mul, ii_lt, ii_le, ii_eq, ixn_ii, ixo_ii, rem_ii, nb_1, nb_0, nb_bb, bb_0, hI_gv, Int.toNat_of_nonneg, Int.cast_ofNat_Int, ht_sI, ht_sJ, ht_sR, hn_sI, hn_sJ, hn_sR, hR_sI, hR_sJ, kI_v, kV_v, kJ_v, true_and, and_true, forall_eq, tg, ln, rf, ne_eq, not_false_eq_true, forall_const, not_true_eq_false, false_implies, gv_sIn, gv_sIi, z1, z2]
        exact y
    have fin : ∀ h5, fr ad pJ fN false h h5 → rsA ad h5 (ndO nd x) 1 → acR ad h5 (goP one two H L n (ndO nd x) a) → Q (.inl none) (hsI (hsI h5 (ad 23) 36 (ii (gv h5 (ad 23) 36 + 1))) (ad 34) x.toNat (ii (gv h5 (ad 34) x + 1))) := by
      intro h5 f5 r5 a5
      have t0 := st_fr s0 f5
      have f6 : fr ad pU fU false h5 (hsI (hsI h5 (ad 23) 36 (ii (gv h5 (ad 23) 36 + 1))) (ad 34) x.toNat (ii (gv h5 (ad 34) x + 1))) := fr_sI (fr_sF fr_rfl rfl) rfl
      refine q _ (fr_tr f5 (fr_UJ f6)) ?_ (acR_fr t0 f6 a5)
      have y := rsF_Ob k x2.1 (by omega) r5
      have i1 := r5.1 x x2.1 (by omega)
      have i1 : gv h5 (ad 34) x = ud nd.A x (nd.A x - 1) x := i1
      rw [ud_eq] at i1
      have i2 : gv h5 (ad 23) 36 = nd.ea - 1 + nd.cb := r5.2.2.1
      unfold rsA
      have z1 : ∀ w, ud (gv h5 (ad 23)) 36 w 36 = w := fun w => ud_eq _ _ _
      have z2 : ∀ w, ud (gv h5 (ad 23)) 36 w 32 = gv h5 (ad 23) 32 := fun w => ud_ne (by decide)
      rw [i1, i2] at y ⊢
      have s0 := t0
      simp (disch := first | omega | decide | assumption | exact st_ne s0 (by decide) (by decide) (by decide) | exact dyn_ne (by assumption) (by decide) | fail) only [Int.reduceAdd, Int.reduceSub, Int.reduceNeg, ii_add, ii_sub, ii_mul, ii_lt, ii_le, ii_eq, ixn_ii, ixo_ii, rem_ii, nb_1, nb_0, nb_bb, bb_0, hI_gv, Int.toNat_of_nonneg, Int.cast_ofNat_Int, ht_sI, ht_sJ, ht_sR, hn_sI, hn_sJ, hn_sR, hR_sI, hR_sJ, kI_v, kV_v, kJ_v, true_and, and_true, forall_eq, tg, ln, rf, ne_eq, not_false_eq_true, forall_const, not_true_eq_false, false_implies, gv_sIn, gv_sIi, z1, z2]
      exact y
    have go : ∀ h4, h4 = hsI (hsI (hsI h (ad 34) x.toNat (ii (nd.A x - 1))) (ad 23) 36 (ii (nd.ea + nd.cb - 1))) (ad 36) nd.w.toNat (ii x) → ∀ Q' : tr_Q, (∀ h5, fr ad pJ fN false h h5 → rsA ad h5 (ndO nd x) 1 → acR ad h5 (goP one two H L n (ndO nd x) a) → Q' (.inl none) h5) → tr_Cr E d 179 [.inr (.inr (ad 23)), .inl (ii x), .inl (ii 0), .inl (bb (ndO nd x).al)] h4 Q' := by
      intro h4 e4 Q' q'
      obtain ⟨f4, r4'⟩ := sh h4 e4
      have y := ih d (ndO nd x) a h4 Q' hd ko (by rw [r_O]; omega) (aok_1 ka) o (mst_n s (fr_UJ f4)) r4' (acR_fr s0 f4 ra) (fun h5 f5 r5 a5 => q' h5 (fr_tr (fr_UJ f4) f5) r5 a5)
      rw [em] at y
      exact y
    have r32 : nd.w - 1 < nd.w := by omega
    simp (disch := first | omega | decide | assumption | exact st_ne s0 (by decide) (by decide) (by decide) | exact dyn_ne (by assumption) (by decide) | fail) only [Int.reduceAdd, Int.reduceSub, Int.reduceNeg, ii_add, ii_sub, ii_mul, ii_lt, ii_le, ii_eq, ixn_ii, ixo_ii, rem_ii, nb_1, nb_0, nb_bb, bb_0, hI_gv, Int.toNat_of_nonneg, Int.cast_ofNat_Int, ht_sI, ht_sJ, ht_sR, hn_sI, hn_sJ, hn_sR, hR_sI, hR_sJ, kI_v, kV_v, kJ_v, true_and, and_true, forall_eq, tg, ln, rf, ne_eq, not_false_eq_true, forall_const, not_true_eq_false, false_implies, x3, r4]
    have z1 : ∀ w, ud (gv h (ad 23)) 36 w 36 = w := fun w => ud_eq _ _ _
    have z2 : ∀ w, ud (gv h (ad 23)) 36 w 32 = gv h (ad 23) 32 := fun w => ud_ne (by decide)
    simp (disch := first | omega | decide | assumption | exact st_ne s0 (by decide) (by decide) (by decide) | exact dyn_ne (by assumption) (by decide) | fail) only [Int.reduceAdd, Int.reduceSub, Int.reduceNeg, ii_add, ii_sub, ii_mul, ii_lt, ii_le, ii_eq, ixn_ii, ixo_ii, rem_ii, nb_1, nb_0, nb_bb, bb_0, hI_gv, Int.toNat_of_nonneg, Int.cast_ofNat_Int, ht_sI, ht_sJ, ht_sR, hn_sI, hn_sJ, hn_sR, hR_sI, hR_sJ, kI_v, kV_v, kJ_v, true_and, and_true, forall_eq, tg, ln, rf, ne_eq, not_false_eq_true, forall_const, not_true_eq_false, false_implies, gv_sIn, gv_sIi, z1, z2, r3, r4]
    refine ⟨by omega, by omega, by omega, fun g5 => ?_, fun g5 => ?_⟩
    · have ea : (ndO nd x).al = false := by
        show (decide (0 < nd.w) && decide (nd.hp (nd.w - 1) = x)) = false
        rw [decide_eq_false (by omega)]; rfl
      rw [ea] at go
      refine go _ rfl _ (fun h5 f5 r5 a5 => ?_)
      have s0 := st_fr s0 f5
      simp (disch := first | omega | decide | assumption | exact st_ne s0 (by decide) (by decide) (by decide) | exact dyn_ne (by assumption) (by decide) | fail) only [Int.reduceAdd, Int.reduceSub, Int.reduceNeg, ii_add, ii_sub, ii_mul, ii_lt, ii_le, ii_eq, ixn_ii, ixo_ii, rem_ii, nb_1, nb_0, nb_bb, bb_0, hI_gv, Int.toNat_of_nonneg, Int.cast_ofNat_Int, ht_sI, ht_sJ, ht_sR, hn_sI, hn_sJ, hn_sR, hR_sI, hR_sJ, kI_v, kV_v, kJ_v, true_and, and_true, forall_eq, tg, ln, rf, ne_eq, not_false_eq_true, forall_const, not_true_eq_false, false_implies, st_t s0, st_n s0, st_r s0, gv_sIn]
      exact ⟨by omega, by omega, fin h5 f5 r5 a5⟩
    · have hh := r5 (nd.w - 1) (by omega) (by omega)
      have hp := k.p1 (nd.w - 1) (by omega) (by omega)
      have z3 : ud (gv h (ad 36)) nd.w x (nd.w - 1) = nd.hp (nd.w - 1) := (ud_ne (by omega)).trans hh
      simp (disch := first | omega | decide | assumption | exact st_ne s0 (by decide) (by decide) (by decide) | exact dyn_ne (by assumption) (by decide) | fail) only [Int.reduceAdd, Int.reduceSub, Int.reduceNeg, ii_add, ii_sub, ii_mul, ii_lt, ii_le, ii_eq, ixn_ii, ixo_ii, rem_ii, nb_1, nb_0, nb_bb, bb_0, hI_gv, Int.toNat_of_nonneg, Int.cast_ofNat_Int, ht_sI, ht_sJ, ht_sR, hn_sI, hn_sJ, hn_sR, hR_sI, hR_sJ, kI_v, kV_v, kJ_v, true_and, and_true, forall_eq, tg, ln, rf, ne_eq, not_false_eq_true, forall_const, not_true_eq_false, false_implies, z3]
      refine ⟨by omega, fun g6 => ?_, fun g6 => ?_⟩
      · have ea : (ndO nd x).al = true := by
          show (decide (0 < nd.w) && decide (nd.hp (nd.w - 1) = x)) = true
          rw [decide_eq_true (by omega), decide_eq_true g6]; rfl
        rw [ea] at go
        refine go _ rfl _ (fun h5 f5 r5 a5 => ?_)
        have s0 := st_fr s0 f5
        simp (disch := first | omega | decide | assumption | exact st_ne s0 (by decide) (by decide) (by decide) | exact dyn_ne (by assumption) (by decide) | fail) only [Int.reduceAdd, Int.reduceSub, Int.reduceNeg, ii_add, ii_sub, ii_mul, ii_lt, ii_le, ii_eq, ixn_ii, ixo_ii, rem_ii, nb_1, nb_0, nb_bb, bb_0, hI_gv, Int.toNat_of_nonneg, Int.cast_ofNat_Int, ht_sI, ht_sJ, ht_sR, hn_sI, hn_sJ, hn_sR, hR_sI, hR_sJ, kI_v, kV_v, kJ_v, true_and, and_true, forall_eq, tg, ln, rf, ne_eq, not_false_eq_true, forall_const, not_true_eq_false, false_implies, st_t s0, st_n s0, st_r s0, gv_sIn]
        exact ⟨by omega, by omega, fin h5 f5 r5 a5⟩
      · have ea : (ndO nd x).al = false := by
          show (decide (0 < nd.w) && decide (nd.hp (nd.w - 1) = x)) = false
          rw [decide_eq_false g6, Bool.and_false]
        rw [ea] at go
        refine go _ rfl _ (fun h5 f5 r5 a5 => ?_)
        have s0 := st_fr s0 f5
        simp (disch := first | omega | decide | assumption | exact st_ne s0 (by decide) (by decide) (by decide) | exact dyn_ne (by assumption) (by decide) | fail) only [Int.reduceAdd, Int.reduceSub, Int.reduceNeg, ii_add, ii_sub, ii_mul, ii_lt, ii_le, ii_eq, ixn_ii, ixo_ii, rem_ii, nb_1, nb_0, nb_bb, bb_0, hI_gv, Int.toNat_of_nonneg, Int.cast_ofNat_Int, ht_sI, ht_sJ, ht_sR, hn_sI, hn_sJ, hn_sR, hR_sI, hR_sJ, kI_v, kV_v, kJ_v, true_and, and_true, forall_eq, tg, ln, rf, ne_eq, not_false_eq_true, forall_const, not_true_eq_false, false_implies, st_t s0, st_n s0, st_r s0, gv_sIn]
        exact ⟨by omega, by omega, fin h5 f5 r5 a5⟩
theorem c_begins_2 (ok : tr_ok E) (v : vok m one two H L) {n d : Nat} (hd : 2 * n ≤ d) (ih : cGo E ad m one two H L n) (s : mst ad h m one two H L) (k : nok one two H L 0 nd) (r : rsA ad h nd 0) (ra : acR ad h a) (ka : aok H L 0 a) (o : ovr a = false) (hr : nd.ea + nd.cb ≤ n) (q : ∀ h', fr ad pJ fN false h h' → rsA ad h' nd 0 → acR ad h' (bgP H (goP one two H L n) nd a) → Q (.inl none) h') : ∀ (j : Nat) (x : Int), x + j = H → 0 ≤ x → fhp nd.A 0 H.toNat = fhp nd.A x j → tr_Gr E (d + 1) 176 Q 2 [some (.inr (.inr (ad 23))), some (.inl (ii x))] [] h 0 0
  | j, x, hj, x0, e => by
    refine T_X8_beginsWalk_2 ok ?_
    obtain ⟨s0, em, e1, e2, eH, eL⟩ := id s
    have vH := v_H v
    have fin := c_begins_25 ok v hd ih s k r ra ka o hr q
    simp (disch := first | omega | decide | assumption | exact st_ne s0 (by decide) (by decide) (by decide) | exact dyn_ne (by assumption) (by decide) | fail) only [Int.reduceAdd, Int.reduceSub, Int.reduceNeg, ii_add, ii_sub, ii_mul, ii_lt, ii_le, ii_eq, ixn_ii, ixo_ii, rem_ii, nb_1, nb_0, nb_bb, bb_0, hI_gv, Int.toNat_of_nonneg, Int.cast_ofNat_Int, ht_sI, ht_sJ, ht_sR, hn_sI, hn_sJ, hn_sR, hR_sI, hR_sJ, kI_v, kV_v, kJ_v, true_and, and_true, forall_eq, tg, ln, rf, ne_eq, not_false_eq_true, forall_const, not_true_eq_false, false_implies, W_X8_beginsWalk_2, st_t s0, st_n s0, st_r s0, eH]
    refine ⟨fun g => ?_, fun g => ?_⟩
    · obtain ⟨j, rfl⟩ : ∃ n', j = n' + 1 := ⟨j - 1, by omega⟩
      have x3 := r.1 x x0 (by omega)
      have x4 := k.a1 x x0 (by omega)
      have es : fhp nd.A x (j + 1) = if nd.A x = 0 then fhp nd.A (x + 1) j else x := rfl
      rw [es] at e
      simp (disch := first | omega | decide | assumption | exact st_ne s0 (by decide) (by decide) (by decide) | exact dyn_ne (by assumption) (by decide) | fail) only [Int.reduceAdd, Int.reduceSub, Int.reduceNeg, ii_add, ii_sub, ii_mul, ii_lt, ii_le, ii_eq, ixn_ii, ixo_ii, rem_ii, nb_1, nb_0, nb_bb, bb_0, hI_gv, Int.toNat_of_nonneg, Int.cast_ofNat_Int, ht_sI, ht_sJ, ht_sR, hn_sI, hn_sJ, hn_sR, hR_sI, hR_sJ, kI_v, kV_v, kJ_v, true_and, and_true, forall_eq, tg, ln, rf, ne_eq, not_false_eq_true, forall_const, not_true_eq_false, false_implies, x3]
      refine ⟨by omega, fun g2 => ?_, fun g2 => ?_⟩
      · rw [if_pos g2] at e
        exact c_begins_2 ok v hd ih s k r ra ka o hr q j (x + 1) (by omega) (by omega) e
      · rw [if_neg g2] at e
        rw [e] at fin; exact fin
    · obtain rfl : j = 0 := by omega
      have es : fhp nd.A x 0 = x := rfl
      rw [es] at e
      rw [e] at fin; exact fin
theorem c_beginsWalk (ok : tr_ok E) (v : vok m one two H L) {n d : Nat} (hd : 2 * n ≤ d) (ih : cGo E ad m one two H L n) (s : mst ad h m one two H L) (k : nok one two H L 0 nd) (r : rsA ad h nd 0) (ra : acR ad h a) (ka : aok H L 0 a) (o : ovr a = false) (hr : nd.ea + nd.cb ≤ n) (q : ∀ h', fr ad pJ fN false h h' → rsA ad h' nd 0 → acR ad h' (bgP H (goP one two H L n) nd a) → Q (.inl none) h') : tr_Cr E (d + 1) 176 [.inr (.inr (ad 23))] h Q := by
  refine T_X8_beginsWalk ok ?_
  have vH := v_H v
  exact c_begins_2 ok v hd ih s k r ra ka o hr q H.toNat 0 (by omega) (by omega) rfl
end DFM2
