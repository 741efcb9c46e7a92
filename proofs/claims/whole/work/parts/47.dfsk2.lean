/-! JOINING, BY THE CLASS: its methods -/
def agK (ad : Nat → Nat) (h h' : tr_H) : Prop := gv h' (ad 2) 8 = gv h (ad 2) 8 ∧ gv h' (ad 2) 9 = gv h (ad 2) 9 ∧ gv h' (ad 2) 10 = gv h (ad 2) 10 ∧ gv h' (ad 14) = gv h (ad 14) ∧ gv h' (ad 15) = gv h (ad 15) ∧ gv h' (ad 16) = gv h (ad 16) ∧ gv h' (ad 17) = gv h (ad 17)
def agD (ad : Nat → Nat) (d : Int) (h h' : tr_H) : Prop := ∀ j, 0 ≤ j → j < d → gv h' (ad 11) j = gv h (ad 11) j ∧ gv h' (ad 13) j = gv h (ad 13) j
section DFK2
variable {E : tr_Env} {ad : Nat → Nat} {h h0 h1 h2 : tr_H} {Q : tr_Q} {m one two : Int → Int} {H L : Int} {nd : Nd} {a : Ac} {nn : Nat} {d : Int}
theorem agK_tr (x : agK ad h h1) (y : agK ad h1 h2) : agK ad h h2 := ⟨y.1.trans x.1, y.2.1.trans x.2.1, y.2.2.1.trans x.2.2.1, y.2.2.2.1.trans x.2.2.2.1, y.2.2.2.2.1.trans x.2.2.2.2.1, y.2.2.2.2.2.1.trans x.2.2.2.2.2.1, y.2.2.2.2.2.2.trans x.2.2.2.2.2.2⟩
theorem agK_rfl : agK ad h h := ⟨rfl, rfl, rfl, rfl, rfl, rfl, rfl⟩
theorem agD_tr (x : agD ad d h h1) (y : agD ad d h1 h2) : agD ad d h h2 := fun j j0 j1 => ⟨(y j j0 j1).1.trans (x j j0 j1).1, (y j j0 j1).2.trans (x j j0 j1).2⟩
theorem agD_rfl : agD ad d h h := fun j _ _ => ⟨rfl, rfl⟩
theorem agD_le {d' : Int} (hd : d' ≤ d) (x : agD ad d h h1) : agD ad d' h h1 := fun j j0 j1 => x j j0 (by omega)
theorem acK_ag (r : acK ad h a) (g : agK ad h h1) : acK ad h1 a := by
  obtain ⟨g1, g2, g3, g4, g5, g6, g7⟩ := g
  unfold acK at r ⊢
  rw [g1, g2, g3, g4, g5, g6, g7]
  exact r
theorem k_nextMove_19 (ok : tr_ok E) (s0 : stat ad h) (n : nst ad h nn m one two H L) (v : vok m one two H L) (k : nok one two H L 1 nd) (cs : csA ad h nd) : ∀ (j : Nat) (l : Int), l + j = L → 0 ≤ l → Q (.inl (some (.inl (ii (fnl one nd.B nd.pl l j))))) h → tr_G E 12 Q 19 [some (.inr (.inr (ad 2))), some (.inr (.inr nn)), some (.inl (ii nd.d)), none, some (.inl (ii l))] [] h 0 0
  | j, l, hj, l0, q => by
    refine T_X1_nextMove_19 ok ?_
    obtain ⟨n0, n1, n2, ⟨sa, sb, sc⟩, ⟨ea, eb, ec⟩, ⟨ua, ub, uc⟩, ⟨ra, rb, rc⟩, ⟨ga, gb, g0, g1, g2, g3, g4⟩, nd⟩ := id n
    have vH := v_H v
    have vL := v_L v
    obtain ⟨b1, b2, b3, b4, b5, b6, b7⟩ := n_rg v (by decide) k
    obtain ⟨c1, c2, c3, c4, c5, c6, c7, c8, c9⟩ := id cs
    have hp := k.p2 rfl
    simp (disch := first | omega | decide | assumption | exact st_ne s0 (by decide) (by decide) (by decide) | exact dyn_ne (by assumption) (by decide) | fail) only [Int.reduceAdd, Int.reduceSub, Int.reduceNeg, ii_add, ii_sub, ii_mul, ii_lt, ii_le, ii_eq, ixn_ii, ixo_ii, rem_ii, nb_1, nb_0, nb_bb, bb_0, hI_gv, Int.toNat_of_nonneg, Int.cast_ofNat_Int, ht_sI, ht_sJ, ht_sR, hn_sI, hn_sJ, hn_sR, hR_sI, hR_sJ, kI_v, kV_v, kJ_v, true_and, and_true, forall_eq, tg, ln, rf, ne_eq, not_false_eq_true, forall_const, not_true_eq_false, false_implies, W_X1_nextMove_19, st_t s0, st_n s0, st_r s0, n0, n2]
    refine ⟨fun g => ?_, fun g => ?_⟩
    · obtain ⟨j, rfl⟩ : ∃ n', j = n' + 1 := ⟨j - 1, by omega⟩
      have x1 := c2 l l0 (by omega)
      have x2 := k.b1 l l0 (by omega)
      have x3 := sc l l0 g
      have x4 := v_l v l0 g
      unfold fnl at q
      simp (disch := first | omega | decide | assumption | exact st_ne s0 (by decide) (by decide) (by decide) | exact dyn_ne (by assumption) (by decide) | fail) only [Int.reduceAdd, Int.reduceSub, Int.reduceNeg, ii_add, ii_sub, ii_mul, ii_lt, ii_le, ii_eq, ixn_ii, ixo_ii, rem_ii, nb_1, nb_0, nb_bb, bb_0, hI_gv, Int.toNat_of_nonneg, Int.cast_ofNat_Int, ht_sI, ht_sJ, ht_sR, hn_sI, hn_sJ, hn_sR, hR_sI, hR_sJ, kI_v, kV_v, kJ_v, true_and, and_true, forall_eq, tg, ln, rf, ne_eq, not_false_eq_true, forall_const, not_true_eq_false, false_implies, x1, sa, sb, x3, c7]
      refine ⟨by omega, fun g2 => ?_, fun g2 => ⟨by omega, by omega, fun g3 => ?_, fun g3 => ?_⟩⟩
      · rw [if_pos g2] at q
        exact k_nextMove_19 ok s0 n v k cs j (l + 1) (by omega) (by omega) q
      · rw [if_neg g2, if_pos g3] at q; exact q
      · rw [if_neg g2, if_neg g3] at q
        exact k_nextMove_19 ok s0 n v k cs j (l + 1) (by omega) (by omega) q
    · obtain rfl : j = 0 := by omega
      exact q
theorem k_nextMove (ok : tr_ok E) (s0 : stat ad h) (n : nst ad h nn m one two H L) (v : vok m one two H L) (k : nok one two H L 1 nd) (cs : csA ad h nd) {x : Int} (hx : gv h (ad 10) nd.d = x) (x1 : -2 ≤ x) (x2 : x < L) (q : Q (.inl (some (.inl (ii (if x = -2 then -1 else fnl one nd.B nd.pl (x + 1) (L - (x + 1)).toNat))))) h) : tr_C E 12 [.inr (.inr (ad 2)), .inr (.inr nn), .inl (ii nd.d)] h Q := by
  refine T_X1_nextMove ok ?_
  have vL := v_L v
  obtain ⟨b1, b2, b3, b4, b5, b6, b7⟩ := n_rg v (by decide) k
  simp (disch := first | omega | decide | assumption | exact st_ne s0 (by decide) (by decide) (by decide) | exact dyn_ne (by assumption) (by decide) | fail) only [Int.reduceAdd, Int.reduceSub, Int.reduceNeg, ii_add, ii_sub, ii_mul, ii_lt, ii_le, ii_eq, ixn_ii, ixo_ii, rem_ii, nb_1, nb_0, nb_bb, bb_0, hI_gv, Int.toNat_of_nonneg, Int.cast_ofNat_Int, ht_sI, ht_sJ, ht_sR, hn_sI, hn_sJ, hn_sR, hR_sI, hR_sJ, kI_v, kV_v, kJ_v, true_and, and_true, forall_eq, tg, ln, rf, ne_eq, not_false_eq_true, forall_const, not_true_eq_false, false_implies, W_X1_nextMove, st_t s0, st_n s0, st_r s0, hx]
  refine ⟨by omega, fun g => ?_, fun g => ?_⟩
  · rw [if_pos (by omega)] at q; exact q
  · rw [if_neg (by omega)] at q
    exact k_nextMove_19 ok s0 n v k cs _ _ (by omega) (by omega) q
theorem k_stand (ok : tr_ok E) (s0 : stat ad h) {d x b g : Int} (d0 : 0 ≤ d) (d1 : d < 520) (x0 : 0 ≤ x) (x1 : x < 10) (b0 : 0 ≤ b) (b1 : b < 520) (g0 : -1 ≤ g) (g1 : g < 520) {v : Int} (hv : v = (if g = -1 then -1 else gv h (ad 10) g) - 1) (hv1 : -2 ≤ v) (hv2 : v ≤ 1000) (q : Q (.inl none) (hsI (hsI (hsI (hsI h (ad 11) d.toNat (ii x)) (ad 12) d.toNat (ii b)) (ad 13) d.toNat (ii g)) (ad 10) d.toNat (ii v))) : tr_C E 13 [.inr (.inr (ad 2)), .inl (ii d), .inl (ii x), .inl (ii b), .inl (ii g)] h Q := by
  refine T_X1_stand ok ?_
  by_cases e : g = -1
  · rw [if_pos e] at hv
    subst hv
    simp (disch := first | omega | decide | assumption | exact st_ne s0 (by decide) (by decide) (by decide) | exact dyn_ne (by assumption) (by decide) | fail) only [Int.reduceAdd, Int.reduceSub, Int.reduceNeg, ii_add, ii_sub, ii_mul, ii_lt, ii_le, ii_eq, ixn_ii, ixo_ii, rem_ii, nb_1, nb_0, nb_bb, bb_0, hI_gv, Int.toNat_of_nonneg, Int.cast_ofNat_Int, ht_sI, ht_sJ, ht_sR, hn_sI, hn_sJ, hn_sR, hR_sI, hR_sJ, kI_v, kV_v, kJ_v, true_and, and_true, forall_eq, tg, ln, rf, ne_eq, not_false_eq_true, forall_const, not_true_eq_false, false_implies, W_X1_stand, st_t s0, st_n s0, st_r s0]
    exact ⟨fun _ => ⟨by omega, by omega, by omega, fun _ => ⟨by omega, q⟩, fun e2 => absurd e e2⟩, fun g => by omega⟩
  · rw [if_neg e] at hv
    have g2 : 0 ≤ g := by omega
    subst hv
    simp (disch := first | omega | decide | assumption | exact st_ne s0 (by decide) (by decide) (by decide) | exact dyn_ne (by assumption) (by decide) | fail) only [Int.reduceAdd, Int.reduceSub, Int.reduceNeg, ii_add, ii_sub, ii_mul, ii_lt, ii_le, ii_eq, ixn_ii, ixo_ii, rem_ii, nb_1, nb_0, nb_bb, bb_0, hI_gv, Int.toNat_of_nonneg, Int.cast_ofNat_Int, ht_sI, ht_sJ, ht_sR, hn_sI, hn_sJ, hn_sR, hR_sI, hR_sJ, kI_v, kV_v, kJ_v, true_and, and_true, forall_eq, tg, ln, rf, ne_eq, not_false_eq_true, forall_const, not_true_eq_false, false_implies, W_X1_stand, st_t s0, st_n s0, st_r s0, gv_sIn]
    exact ⟨fun _ => ⟨by omega, by omega, by omega, fun e2 => absurd e2 e, fun _ => ⟨by omega, by omega, q⟩⟩, fun g => by omega⟩
theorem k_openWalk_2 (ok : tr_ok E) (s0 : stat ad h) (v : vok m one two H L) (k : nok one two H L 0 nd) (cp : cpA ad h nd) (ea : 0 < nd.ea) {bf : Int} (hb : bf = if nd.w = 0 then -1 else nd.bg (nd.w - 1)) (q : ∀ h', fr ad pC f0 false h h' → csA ad h' (ndO nd (fhp nd.A 0 H.toNat)) → gv h' (ad 10) nd.d = sv (ndO nd (fhp nd.A 0 H.toNat)) → agK ad h h' → agD ad nd.d h h' → Q (.inl none) h') : ∀ (j : Nat) (x : Int), x + j = H → 0 ≤ x → fhp nd.A 0 H.toNat = fhp nd.A x j → tr_G E 14 Q 2 [some (.inr (.inr (ad 2))), some (.inl (ii nd.d)), some (.inl (ii bf)), some (.inl (ii x)), none] [] h 0 0
  | j, x, hj, x0, e => by
    have vH := v_H v
    obtain ⟨b1, b2, b3, b4, b5, b6, b7⟩ := n_rg v (by decide) k
    obtain ⟨c1, c2, c3, c4, c5, c6, c8⟩ := id cp
    have g3 := k.g3 rfl
    have hx := fhp_rg (A := nd.A) H.toNat 0
    have hz : fhp nd.A 0 H.toNat < H := by
      by_cases g : fhp nd.A 0 H.toNat < H
      · exact g
      · have := fhp_z (A := nd.A) H.toNat 0 (by omega)
        rw [← k.s1] at this
        omega
    have y1 := fhp_0 (nd := nd) (by omega) hz
    obtain ⟨j, rfl⟩ : ∃ n', j = n' + 1 := ⟨j - 1, by
      by_cases g : j = 0
      · subst g
        have : fhp nd.A x 0 = x := rfl
        omega
      · omega⟩
    have es : fhp nd.A x (j + 1) = if nd.A x = 0 then fhp nd.A (x + 1) j else x := rfl
    have x3 := c1 x x0 (by omega)
    have x4 := k.a1 x x0 (by omega)
    have bf0 : -1 ≤ bf ∧ bf < 520 := by
      rw [hb]
      split
      · omega
      · have := n_b0 k (k := nd.w - 1) (by omega) (by omega); omega
    refine T_X1_openWalk_2 ok ?_
    by_cases g : nd.A x = 0
    · rw [es, if_pos g] at e
      have : x < 9 := by
        have := fhp_rg (A := nd.A) j (x + 1)
        omega
      simp (disch := first | omega | decide | assumption | exact st_ne s0 (by decide) (by decide) (by decide) | exact dyn_ne (by assumption) (by decide) | fail) only [Int.reduceAdd, Int.reduceSub, Int.reduceNeg, ii_add, ii_sub, ii_mul, ii_lt, ii_le, ii_eq, ixn_ii, ixo_ii, rem_ii, nb_1, nb_0, nb_bb, bb_0, hI_gv, Int.toNat_of_nonneg, Int.cast_ofNat_Int, ht_sI, ht_sJ, ht_sR, hn_sI, hn_sJ, hn_sR, hR_sI, hR_sJ, kI_v, kV_v, kJ_v, true_and, and_true, forall_eq, tg, ln, rf, ne_eq, not_false_eq_true, forall_const, not_true_eq_false, false_implies, W_X1_openWalk_2, st_t s0, st_n s0, st_r s0, x3]
      exact ⟨fun _ => ⟨by omega, fun _ => k_openWalk_2 ok s0 v k cp ea hb q j (x + 1) (by omega) (by omega) e, fun g2 => absurd g g2⟩, fun g2 => absurd this g2⟩
    · rw [es, if_neg g] at e
      rw [e] at q
      have ko := nok_O (by omega) vH.2 k x0 (by omega) g
      -- what follows does not turn on where the loop ended
      have go : tr_C E 13 [.inr (.inr (ad 2)), .inl (ii nd.d), .inl (ii x), .inl (ii nd.d), .inl (ii (if (ndO nd x).al then nd.bg (nd.w - 1) else -1))] (hsI (hsI h (ad 8) x.toNat (ii (nd.A x - 1))) (ad 2) 2 (ii (nd.ea - 1))) (kV (fun h3 => Q (.inl none) h3) (fun E h' => Q (.inr E) h')) := by
        have emn : mn (ndO nd x) = 0 := by show nd.d - nd.bg nd.w = 0; omega
        have hal : (ndO nd x).al = true → 1 ≤ nd.w ∧ 0 ≤ nd.bg (nd.w - 1) ∧ nd.bg (nd.w - 1) < nd.d := by
          intro ha
          have p3 := ko.p3 rfl ha
          have w1 : 1 ≤ nd.w := p3.1
          have e1 := n_b0 k (k := nd.w - 1) (by omega) (by omega)
          have e2 := k.g1 (nd.w - 1) (by omega) (by omega)
          rw [show nd.w - 1 + 1 = nd.w by omega] at e2
          exact ⟨w1, by omega, by omega⟩
        have ea1 : nd.ea ≤ 40 := by omega
        have svr : -2 ≤ sv (ndO nd x) ∧ sv (ndO nd x) ≤ 1000 := by
          have hs := lst0_rg ko (v_L v).1
          have vL := v_L v
          by_cases ga : gA (ndO nd x) = true
          · rw [sv_a ko ga]; omega
          · rw [Bool.not_eq_true] at ga
            rw [(sv_n ko ga).1]; omega
        have mo : gv (hsI (hsI h (ad 8) x.toNat (ii (nd.A x - 1))) (ad 2) 2 (ii (nd.ea - 1))) (ad 10) = gv h (ad 10) := by
          rw [gv_sIn (st_ne s0 (by decide) (by decide) (by decide)), gv_sIn (st_ne s0 (by decide) (by decide) (by decide))]
        refine k_stand (v := sv (ndO nd x)) ok (st_sI (st_sI s0)) (by omega) (by omega) x0 (by omega) (by omega) (by omega) ?_ ?_ ?_ svr.1 svr.2 ?_
        · split
          · next ha => have := hal ha; omega
          · omega
        · split
          · next ha => have := hal ha; omega
          · omega
        · rw [mo]
          unfold sv
          by_cases ha : (ndO nd x).al = true
          · have h3 := hal ha
            rw [if_pos ha, if_pos ha, emn, Int.add_zero, if_neg (by omega), c5 _ h3.2.1 h3.2.2]
            rfl
          · rw [if_neg ha, if_neg ha, if_pos rfl]
            rfl
        · have y := csF_O (X13 := gv h (ad 13)) (x := x) k rfl cp
          have z2 : ∀ w, ud (gv h (ad 2)) 2 w 2 = w := fun w => ud_eq _ _ _
          have z3 : ∀ w, ud (gv h (ad 2)) 2 w 3 = gv h (ad 2) 3 := fun w => ud_ne (by decide)
          have z8 : ∀ w, ud (gv h (ad 2)) 2 w 8 = gv h (ad 2) 8 := fun w => ud_ne (by decide)
          have z9 : ∀ w, ud (gv h (ad 2)) 2 w 9 = gv h (ad 2) 9 := fun w => ud_ne (by decide)
          have z10 : ∀ w, ud (gv h (ad 2)) 2 w 10 = gv h (ad 2) 10 := fun w => ud_ne (by decide)
          have gr : -1 ≤ (if (ndO nd x).al then nd.bg (nd.w - 1) else -1) ∧ (if (ndO nd x).al then nd.bg (nd.w - 1) else -1) ≤ 520 := by
            split
            · next ha => have := hal ha; omega
            · omega
          rw [c3] at y
          generalize (if (ndO nd x).al then nd.bg (nd.w - 1) else -1) = gg at *
          show Q (.inl none) _
          refine q _ (fr_sI (fr_sI (fr_sI (fr_sI (fr_sI (fr_sI fr_rfl rfl) rfl) rfl) rfl) rfl) rfl) ?_ ?_ ?_ ?_
          · unfold csA
            simp (disch := first | omega | decide | assumption | exact st_ne s0 (by decide) (by decide) (by decide) | exact dyn_ne (by assumption) (by decide) | fail) only [Int.reduceAdd, Int.reduceSub, Int.reduceNeg, ii_add, ii_sub, ii_mul, ii_lt, ii_le, ii_eq, ixn_ii, ixo_ii, rem_ii, nb_1, nb_0, nb_bb, bb_0, hI_gv, Int.toNat_of_nonneg, Int.cast_ofNat_Int, ht_sI, ht_sJ, ht_sR, hn_sI, hn_sJ, hn_sR, hR_sI, hR_sJ, kI_v, kV_v, kJ_v, true_and, and_true, forall_eq, tg, ln, rf, ne_eq, not_false_eq_true, forall_const, not_true_eq_false, false_implies, gv_sIn, gv_sIi, z2, z3]
            exact y
          · simp (disch := first | omega | decide | assumption | exact st_ne s0 (by decide) (by decide) (by decide) | exact dyn_ne (by assumption) (by decide) | fail) only [Int.reduceAdd, Int.reduceSub, Int.reduceNeg, ii_add, ii_sub, ii_mul, ii_lt, ii_le, ii_eq, ixn_ii, ixo_ii, rem_ii, nb_1, nb_0, nb_bb, bb_0, hI_gv, Int.toNat_of_nonneg, Int.cast_ofNat_Int, ht_sI, ht_sJ, ht_sR, hn_sI, hn_sJ, hn_sR, hR_sI, hR_sJ, kI_v, kV_v, kJ_v, true_and, and_true, forall_eq, tg, ln, rf, ne_eq, not_false_eq_true, forall_const, not_true_eq_false, false_implies, gv_sIn, gv_sIi]
            exact ud_eq _ _ _
          · unfold agK
            simp (disch := first | omega | decide | assumption | exact st_ne s0 (by decide) (by decide) (by decide) | exact dyn_ne (by assumption) (by decide) | fail) only [Int.reduceAdd, Int.reduceSub, Int.reduceNeg, ii_add, ii_sub, ii_mul, ii_lt, ii_le, ii_eq, ixn_ii, ixo_ii, rem_ii, nb_1, nb_0, nb_bb, bb_0, hI_gv, Int.toNat_of_nonneg, Int.cast_ofNat_Int, ht_sI, ht_sJ, ht_sR, hn_sI, hn_sJ, hn_sR, hR_sI, hR_sJ, kI_v, kV_v, kJ_v, true_and, and_true, forall_eq, tg, ln, rf, ne_eq, not_false_eq_true, forall_const, not_true_eq_false, false_implies, gv_sIn, gv_sIi, z8, z9, z10]
          · intro i i0 i1
            simp (disch := first | omega | decide | assumption | exact st_ne s0 (by decide) (by decide) (by decide) | exact dyn_ne (by assumption) (by decide) | fail) only [Int.reduceAdd, Int.reduceSub, Int.reduceNeg, ii_add, ii_sub, ii_mul, ii_lt, ii_le, ii_eq, ixn_ii, ixo_ii, rem_ii, nb_1, nb_0, nb_bb, bb_0, hI_gv, Int.toNat_of_nonneg, Int.cast_ofNat_Int, ht_sI, ht_sJ, ht_sR, hn_sI, hn_sJ, hn_sR, hR_sI, hR_sJ, kI_v, kV_v, kJ_v, true_and, and_true, forall_eq, tg, ln, rf, ne_eq, not_false_eq_true, forall_const, not_true_eq_false, false_implies, gv_sIn, gv_sIi]
            exact ⟨ud_ne (by omega), ud_ne (by omega)⟩
      have al1 : nd.w = 0 → (ndO nd x).al = false := by
        intro e0
        show (decide (0 < nd.w) && decide (nd.hp (nd.w - 1) = x)) = false
        rw [decide_eq_false (by omega)]; rfl
      have al2 : ¬ nd.w = 0 → (ndO nd x).al = decide (nd.hp (nd.w - 1) = x) := by
        intro e0
        show (decide (0 < nd.w) && decide (nd.hp (nd.w - 1) = x)) = _
        rw [decide_eq_true (by omega), Bool.true_and]
      by_cases e0 : nd.w = 0
      · rw [if_pos e0] at hb
        rw [al1 e0, if_neg (by decide)] at go
        simp (disch := first | omega | decide | assumption | exact st_ne s0 (by decide) (by decide) (by decide) | exact dyn_ne (by assumption) (by decide) | fail) only [Int.reduceAdd, Int.reduceSub, Int.reduceNeg, ii_add, ii_sub, ii_mul, ii_lt, ii_le, ii_eq, ixn_ii, ixo_ii, rem_ii, nb_1, nb_0, nb_bb, bb_0, hI_gv, Int.toNat_of_nonneg, Int.cast_ofNat_Int, ht_sI, ht_sJ, ht_sR, hn_sI, hn_sJ, hn_sR, hR_sI, hR_sJ, kI_v, kV_v, kJ_v, true_and, and_true, forall_eq, tg, ln, rf, ne_eq, not_false_eq_true, forall_const, not_true_eq_false, false_implies, Int.reduceEq, Int.reduceLT, Int.reduceLE, implies_true, and_self, reduceCtorEq, false_and, W_X1_openWalk_2, st_t s0, st_n s0, st_r s0, x3, c3, hb, gv_sIn]
        exact ⟨fun _ => ⟨by omega, fun g2 => absurd g2 g, fun _ => ⟨by omega, by omega, go⟩⟩, fun _ => ⟨by omega, by omega, go⟩⟩
      · rw [if_neg e0] at hb
        rw [al2 e0] at go
        have e1 := n_b0 k (k := nd.w - 1) (by omega) (by omega)
        have e2 := c6 (nd.w - 1) (by omega) (by omega)
        have e3 := k.p1 (nd.w - 1) (by omega) (by omega)
        have b9 : ¬ nd.bg (nd.w - 1) = -1 := by omega
        by_cases e4 : nd.hp (nd.w - 1) = x
        · rw [decide_eq_true e4, if_pos rfl] at go
          simp (disch := first | omega | decide | assumption | exact st_ne s0 (by decide) (by decide) (by decide) | exact dyn_ne (by assumption) (by decide) | fail) only [Int.reduceAdd, Int.reduceSub, Int.reduceNeg, ii_add, ii_sub, ii_mul, ii_lt, ii_le, ii_eq, ixn_ii, ixo_ii, rem_ii, nb_1, nb_0, nb_bb, bb_0, hI_gv, Int.toNat_of_nonneg, Int.cast_ofNat_Int, ht_sI, ht_sJ, ht_sR, hn_sI, hn_sJ, hn_sR, hR_sI, hR_sJ, kI_v, kV_v, kJ_v, true_and, and_true, forall_eq, tg, ln, rf, ne_eq, not_false_eq_true, forall_const, not_true_eq_false, false_implies, Int.reduceEq, Int.reduceLT, Int.reduceLE, implies_true, and_self, reduceCtorEq, false_and, W_X1_openWalk_2, st_t s0, st_n s0, st_r s0, x3, c3, hb, gv_sIn, b9, e2, e4]
          exact ⟨fun _ => ⟨by omega, fun g2 => absurd g2 g, fun _ => ⟨by omega, by omega, by omega, go⟩⟩, fun _ => ⟨by omega, by omega, by omega, go⟩⟩
        · rw [decide_eq_false e4, if_neg (by decide)] at go
          simp (disch := first | omega | decide | assumption | exact st_ne s0 (by decide) (by decide) (by decide) | exact dyn_ne (by assumption) (by decide) | fail) only [Int.reduceAdd, Int.reduceSub, Int.reduceNeg, ii_add, ii_sub, ii_mul, ii_lt, ii_le, ii_eq, ixn_ii, ixo_ii, rem_ii, nb_1, nb_0, nb_bb, bb_0, hI_gv, Int.toNat_of_nonneg, Int.cast_ofNat_Int, ht_sI, ht_sJ, ht_sR, hn_sI, hn_sJ, hn_sR, hR_sI, hR_sJ, kI_v, kV_v, kJ_v, true_and, and_true, forall_eq, tg, ln, rf, ne_eq, not_false_eq_true, forall_const, not_true_eq_false, false_implies, Int.reduceEq, Int.reduceLT, Int.reduceLE, implies_true, and_self, reduceCtorEq, false_and, W_X1_openWalk_2, st_t s0, st_n s0, st_r s0, x3, c3, hb, gv_sIn, b9, e2, e4]
          exact ⟨fun _ => ⟨by omega, fun g2 => absurd g2 g, fun _ => ⟨by omega, by omega, by omega, go⟩⟩, fun _ => ⟨by omega, by omega, by omega, go⟩⟩
theorem k_openWalk (ok : tr_ok E) (s0 : stat ad h) (v : vok m one two H L) (k : nok one two H L 0 nd) (cp : cpA ad h nd) (ea : 0 < nd.ea) {bf : Int} (hb : bf = if nd.w = 0 then -1 else nd.bg (nd.w - 1)) (q : ∀ h', fr ad pC f0 false h h' → csA ad h' (ndO nd (fhp nd.A 0 H.toNat)) → gv h' (ad 10) nd.d = sv (ndO nd (fhp nd.A 0 H.toNat)) → agK ad h h' → agD ad nd.d h h' → Q (.inl none) h') : tr_C E 14 [.inr (.inr (ad 2)), .inl (ii nd.d), .inl (ii bf)] h Q := by
  refine T_X1_openWalk ok ?_
  have vH := v_H v
  exact k_openWalk_2 ok s0 v k cp ea hb q H.toNat 0 (by omega) (by omega) rfl
theorem k_goOn (ok : tr_ok E) (s0 : stat ad h) (n : nst ad h nn m one two H L) (v : vok m one two H L) (k : nok one two H L 1 nd) (cs : csA ad h nd) {l : Int} (l0 : 0 ≤ l) (l1 : l < L) (l2 : nd.B l ≠ 0) (hm : gv h (ad 10) nd.d = l) (q : ∀ h', fr ad pC f0 false h h' → csA ad h' (ndL two nd l) → gv h' (ad 10) (nd.d + 1) = sv (ndL two nd l) → agK ad h h' → agD ad (nd.d + 1) h h' → Q (.inl (some (.inl (ii (nd.d + 1))))) h') : tr_C E 15 [.inr (.inr (ad 2)), .inr (.inr nn), .inl (ii nd.d)] h Q := by
  have vH := v_H v
  have vL := v_L v
  have hv := v_l v l0 l1
  obtain ⟨b1, b2, b3, b4, b5, b6, b7⟩ := n_rg v (by decide) k
  obtain ⟨c1, c2, c3, c4, c5, c6, c7, c8, c9⟩ := id cs
  have x1 := c2 l l0 (by omega)
  have x2 := k.b1 l l0 (by omega)
  have cb1 : 1 ≤ nd.cb := by
    have sx := sm_one L.toNat 0 (fun j j1 j2 => (k.b1 j j1 (by omega)).1) l0 (by omega)
    rw [← k.s2] at sx; omega
  have kl := nok_L (two := two) vL.2 k l0 l1 l2 hv.2.2
  have x3 := c8 nd.w nd.d b3 (Int.le_refl _) b7 (by unfold enN; rw [if_pos rfl]; omega)
  have emn : mn (ndL two nd l) = mn nd + 1 := by
    show nd.d + 1 - nd.bg nd.w = nd.d - nd.bg nd.w + 1
    omega
  have mn0 : 0 ≤ mn nd := by unfold mn; omega
  have hal : nd.al = true → 1 ≤ nd.w ∧ 0 ≤ nd.bg (nd.w - 1) + mn nd ∧ nd.bg (nd.w - 1) + mn nd < nd.d := by
    intro ha
    have p3 := k.p3 rfl ha
    have e1 := n_b0 k (k := nd.w - 1) (by omega) (by omega)
    have p4 := p3.2
    unfold ah mn at p4
    refine ⟨p3.1, by omega, ?_⟩
    unfold mn; omega
  have hal2 : (ndL two nd l).al = true → nd.al = true := by
    intro ha
    have ha : (gA nd && decide (l = lst0 nd)) = true := ha
    unfold gA at ha
    rw [Bool.and_eq_true, Bool.and_eq_true] at ha
    exact ha.1.1
  have svr : -2 ≤ sv (ndL two nd l) ∧ sv (ndL two nd l) ≤ 1000 := by
    have hs := lst0_rg kl vL.1
    by_cases ga : gA (ndL two nd l) = true
    · rw [sv_a kl ga]; omega
    · rw [Bool.not_eq_true] at ga
      rw [(sv_n kl ga).1]; omega
  have go : tr_C E 13 [.inr (.inr (ad 2)), .inl (ii (nd.d + 1)), .inl (ii (two l)), .inl (ii (nd.bg nd.w)), .inl (ii (if (ndL two nd l).al then nd.bg (nd.w - 1) + mn nd + 1 else -1))] (hsI (hsI h (ad 9) l.toNat (ii (nd.B l - 1))) (ad 2) 3 (ii (nd.cb - 1))) (kV (fun h3 => Q (.inl (some (.inl (ii (nd.d + 1))))) h3) (fun E h' => Q (.inr E) h')) := by
    have mo : gv (hsI (hsI h (ad 9) l.toNat (ii (nd.B l - 1))) (ad 2) 3 (ii (nd.cb - 1))) (ad 10) = gv h (ad 10) := by
      rw [gv_sIn (st_ne s0 (by decide) (by decide) (by decide)), gv_sIn (st_ne s0 (by decide) (by decide) (by decide))]
    refine k_stand (v := sv (ndL two nd l)) ok (st_sI (st_sI s0)) (by omega) (by omega) (by omega) (by omega) (by omega) (by omega) ?_ ?_ ?_ svr.1 svr.2 ?_
    · split
      · next ha => have := hal (hal2 ha); omega
      · omega
    · split
      · next ha => have := hal (hal2 ha); omega
      · omega
    · rw [mo]
      by_cases ha : (ndL two nd l).al = true
      · have h3 := hal (hal2 ha)
        have e9 : (ndL two nd l).bg ((ndL two nd l).w - 1) + mn (ndL two nd l) = nd.bg (nd.w - 1) + mn nd + 1 := by
          rw [emn]
          show nd.bg (nd.w - 1) + (mn nd + 1) = _
          omega
        unfold sv
        rw [if_pos ha, if_pos ha, if_neg (by omega), e9]
        have : gv h (ad 10) (nd.bg (nd.w - 1) + mn nd + 1) = (ndL two nd l).M (nd.bg (nd.w - 1) + mn nd + 1) := by
          show _ = ud nd.M nd.d l _
          by_cases e : nd.bg (nd.w - 1) + mn nd + 1 = nd.d
          · rw [e, ud_eq]; exact hm
          · rw [ud_ne e]; exact c5 _ (by omega) (by omega)
        rw [this]
      · unfold sv
        rw [if_neg ha, if_neg ha, if_pos rfl]
        rfl
    · have hg : (if (ndL two nd l).al then nd.bg (nd.w - 1) + mn nd + 1 else -1) = if (ndL two nd l).al then (ndL two nd l).bg ((ndL two nd l).w - 1) + mn (ndL two nd l) else -1 := by
        rw [emn]
        show _ = if (ndL two nd l).al then nd.bg (nd.w - 1) + (mn nd + 1) else -1
        rw [Int.add_assoc]
      have y := csF_L (two := two) (l := l) k hg cs
      have z2 : ∀ w, ud (gv h (ad 2)) 3 w 3 = w := fun w => ud_eq _ _ _
      have z3 : ∀ w, ud (gv h (ad 2)) 3 w 2 = gv h (ad 2) 2 := fun w => ud_ne (by decide)
      have z8 : ∀ w, ud (gv h (ad 2)) 3 w 8 = gv h (ad 2) 8 := fun w => ud_ne (by decide)
      have z9 : ∀ w, ud (gv h (ad 2)) 3 w 9 = gv h (ad 2) 9 := fun w => ud_ne (by decide)
      have z10 : ∀ w, ud (gv h (ad 2)) 3 w 10 = gv h (ad 2) 10 := fun w => ud_ne (by decide)
      have ud1 : ud (gv h (ad 10)) nd.d l = gv h (ad 10) := by
        funext z
        unfold ud
        split
        · next e => rw [e]; exact hm.symm
        · rfl
      have gr : -1 ≤ (if (ndL two nd l).al then nd.bg (nd.w - 1) + mn nd + 1 else -1) ∧ (if (ndL two nd l).al then nd.bg (nd.w - 1) + mn nd + 1 else -1) ≤ 520 := by
        split
        · next ha => have := hal (hal2 ha); omega
        · omega
      rw [c4, ud1] at y
      clear hg
      generalize (if (ndL two nd l).al then nd.bg (nd.w - 1) + mn nd + 1 else -1) = gg at *
      show Q (.inl (some (.inl (ii (nd.d + 1))))) _
      refine q _ (fr_sI (fr_sI (fr_sI (fr_sI (fr_sI (fr_sI fr_rfl rfl) rfl) rfl) rfl) rfl) rfl) ?_ ?_ ?_ ?_
      · unfold csA
        simp (disch := first | omega | decide | assumption | exact st_ne s0 (by decide) (by decide) (by decide) | exact dyn_ne (by assumption) (by decide) | fail) only [Int.reduceAdd, Int.reduceSub, Int.reduceNeg, ii_add, ii_sub, ii_mul, ii_lt, ii_le, ii_eq, ixn_ii, ixo_ii, rem_ii, nb_1, nb_0, nb_bb, bb_0, hI_gv, Int.toNat_of_nonneg, Int.cast_ofNat_Int, ht_sI, ht_sJ, ht_sR, hn_sI, hn_sJ, hn_sR, hR_sI, hR_sJ, kI_v, kV_v, kJ_v, true_and, and_true, forall_eq, tg, ln, rf, ne_eq, not_false_eq_true, forall_const, not_true_eq_false, false_implies, gv_sIn, gv_sIi, z2, z3]
        exact y
      · simp (disch := first | omega | decide | assumption | exact st_ne s0 (by decide) (by decide) (by decide) | exact dyn_ne (by assumption) (by decide) | fail) only [Int.reduceAdd, Int.reduceSub, Int.reduceNeg, ii_add, ii_sub, ii_mul, ii_lt, ii_le, ii_eq, ixn_ii, ixo_ii, rem_ii, nb_1, nb_0, nb_bb, bb_0, hI_gv, Int.toNat_of_nonneg, Int.cast_ofNat_Int, ht_sI, ht_sJ, ht_sR, hn_sI, hn_sJ, hn_sR, hR_sI, hR_sJ, kI_v, kV_v, kJ_v, true_and, and_true, forall_eq, tg, ln, rf, ne_eq, not_false_eq_true, forall_const, not_true_eq_false, false_implies, gv_sIn, gv_sIi]
        exact ud_eq _ _ _
      · unfold agK
        simp (disch := first | omega | decide | assumption | exact st_ne s0 (by decide) (by decide) (by decide) | exact dyn_ne (by assumption) (by decide) | fail) only [Int.reduceAdd, Int.reduceSub, Int.reduceNeg, ii_add, ii_sub, ii_mul, ii_lt, ii_le, ii_eq, ixn_ii, ixo_ii, rem_ii, nb_1, nb_0, nb_bb, bb_0, hI_gv, Int.toNat_of_nonneg, Int.cast_ofNat_Int, ht_sI, ht_sJ, ht_sR, hn_sI, hn_sJ, hn_sR, hR_sI, hR_sJ, kI_v, kV_v, kJ_v, true_and, and_true, forall_eq, tg, ln, rf, ne_eq, not_false_eq_true, forall_const, not_true_eq_false, false_implies, gv_sIn, gv_sIi, z8, z9, z10]
      · intro i i0 i1
        simp (disch := first | omega | decide | assumption | exact st_ne s0 (by decide) (by decide) (by decide) | exact dyn_ne (by assumption) (by decide) | fail) only [Int.reduceAdd, Int.reduceSub, Int.reduceNeg, ii_add, ii_sub, ii_mul, ii_lt, ii_le, ii_eq, ixn_ii, ixo_ii, rem_ii, nb_1, nb_0, nb_bb, bb_0, hI_gv, Int.toNat_of_nonneg, Int.cast_ofNat_Int, ht_sI, ht_sJ, ht_sR, hn_sI, hn_sJ, hn_sR, hR_sI, hR_sJ, kI_v, kV_v, kJ_v, true_and, and_true, forall_eq, tg, ln, rf, ne_eq, not_false_eq_true, forall_const, not_true_eq_false, false_implies, gv_sIn, gv_sIi]
        exact ⟨ud_ne (by omega), ud_ne (by omega)⟩
  refine T_X1_goOn ok ?_
  obtain ⟨n0, n1, n2, ⟨sa, sb, sc⟩, ⟨ea, eb, ec⟩, -, -, -, -, dy3, -⟩ := id n
  have x5 := ec l l0 l1
  by_cases ha : nd.al = true
  · have h3 := hal ha
    rw [if_pos ha] at c9
    have x6 := c5 _ h3.2.1 h3.2.2
    have b9 : ¬ nd.bg (nd.w - 1) + mn nd = -1 := by omega
    have xm := k.m1 (nd.w - 1) (nd.bg (nd.w - 1) + mn nd) (by omega) (by omega) (by omega)
    have en : enN nd (nd.w - 1) = nd.bg nd.w - 1 := by
      unfold enN
      rw [if_neg (by omega), show nd.w - 1 + 1 = nd.w by omega]
    have p3 := k.p3 rfl ha
    have xr : -1 ≤ nd.M (nd.bg (nd.w - 1) + mn nd) ∧ nd.M (nd.bg (nd.w - 1) + mn nd) ≤ 24 := by
      by_cases ga : gA nd = true
      · have := sv_a k ga
        unfold sv at this
        rw [if_pos ha] at this
        have hs := lst0_rg k vL.1
        omega
      · rw [Bool.not_eq_true] at ga
        have := (sv_n k ga).1
        unfold sv at this
        rw [if_pos ha] at this
        omega
    have key : (ndL two nd l).al = decide (nd.M (nd.bg (nd.w - 1) + mn nd) = l) := by
      show (gA nd && decide (l = lst0 nd)) = _
      by_cases ga : gA nd = true
      · have e1 := sv_a k ga
        unfold sv at e1
        rw [if_pos ha] at e1
        rw [ga, Bool.true_and]
        exact decide_eq_decide.mpr ⟨fun e => by omega, fun e => by omega⟩
      · rw [Bool.not_eq_true] at ga
        have e1 := (sv_n k ga).1
        unfold sv at e1
        rw [if_pos ha] at e1
        rw [ga, Bool.false_and, decide_eq_false (by omega)]
    rw [key] at go
    by_cases e4 : nd.M (nd.bg (nd.w - 1) + mn nd) = l
    · rw [decide_eq_true e4, if_pos rfl] at go
      simp (disch := first | omega | decide | assumption | exact st_ne s0 (by decide) (by decide) (by decide) | exact dyn_ne (by assumption) (by decide) | fail) only [Int.reduceAdd, Int.reduceSub, Int.reduceNeg, ii_add, ii_sub, ii_mul, ii_lt, ii_le, ii_eq, ixn_ii, ixo_ii, rem_ii, nb_1, nb_0, nb_bb, bb_0, hI_gv, Int.toNat_of_nonneg, Int.cast_ofNat_Int, ht_sI, ht_sJ, ht_sR, hn_sI, hn_sJ, hn_sR, hR_sI, hR_sJ, kI_v, kV_v, kJ_v, true_and, and_true, forall_eq, tg, ln, rf, ne_eq, not_false_eq_true, forall_const, not_true_eq_false, false_implies, Int.reduceEq, Int.reduceLT, Int.reduceLE, implies_true, and_self, reduceCtorEq, false_and, W_X1_goOn, st_t s0, st_n s0, st_r s0, hm, x1, c4, gv_sIn, c9, b9, x6, e4, n0, ea, eb, x5, x3]
      exact ⟨by omega, by omega, by omega, by omega, by omega, by omega, by omega, go⟩
    · rw [decide_eq_false e4, if_neg (by decide)] at go
      simp (disch := first | omega | decide | assumption | exact st_ne s0 (by decide) (by decide) (by decide) | exact dyn_ne (by assumption) (by decide) | fail) only [Int.reduceAdd, Int.reduceSub, Int.reduceNeg, ii_add, ii_sub, ii_mul, ii_lt, ii_le, ii_eq, ixn_ii, ixo_ii, rem_ii, nb_1, nb_0, nb_bb, bb_0, hI_gv, Int.toNat_of_nonneg, Int.cast_ofNat_Int, ht_sI, ht_sJ, ht_sR, hn_sI, hn_sJ, hn_sR, hR_sI, hR_sJ, kI_v, kV_v, kJ_v, true_and, and_true, forall_eq, tg, ln, rf, ne_eq, not_false_eq_true, forall_const, not_true_eq_false, false_implies, Int.reduceEq, Int.reduceLT, Int.reduceLE, implies_true, and_self, reduceCtorEq, false_and, W_X1_goOn, st_t s0, st_n s0, st_r s0, hm, x1, c4, gv_sIn, c9, b9, x6, e4, n0, ea, eb, x5, x3]
      exact ⟨by omega, by omega, by omega, by omega, by omega, by omega, by omega, go⟩
  · rw [if_neg ha] at c9
    have key : (ndL two nd l).al = false := by
      rw [Bool.eq_false_iff]
      exact fun e => ha (hal2 e)
    rw [key, if_neg (by decide)] at go
    simp (disch := first | omega | decide | assumption | exact st_ne s0 (by decide) (by decide) (by decide) | exact dyn_ne (by assumption) (by decide) | fail) only [Int.reduceAdd, Int.reduceSub, Int.reduceNeg, ii_add, ii_sub, ii_mul, ii_lt, ii_le, ii_eq, ixn_ii, ixo_ii, rem_ii, nb_1, nb_0, nb_bb, bb_0, hI_gv, Int.toNat_of_nonneg, Int.cast_ofNat_Int, ht_sI, ht_sJ, ht_sR, hn_sI, hn_sJ, hn_sR, hR_sI, hR_sJ, kI_v, kV_v, kJ_v, true_and, and_true, forall_eq, tg, ln, rf, ne_eq, not_false_eq_true, forall_const, not_true_eq_false, false_implies, Int.reduceEq, Int.reduceLT, Int.reduceLE, implies_true, and_self, reduceCtorEq, false_and, W_X1_goOn, st_t s0, st_n s0, st_r s0, hm, x1, c4, gv_sIn, c9, n0, ea, eb, x5, x3]
    exact ⟨by omega, by omega, by omega, by omega, by omega, by omega, go⟩
end DFK2
