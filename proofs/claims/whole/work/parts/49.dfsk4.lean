/-! JOINING, BY THE CLASS: the search -/
section DFK4
variable {E : tr_Env} {ad : Nat → Nat} {h h0 h1 h2 : tr_H} {Q : tr_Q} {m one two : Int → Int} {H L : Int} {nd : Nd} {a : Ac} {nn : Nat} {d : Int}
theorem fhp_ea {c : Int} (v : vok m one two H L) (c0 : 0 ≤ c) (k : nok one two H L c nd) : (fhp nd.A 0 H.toNat < H) = (0 < nd.ea) := by
  have vH := v_H v
  have hx := fhp_rg (A := nd.A) H.toNat 0
  apply propext
  constructor
  · intro g
    have y := fhp_0 (nd := nd) (by omega) g
    have e1 := k.a1 _ y.1 (by omega)
    have sx := sm_one H.toNat 0 (fun j j1 j2 => (k.a1 j j1 (by omega)).1) y.1 (by omega)
    rw [← k.s1] at sx
    omega
  · intro g
    by_cases g2 : fhp nd.A 0 H.toNat < H
    · exact g2
    · have := fhp_z (A := nd.A) H.toNat 0 (by omega)
      rw [← k.s1] at this
      omega
theorem csA_ks {f2 f3 f8 f9 : Int} (s0 : stat ad h) (f : fr ad pK f0 false h h1) (e2 : gv h1 (ad 2) 2 = gv h (ad 2) 2) (e3 : gv h1 (ad 2) 3 = gv h (ad 2) 3) (cs : csA ad h nd) : csA ad h1 nd := by
  unfold csA at cs ⊢
  rw [fr_gv (i := 8) s0 f (by decide) (by decide) rfl pK_lt, fr_gv (i := 9) s0 f (by decide) (by decide) rfl pK_lt, fr_gv (i := 10) s0 f (by decide) (by decide) rfl pK_lt, fr_gv (i := 11) s0 f (by decide) (by decide) rfl pK_lt, fr_gv (i := 12) s0 f (by decide) (by decide) rfl pK_lt, fr_gv (i := 13) s0 f (by decide) (by decide) rfl pK_lt, e2, e3]
  exact cs
theorem k_endWalk (ok : tr_ok E) (s0 : stat ad h) (v : vok m one two H L) (k : nok one two H L 1 nd) (cs : csA ad h nd) (hm : gv h (ad 10) nd.d = -1) (ra : acK ad h a) (ka : aok H L 0 a)
    (q1 : 0 < nd.ea → ∀ h', fr ad pC f0 false h h' → csA ad h' (ndO (ndX nd) (fhp nd.A 0 H.toNat)) → gv h' (ad 10) (nd.d + 1) = sv (ndO (ndX nd) (fhp nd.A 0 H.toNat)) → agK ad h h' → agD ad (nd.d + 1) h h' → Q (.inl (some (.inl (ii (nd.d + 1))))) h')
    (q2 : nd.ea = 0 → nd.cb = 0 → ∀ h', fr ad pC f0 false h h' → csA ad h' nd → gv h' (ad 10) nd.d = -1 → acK ad h' (tkS (ndX nd) a) → agD ad (nd.d + 1) h h' → Q (.inl (some (.inl (ii nd.d)))) h')
    (q3 : nd.ea = 0 → ¬ nd.cb = 0 → Q (.inl (some (.inl (ii nd.d)))) h) : tr_C E 16 [.inr (.inr (ad 2)), .inl (ii nd.d)] h Q := by
  refine T_X1_endWalk ok ?_
  have vH := v_H v
  obtain ⟨b1, b2, b3, b4, b5, b6, b7⟩ := n_rg v (by decide) k
  obtain ⟨c1, c2, c3, c4, c5, c6, c7, c8, c9⟩ := id cs
  obtain ⟨a1, a2, a3, a4⟩ := id ra
  have kx := nok_X vH.2 k
  have cp : cpA ad h (ndX nd) := cpF_X k cs hm
  have ka2 := ka.2.1
  have ka1 := ka.1
  have x3 := c8 nd.w nd.d b3 (Int.le_refl _) b7 (by unfold enN; rw [if_pos rfl]; omega)
  simp (disch := first | omega | decide | assumption | exact st_ne s0 (by decide) (by decide) (by decide) | exact dyn_ne (by assumption) (by decide) | fail) only [Int.reduceAdd, Int.reduceSub, Int.reduceNeg, ii_add, ii_sub, ii_mul, ii_lt, ii_le, ii_eq, ixn_ii, ixo_ii, rem_ii, nb_1, nb_0, nb_bb, bb_0, hI_gv, Int.toNat_of_nonneg, Int.cast_ofNat_Int, ht_sI, ht_sJ, ht_sR, hn_sI, hn_sJ, hn_sR, hR_sI, hR_sJ, kI_v, kV_v, kJ_v, true_and, and_true, forall_eq, tg, ln, rf, ne_eq, not_false_eq_true, forall_const, not_true_eq_false, false_implies, W_X1_endWalk, st_t s0, st_n s0, st_r s0, c3, c4, a2, x3]
  refine ⟨fun g => ⟨fun g2 => ⟨fun g3 => ?_, fun g3 => ?_⟩, fun g2 => ?_⟩, fun g => ⟨by omega, ?_⟩⟩
  · have et : tkS (ndX nd) a = (a.st, a.se + 1, nd.w + 1, ud nd.M nd.d (-1), ud nd.bg (nd.w + 1) (nd.d + 1), nd.hp) := if_pos g3
    refine k_keepSet (nd := ndX nd) ok s0 v kx cp (by show 0 < nd.w + 1; omega) (a3 g3) (fun h1 f1 k1 => ?_)
    obtain ⟨s1, s2, s3, s4, s5, s6, s7⟩ := k1
    have t0 := st_fr s0 f1
    have e9 : gv h1 (ad 2) 9 = a.se := s4.trans a2
    simp (disch := first | omega | decide | assumption | exact st_ne s0 (by decide) (by decide) (by decide) | exact dyn_ne (by assumption) (by decide) | fail) only [Int.reduceAdd, Int.reduceSub, Int.reduceNeg, ii_add, ii_sub, ii_mul, ii_lt, ii_le, ii_eq, ixn_ii, ixo_ii, rem_ii, nb_1, nb_0, nb_bb, bb_0, hI_gv, Int.toNat_of_nonneg, Int.cast_ofNat_Int, ht_sI, ht_sJ, ht_sR, hn_sI, hn_sJ, hn_sR, hR_sI, hR_sJ, kI_v, kV_v, kJ_v, true_and, and_true, forall_eq, tg, ln, rf, ne_eq, not_false_eq_true, forall_const, not_true_eq_false, false_implies, st_t t0, e9]
    have f2 : fr ad pK f0 false h (hsI h1 (ad 2) 9 (ii (a.se + 1))) := fr_sI f1 rfl
    have z : ∀ z, z ≠ 9 → gv (hsI h1 (ad 2) 9 (ii (a.se + 1))) (ad 2) z = gv h1 (ad 2) z := fun z hz => by rw [gv_sI]; exact ud_ne hz
    refine q2 (by omega) g2 _ (fr_mono pK_pC (fun _ e => e) (fun e => e) f2) (csA_ks (f2 := 0) (f3 := 0) (f8 := 0) (f9 := 0) s0 f2 ((z 2 (by decide)).trans s1) ((z 3 (by decide)).trans s2) cs) ?_ ?_ ?_
    · rw [fr_gv (i := 10) s0 f2 (by decide) (by decide) rfl pK_lt]; exact hm
    · rw [et]
      unfold acK
      have x14 : gv (hsI h1 (ad 2) 9 (ii (a.se + 1))) (ad 14) = gv h1 (ad 14) := gv_sIn (st_ne t0 (by decide) (by decide) (by decide))
      have x15 : gv (hsI h1 (ad 2) 9 (ii (a.se + 1))) (ad 15) = gv h1 (ad 15) := gv_sIn (st_ne t0 (by decide) (by decide) (by decide))
      have x16 : gv (hsI h1 (ad 2) 9 (ii (a.se + 1))) (ad 16) = gv h1 (ad 16) := gv_sIn (st_ne t0 (by decide) (by decide) (by decide))
      have x17 : gv (hsI h1 (ad 2) 9 (ii (a.se + 1))) (ad 17) = gv h1 (ad 17) := gv_sIn (st_ne t0 (by decide) (by decide) (by decide))
      rw [x14, x15, x16, x17]
      refine ⟨(z 8 (by decide)).trans (s3.trans a1), ?_, fun e => ?_, fun _ => ⟨(z 10 (by decide)).trans s5, s7, fun j j0 j1 => s6 j j0 ?_⟩⟩
      · rw [gv_sIi (by omega) (by omega)]; exact ud_eq _ _ _
      · have e : a.se + 1 = 0 := e
        omega
      · have j1 : j < ud nd.bg (nd.w + 1) (nd.d + 1) (nd.w + 1) := j1
        rw [ud_eq] at j1
        exact j1
    · intro j j0 j1
      rw [fr_gv (i := 11) s0 f2 (by decide) (by decide) rfl pK_lt, fr_gv (i := 13) s0 f2 (by decide) (by decide) rfl pK_lt]
      exact ⟨rfl, rfl⟩
  · have et : tkS (ndX nd) a = (a.st, a.se + 1, a.fw, a.fM, a.fb, a.fh) := if_neg g3
    have f2 : fr ad pK f0 false h (hsI h (ad 2) 9 (ii (a.se + 1))) := fr_sI fr_rfl rfl
    have z : ∀ z, z ≠ 9 → gv (hsI h (ad 2) 9 (ii (a.se + 1))) (ad 2) z = gv h (ad 2) z := fun z hz => by rw [gv_sI]; exact ud_ne hz
    refine q2 (by omega) g2 _ (fr_mono pK_pC (fun _ e => e) (fun e => e) f2) (csA_ks (f2 := 0) (f3 := 0) (f8 := 0) (f9 := 0) s0 f2 (z 2 (by decide)) (z 3 (by decide)) cs) ?_ ?_ ?_
    · rw [fr_gv (i := 10) s0 f2 (by decide) (by decide) rfl pK_lt]; exact hm
    · rw [et]
      unfold acK
      have x14 : gv (hsI h (ad 2) 9 (ii (a.se + 1))) (ad 14) = gv h (ad 14) := gv_sIn (st_ne s0 (by decide) (by decide) (by decide))
      have x15 : gv (hsI h (ad 2) 9 (ii (a.se + 1))) (ad 15) = gv h (ad 15) := gv_sIn (st_ne s0 (by decide) (by decide) (by decide))
      have x16 : gv (hsI h (ad 2) 9 (ii (a.se + 1))) (ad 16) = gv h (ad 16) := gv_sIn (st_ne s0 (by decide) (by decide) (by decide))
      have x17 : gv (hsI h (ad 2) 9 (ii (a.se + 1))) (ad 17) = gv h (ad 17) := gv_sIn (st_ne s0 (by decide) (by decide) (by decide))
      rw [x14, x15, x16, x17]
      refine ⟨(z 8 (by decide)).trans a1, ?_, fun e => ?_, fun _ => ?_⟩
      · rw [gv_sIi (by omega) (by omega)]; exact ud_eq _ _ _
      · have e : a.se + 1 = 0 := e
        omega
      · have a5 := a4 (by omega)
        exact ⟨(z 10 (by decide)).trans a5.1, a5.2.1, a5.2.2⟩
    · intro j j0 j1
      rw [fr_gv (i := 11) s0 f2 (by decide) (by decide) rfl pK_lt, fr_gv (i := 13) s0 f2 (by decide) (by decide) rfl pK_lt]
      exact ⟨rfl, rfl⟩
  · exact q3 (by omega) g2
  · refine k_openWalk (nd := ndX nd) ok s0 v kx cp (by show 0 < nd.ea; omega) ?_ (fun h' f' cs' e1 e2 e3 => ?_)
    · have e1 : (ndX nd).w = nd.w + 1 := rfl
      have e2 : (ndX nd).bg = ud nd.bg (nd.w + 1) (nd.d + 1) := rfl
      rw [e1, e2, if_neg (by omega), show nd.w + 1 - 1 = nd.w by omega, ud_ne (by omega)]
    · exact q1 (by omega) h' f' cs' e1 e2 e3
theorem k_takeBack_L (ok : tr_ok E) (s0 : stat ad h) (v : vok m one two H L) (k : nok one two H L 1 nd) {l : Int} (l0 : 0 ≤ l) (l1 : l < L) (l2 : nd.B l ≠ 0) (cs : csA ad h (ndL two nd l)) (p1 : gv h (ad 11) nd.d = nd.pl) (p2 : gv h (ad 13) nd.d = if nd.al then nd.bg (nd.w - 1) + mn nd else -1) (q : ∀ h', fr ad pC f0 false h h' → csA ad h' nd → gv h' (ad 10) nd.d = l → agK ad h h' → agD ad 520 h h' → Q (.inl none) h') : tr_C E 17 [.inr (.inr (ad 2)), .inl (ii nd.d)] h Q := by
  refine T_X1_takeBack ok ?_
  have vL := v_L v
  obtain ⟨b1, b2, b3, b4, b5, b6, b7⟩ := n_rg v (by decide) k
  obtain ⟨y1, y2⟩ := csF_Lb k l0 (by omega) p1 p2 cs
  obtain ⟨c1, c2, c3, c4, -⟩ := id cs
  have i1 : gv h (ad 9) l = nd.B l - 1 := by
    have : gv h (ad 9) l = ud nd.B l (nd.B l - 1) l := c2 l l0 (by omega)
    rw [ud_eq] at this; exact this
  have i2 : gv h (ad 2) 3 = nd.cb - 1 := c4
  have x4 := k.b1 l l0 (by omega)
  have nl : ¬ l = -1 := by omega
  rw [i1, i2] at y1
  simp (disch := first | omega | decide | assumption | exact st_ne s0 (by decide) (by decide) (by decide) | exact dyn_ne (by assumption) (by decide) | fail) only [Int.reduceAdd, Int.reduceSub, Int.reduceNeg, ii_add, ii_sub, ii_mul, ii_lt, ii_le, ii_eq, ixn_ii, ixo_ii, rem_ii, nb_1, nb_0, nb_bb, bb_0, hI_gv, Int.toNat_of_nonneg, Int.cast_ofNat_Int, ht_sI, ht_sJ, ht_sR, hn_sI, hn_sJ, hn_sR, hR_sI, hR_sJ, kI_v, kV_v, kJ_v, true_and, and_true, forall_eq, tg, ln, rf, ne_eq, not_false_eq_true, forall_const, not_true_eq_false, false_implies, Int.reduceEq, Int.reduceLT, Int.reduceLE, implies_true, and_self, reduceCtorEq, false_and, W_X1_takeBack, st_t s0, st_n s0, st_r s0, y2, i1, i2, gv_sIn, nl]
  refine ⟨fun g => by omega, fun _ => ⟨by omega, by omega, by omega, by omega, ?_⟩⟩
  have z2 : ∀ w, ud (gv h (ad 2)) 3 w 3 = w := fun w => ud_eq _ _ _
  have z3 : ∀ w, ud (gv h (ad 2)) 3 w 2 = gv h (ad 2) 2 := fun w => ud_ne (by decide)
  have z8 : ∀ w, ud (gv h (ad 2)) 3 w 8 = gv h (ad 2) 8 := fun w => ud_ne (by decide)
  have z9 : ∀ w, ud (gv h (ad 2)) 3 w 9 = gv h (ad 2) 9 := fun w => ud_ne (by decide)
  have z10 : ∀ w, ud (gv h (ad 2)) 3 w 10 = gv h (ad 2) 10 := fun w => ud_ne (by decide)
  refine q _ (fr_sI (fr_sI fr_rfl rfl) rfl) ?_ ?_ ?_ ?_
  · unfold csA
    simp (disch := first | omega | decide | assumption | exact st_ne s0 (by decide) (by decide) (by decide) | exact dyn_ne (by assumption) (by decide) | fail) only [Int.reduceAdd, Int.reduceSub, Int.reduceNeg, ii_add, ii_sub, ii_mul, ii_lt, ii_le, ii_eq, ixn_ii, ixo_ii, rem_ii, nb_1, nb_0, nb_bb, bb_0, hI_gv, Int.toNat_of_nonneg, Int.cast_ofNat_Int, ht_sI, ht_sJ, ht_sR, hn_sI, hn_sJ, hn_sR, hR_sI, hR_sJ, kI_v, kV_v, kJ_v, true_and, and_true, forall_eq, tg, ln, rf, ne_eq, not_false_eq_true, forall_const, not_true_eq_false, false_implies, gv_sIn, gv_sIi, z2, z3]
    exact y1
  · simp (disch := first | omega | decide | assumption | exact st_ne s0 (by decide) (by decide) (by decide) | exact dyn_ne (by assumption) (by decide) | fail) only [Int.reduceAdd, Int.reduceSub, Int.reduceNeg, ii_add, ii_sub, ii_mul, ii_lt, ii_le, ii_eq, ixn_ii, ixo_ii, rem_ii, nb_1, nb_0, nb_bb, bb_0, hI_gv, Int.toNat_of_nonneg, Int.cast_ofNat_Int, ht_sI, ht_sJ, ht_sR, hn_sI, hn_sJ, hn_sR, hR_sI, hR_sJ, kI_v, kV_v, kJ_v, true_and, and_true, forall_eq, tg, ln, rf, ne_eq, not_false_eq_true, forall_const, not_true_eq_false, false_implies, gv_sIn, gv_sIi]
    exact y2
  · unfold agK
    simp (disch := first | omega | decide | assumption | exact st_ne s0 (by decide) (by decide) (by decide) | exact dyn_ne (by assumption) (by decide) | fail) only [Int.reduceAdd, Int.reduceSub, Int.reduceNeg, ii_add, ii_sub, ii_mul, ii_lt, ii_le, ii_eq, ixn_ii, ixo_ii, rem_ii, nb_1, nb_0, nb_bb, bb_0, hI_gv, Int.toNat_of_nonneg, Int.cast_ofNat_Int, ht_sI, ht_sJ, ht_sR, hn_sI, hn_sJ, hn_sR, hR_sI, hR_sJ, kI_v, kV_v, kJ_v, true_and, and_true, forall_eq, tg, ln, rf, ne_eq, not_false_eq_true, forall_const, not_true_eq_false, false_implies, gv_sIn, gv_sIi, z8, z9, z10]
  · intro i i0 i1
    simp (disch := first | omega | decide | assumption | exact st_ne s0 (by decide) (by decide) (by decide) | exact dyn_ne (by assumption) (by decide) | fail) only [Int.reduceAdd, Int.reduceSub, Int.reduceNeg, ii_add, ii_sub, ii_mul, ii_lt, ii_le, ii_eq, ixn_ii, ixo_ii, rem_ii, nb_1, nb_0, nb_bb, bb_0, hI_gv, Int.toNat_of_nonneg, Int.cast_ofNat_Int, ht_sI, ht_sJ, ht_sR, hn_sI, hn_sJ, hn_sR, hR_sI, hR_sJ, kI_v, kV_v, kJ_v, true_and, and_true, forall_eq, tg, ln, rf, ne_eq, not_false_eq_true, forall_const, not_true_eq_false, false_implies, gv_sIn, gv_sIi]
theorem k_takeBack_X (ok : tr_ok E) (s0 : stat ad h) (v : vok m one two H L) (k : nok one two H L 1 nd) (hea : 0 < nd.ea) {x : Int} (x0 : 0 ≤ x) (x1 : x < H) (cs : csA ad h (ndO (ndX nd) x)) (p1 : gv h (ad 11) nd.d = nd.pl) (p2 : gv h (ad 13) nd.d = if nd.al then nd.bg (nd.w - 1) + mn nd else -1) (q : ∀ h', fr ad pC f0 false h h' → csA ad h' nd → gv h' (ad 10) nd.d = -1 → agK ad h h' → agD ad 520 h h' → Q (.inl none) h') : tr_C E 17 [.inr (.inr (ad 2)), .inl (ii nd.d)] h Q := by
  refine T_X1_takeBack ok ?_
  have vH := v_H v
  obtain ⟨b1, b2, b3, b4, b5, b6, b7⟩ := n_rg v (by decide) k
  have kx := nok_X vH.2 k
  have y0 := cpF_Ob kx x0 (by omega) cs
  obtain ⟨c1, c2, c3, c4, c5, c6, c7, -⟩ := id cs
  have i1 : gv h (ad 8) x = nd.A x - 1 := by
    have : gv h (ad 8) x = ud nd.A x (nd.A x - 1) x := c1 x x0 (by omega)
    rw [ud_eq] at this; exact this
  have i2 : gv h (ad 2) 2 = nd.ea - 1 := c3
  have i3 : gv h (ad 11) (nd.d + 1) = x := c7
  have i4 : gv h (ad 10) nd.d = -1 := by
    have : gv h (ad 10) nd.d = ud nd.M nd.d (-1) nd.d := c5 nd.d (by omega) (by show nd.d < nd.d + 1; omega)
    rw [ud_eq] at this; exact this
  have x4 := k.a1 x x0 (by omega)
  obtain ⟨y1, y2⟩ := csF_Xb (X13 := gv h (ad 13)) k p1 p2 y0
  rw [i1, i2] at y1
  simp (disch := first | omega | decide | assumption | exact st_ne s0 (by decide) (by decide) (by decide) | exact dyn_ne (by assumption) (by decide) | fail) only [Int.reduceAdd, Int.reduceSub, Int.reduceNeg, ii_add, ii_sub, ii_mul, ii_lt, ii_le, ii_eq, ixn_ii, ixo_ii, rem_ii, nb_1, nb_0, nb_bb, bb_0, hI_gv, Int.toNat_of_nonneg, Int.cast_ofNat_Int, ht_sI, ht_sJ, ht_sR, hn_sI, hn_sJ, hn_sR, hR_sI, hR_sJ, kI_v, kV_v, kJ_v, true_and, and_true, forall_eq, tg, ln, rf, ne_eq, not_false_eq_true, forall_const, not_true_eq_false, false_implies, Int.reduceEq, Int.reduceLT, Int.reduceLE, implies_true, and_self, reduceCtorEq, false_and, W_X1_takeBack, st_t s0, st_n s0, st_r s0, i4, i3, i1, i2, gv_sIn]
  refine ⟨fun g => by omega, fun _ => ⟨by omega, by omega, by omega, by omega, ?_⟩⟩
  have z2 : ∀ w, ud (gv h (ad 2)) 2 w 2 = w := fun w => ud_eq _ _ _
  have z3 : ∀ w, ud (gv h (ad 2)) 2 w 3 = gv h (ad 2) 3 := fun w => ud_ne (by decide)
  have z8 : ∀ w, ud (gv h (ad 2)) 2 w 8 = gv h (ad 2) 8 := fun w => ud_ne (by decide)
  have z9 : ∀ w, ud (gv h (ad 2)) 2 w 9 = gv h (ad 2) 9 := fun w => ud_ne (by decide)
  have z10 : ∀ w, ud (gv h (ad 2)) 2 w 10 = gv h (ad 2) 10 := fun w => ud_ne (by decide)
  refine q _ (fr_sI (fr_sI fr_rfl rfl) rfl) ?_ ?_ ?_ ?_
  · unfold csA
    simp (disch := first | omega | decide | assumption | exact st_ne s0 (by decide) (by decide) (by decide) | exact dyn_ne (by assumption) (by decide) | fail) only [Int.reduceAdd, Int.reduceSub, Int.reduceNeg, ii_add, ii_sub, ii_mul, ii_lt, ii_le, ii_eq, ixn_ii, ixo_ii, rem_ii, nb_1, nb_0, nb_bb, bb_0, hI_gv, Int.toNat_of_nonneg, Int.cast_ofNat_Int, ht_sI, ht_sJ, ht_sR, hn_sI, hn_sJ, hn_sR, hR_sI, hR_sJ, kI_v, kV_v, kJ_v, true_and, and_true, forall_eq, tg, ln, rf, ne_eq, not_false_eq_true, forall_const, not_true_eq_false, false_implies, gv_sIn, gv_sIi, z2, z3]
    exact y1
  · simp (disch := first | omega | decide | assumption | exact st_ne s0 (by decide) (by decide) (by decide) | exact dyn_ne (by assumption) (by decide) | fail) only [Int.reduceAdd, Int.reduceSub, Int.reduceNeg, ii_add, ii_sub, ii_mul, ii_lt, ii_le, ii_eq, ixn_ii, ixo_ii, rem_ii, nb_1, nb_0, nb_bb, bb_0, hI_gv, Int.toNat_of_nonneg, Int.cast_ofNat_Int, ht_sI, ht_sJ, ht_sR, hn_sI, hn_sJ, hn_sR, hR_sI, hR_sJ, kI_v, kV_v, kJ_v, true_and, and_true, forall_eq, tg, ln, rf, ne_eq, not_false_eq_true, forall_const, not_true_eq_false, false_implies, gv_sIn, gv_sIi]
    exact i4
  · unfold agK
    simp (disch := first | omega | decide | assumption | exact st_ne s0 (by decide) (by decide) (by decide) | exact dyn_ne (by assumption) (by decide) | fail) only [Int.reduceAdd, Int.reduceSub, Int.reduceNeg, ii_add, ii_sub, ii_mul, ii_lt, ii_le, ii_eq, ixn_ii, ixo_ii, rem_ii, nb_1, nb_0, nb_bb, bb_0, hI_gv, Int.toNat_of_nonneg, Int.cast_ofNat_Int, ht_sI, ht_sJ, ht_sR, hn_sI, hn_sJ, hn_sR, hR_sI, hR_sJ, kI_v, kV_v, kJ_v, true_and, and_true, forall_eq, tg, ln, rf, ne_eq, not_false_eq_true, forall_const, not_true_eq_false, false_implies, gv_sIn, gv_sIi, z8, z9, z10]
  · intro i i0 i1
    simp (disch := first | omega | decide | assumption | exact st_ne s0 (by decide) (by decide) (by decide) | exact dyn_ne (by assumption) (by decide) | fail) only [Int.reduceAdd, Int.reduceSub, Int.reduceNeg, ii_add, ii_sub, ii_mul, ii_lt, ii_le, ii_eq, ixn_ii, ixo_ii, rem_ii, nb_1, nb_0, nb_bb, bb_0, hI_gv, Int.toNat_of_nonneg, Int.cast_ofNat_Int, ht_sI, ht_sJ, ht_sR, hn_sI, hn_sJ, hn_sR, hR_sI, hR_sJ, kI_v, kV_v, kJ_v, true_and, and_true, forall_eq, tg, ln, rf, ne_eq, not_false_eq_true, forall_const, not_true_eq_false, false_implies, gv_sIn, gv_sIi]
end DFK4
