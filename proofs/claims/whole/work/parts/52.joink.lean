/-! JOINING, BY THE CLASS: from the reports to the sets -/
def kjs (ad : Nat → Nat) (h : tr_H) (a : Ac) : Prop := gv h (ad 2) 9 = jts a ∧ (ovr a = false → acK ad h a)
section JNK
variable {E : tr_Env} {ad : Nat → Nat} {h h0 : tr_H} {Q : tr_Q} {m one two : Int → Int} {H L : Int} {nn : Nat}
theorem k_join (ok : tr_ok E) (s0 : stat ad h) (nw : nst ad h nn m one two H L) (v : vok m one two H L) {l : Int} (g : gst ad h (en m l) (ca m l) (el m l) (cl m l)) (q : ∀ h', fr ad pC f0 false h h' → kjs ad h' (jn m one two H L l) → Q (.inl none) h') : tr_C E 11 [.inr (.inr (ad 2)), .inr (.inr nn)] h Q := by
  refine T_X1_join ok ?_
  have vH := v_H v
  have vL := v_L v
  obtain ⟨gA', gB, gC, gD⟩ := id g
  have he := el_rg (l := l) v
  have hc := cl_rg (l := l) v
  have h4 := el_40 (l := l) v
  have k0 := nok_00 (l := l) v
  have fe := fhp_ea v (by decide) k0
  have eA : (nd00 m l).A = en m l := rfl
  have e1 : (nd00 m l).ea = el m l := rfl
  have e2 : (nd00 m l).cb = cl m l := rfl
  rw [eA, e1] at fe
  have z : ∀ (X : Int → Int) (w : Int), w ≠ 9 → w ≠ 10 → w ≠ 8 → ud (ud (ud X 9 0) 10 0) 8 0 w = X w := fun X w h1 h2 h3 => by
    rw [ud_ne h3, ud_ne h2, ud_ne h1]
  have z2 := z (gv h (ad 2)) 2 (by decide) (by decide) (by decide)
  have z3 := z (gv h (ad 2)) 3 (by decide) (by decide) (by decide)
  have f1 : fr ad pC f0 false h (hsI (hsI (hsI h (ad 2) 9 (ii 0)) (ad 2) 10 (ii 0)) (ad 2) 8 (ii 0)) := fr_sI (fr_sI (fr_sI fr_rfl rfl) rfl) rfl
  have y8 : gv (hsI (hsI (hsI h (ad 2) 9 (ii 0)) (ad 2) 10 (ii 0)) (ad 2) 8 (ii 0)) (ad 2) 8 = 0 := by
    rw [gv_sIi (by decide) (by decide)]; exact ud_eq _ _ _
  have y9 : gv (hsI (hsI (hsI h (ad 2) 9 (ii 0)) (ad 2) 10 (ii 0)) (ad 2) 8 (ii 0)) (ad 2) 9 = 0 := by
    rw [gv_sIi (by decide) (by decide), gv_sIi (by decide) (by decide), gv_sIi (by decide) (by decide)]
    rw [ud_ne (by decide), ud_ne (by decide)]; exact ud_eq _ _ _
  have y10 : gv (hsI (hsI (hsI h (ad 2) 9 (ii 0)) (ad 2) 10 (ii 0)) (ad 2) 8 (ii 0)) (ad 2) 10 = 0 := by
    rw [gv_sIi (by decide) (by decide), gv_sIi (by decide) (by decide), ud_ne (by decide)]; exact ud_eq _ _ _
  simp (disch := first | omega | decide | assumption | exact st_ne s0 (by decide) (by decide) (by decide) | exact dyn_ne (by assumption) (by decide) | fail) only [Int.reduceAdd, Int.reduceSub, Int.reduceNeg, ii_add, ii_sub, ii_mul, ii_lt, ii_le, ii_eq, ixn_ii, ixo_ii, rem_ii, nb_1, nb_0, nb_bb, bb_0, hI_gv, Int.toNat_of_nonneg, Int.cast_ofNat_Int, ht_sI, ht_sJ, ht_sR, hn_sI, hn_sJ, hn_sR, hR_sI, hR_sJ, kI_v, kV_v, kJ_v, true_and, and_true, forall_eq, tg, ln, rf, ne_eq, not_false_eq_true, forall_const, not_true_eq_false, false_implies, W_X1_join, st_t s0, gv_sIi, z2, z3, gC, gD]
  refine ⟨fun g5 => ⟨fun g6 => ?_, fun g6 => ?_⟩, fun g5 => ?_⟩
  · have hz : ¬ fhp (en m l) 0 H.toNat < H := by rw [fe]; omega
    have ej : jn m one two H L l = (0, 0 + 1, 0, fun _ => 0, fun _ => 0, fun _ => 0) := by
      unfold jn bgP
      rw [eA, if_neg hz, e1, e2, if_pos (by omega)]
      exact if_pos rfl
    rw [ej] at q
    refine q _ (fr_sI f1 rfl) ⟨?_, fun _ => ⟨?_, ?_, fun e => ?_, fun _ => ⟨?_, fun k i0 i1 => ?_, fun j i0 i1 => ?_⟩⟩⟩
    · rw [gv_sIi (by decide) (by decide)]; exact ud_eq _ _ _
    · rw [gv_sIi (by decide) (by decide), ud_ne (by decide)]; exact y8
    · rw [gv_sIi (by decide) (by decide)]; exact ud_eq _ _ _
    · exact absurd (show (0 + 1 : Int) = 0 from e) (by decide)
    · rw [gv_sIi (by decide) (by decide), ud_ne (by decide)]; exact y10
    · have i1 : k < 0 := i1
      omega
    · have i1 : j < 0 := i1
      omega
  · have hz : ¬ fhp (en m l) 0 H.toNat < H := by rw [fe]; omega
    have ej : jn m one two H L l = ac00 := by
      unfold jn bgP
      rw [eA, if_neg hz, e1, e2, if_neg (by omega)]
    rw [ej] at q
    refine q _ (fr_sI f1 rfl) ⟨?_, fun _ => ⟨?_, ?_, fun e => ?_, fun e => absurd e (by decide)⟩⟩
    · rw [gv_sIi (by decide) (by decide)]; exact ud_eq _ _ _
    · rw [gv_sIi (by decide) (by decide), ud_ne (by decide)]; exact y8
    · rw [gv_sIi (by decide) (by decide)]; exact ud_eq _ _ _
    · rw [gv_sIi (by decide) (by decide), ud_ne (by decide)]; exact y10
  · have hz : fhp (en m l) 0 H.toNat < H := by rw [fe]; omega
    have hy := fhp_0 (nd := nd00 m l) (by omega) hz
    have ej : jn m one two H L l = goP one two H L 521 (ndO (nd00 m l) (fhp (en m l) 0 H.toNat)) ac00 := by
      unfold jn bgP
      rw [eA, if_pos hz]
    have cp : cpA ad (hsI (hsI (hsI h (ad 2) 9 (ii 0)) (ad 2) 10 (ii 0)) (ad 2) 8 (ii 0)) (nd00 m l) := by
      unfold cpA
      simp (disch := first | omega | decide | assumption | exact st_ne s0 (by decide) (by decide) (by decide) | exact dyn_ne (by assumption) (by decide) | fail) only [Int.reduceAdd, Int.reduceSub, Int.reduceNeg, ii_add, ii_sub, ii_mul, ii_lt, ii_le, ii_eq, ixn_ii, ixo_ii, rem_ii, nb_1, nb_0, nb_bb, bb_0, hI_gv, Int.toNat_of_nonneg, Int.cast_ofNat_Int, ht_sI, ht_sJ, ht_sR, hn_sI, hn_sJ, hn_sR, hR_sI, hR_sJ, kI_v, kV_v, kJ_v, true_and, and_true, forall_eq, tg, ln, rf, ne_eq, not_false_eq_true, forall_const, not_true_eq_false, false_implies, gv_sIn, gv_sIi, z2, z3]
      refine ⟨gA', gB, gC, gD, fun j j0 j1 => ?_, fun k i0 i1 => ?_, fun k j i0 i1 j0 j1 => ?_⟩
      · have j1 : j < 0 := j1
        omega
      · have i1 : k < 0 := i1
        omega
      · have i1 : k < 0 := i1
        omega
    have ra : acK ad (hsI (hsI (hsI h (ad 2) 9 (ii 0)) (ad 2) 10 (ii 0)) (ad 2) 8 (ii 0)) ac00 := ⟨y8, y9, fun _ => y10, fun e => absurd e (by decide)⟩
    generalize hsI (hsI (hsI h (ad 2) 9 (ii 0)) (ad 2) 10 (ii 0)) (ad 2) 8 (ii 0) = hu at *
    have s1 := st_fr s0 f1
    have nw1 := nst_fr s0 f1 pC_lt nw
    refine k_openWalk (nd := nd00 m l) ok s1 v k0 cp (by rw [e1]; omega) (bf := -1) rfl (fun h2 f2 cs2 m2 ak2 ag2 => ?_)
    have s2 := st_fr s1 f2
    have nw2 := nst_fr s1 f2 pC_lt nw1
    simp (disch := first | omega | decide | assumption | exact st_ne s0 (by decide) (by decide) (by decide) | exact dyn_ne (by assumption) (by decide) | fail) only [Int.reduceAdd, Int.reduceSub, Int.reduceNeg, ii_add, ii_sub, ii_mul, ii_lt, ii_le, ii_eq, ixn_ii, ixo_ii, rem_ii, nb_1, nb_0, nb_bb, bb_0, hI_gv, Int.toNat_of_nonneg, Int.cast_ofNat_Int, ht_sI, ht_sJ, ht_sR, hn_sI, hn_sJ, hn_sR, hR_sI, hR_sJ, kI_v, kV_v, kJ_v, true_and, and_true, forall_eq, tg, ln, rf, ne_eq, not_false_eq_true, forall_const, not_true_eq_false, false_implies]
    have eA2 : (nd00 m l).A = en m l := rfl
    rw [eA2] at cs2 m2
    have hy2 : 0 ≤ fhp (en m l) 0 H.toNat ∧ en m l (fhp (en m l) 0 H.toNat) ≠ 0 := hy
    rw [ej] at q
    generalize fhp (en m l) 0 H.toNat = y at *
    have kl := nok_O (by omega) vH.2 k0 hy2.1 hz hy2.2
    have ht := k0.t1
    have ht : el m l + cl m l + 0 + 0 ≤ 520 := ht
    have rr : (ndO (nd00 m l) y).ea + (ndO (nd00 m l) y).cb < ((521 : Nat) : Int) := by
      rw [r_O, e1, e2]; omega
    have kg := go_st v kl rr (aok_1 aok_00) rfl
    refine k_node ok v 521 (ndO (nd00 m l) y) ac00 h2 0 Q kl rr (aok_1 aok_00) rfl s2 nw2 cs2 m2 (acK_ag ra ak2) (by omega) (Int.le_refl _) (fun og h3 t3 x f4 cs4 ra4 ag4 m4 x0 x1 x2 t30 t31 => ?_) (fun og h3 f4 m4 => ?_)
    · have bst2 := ovr_st og kg
      have t31 : t3 + 0 ≤ 2 * (goP one two H L 521 (ndO (nd00 m l) y) ac00).st := t31
      have s3 := st_fr s2 f4
      have nw3 := nst_fr s2 f4 pC_lt nw2
      show tr_G E 11 Q 49 [some (.inr (.inr (ad 2))), some (.inr (.inr nn)), some (.inl (ii 0)), some (.inl (ii t3)), none] [] h3 0 0
      refine T_X1_join_49 ok ?_
      simp (disch := first | omega | decide | assumption | exact st_ne s0 (by decide) (by decide) (by decide) | exact dyn_ne (by assumption) (by decide) | fail) only [Int.reduceAdd, Int.reduceSub, Int.reduceNeg, ii_add, ii_sub, ii_mul, ii_lt, ii_le, ii_eq, ixn_ii, ixo_ii, rem_ii, nb_1, nb_0, nb_bb, bb_0, hI_gv, Int.toNat_of_nonneg, Int.cast_ofNat_Int, ht_sI, ht_sJ, ht_sR, hn_sI, hn_sJ, hn_sR, hR_sI, hR_sJ, kI_v, kV_v, kJ_v, true_and, and_true, forall_eq, tg, ln, rf, ne_eq, not_false_eq_true, forall_const, not_true_eq_false, false_implies, Int.reduceEq, Int.reduceLT, Int.reduceLE, implies_true, and_self, reduceCtorEq, false_and, W_X1_join_49, st_t s3]
      refine ⟨fun _ => ?_, fun g => absurd (by omega) g⟩
      refine k_nextMove (nd := ndO (nd00 m l) y) ok s3 nw3 v kl cs4 m4 (by omega) x1 ?_
      have e9 : fnl one (ndO (nd00 m l) y).B (ndO (nd00 m l) y).pl (x + 1) (L - (x + 1)).toNat = -9 := by
        rcases fnl_rg (one := one) (B := (ndO (nd00 m l) y).B) (pl := (ndO (nd00 m l) y).pl) (L - (x + 1)).toNat (x + 1) (by omega) with e | e
        · exact e.1
        · exact absurd ⟨e.2.2.1, Int.ne_of_gt e.2.2.2⟩ (x2 _ (by omega) (by omega))
      rw [if_neg (by omega), e9]
      simp (disch := first | omega | decide | assumption | exact st_ne s0 (by decide) (by decide) (by decide) | exact dyn_ne (by assumption) (by decide) | fail) only [Int.reduceAdd, Int.reduceSub, Int.reduceNeg, ii_add, ii_sub, ii_mul, ii_lt, ii_le, ii_eq, ixn_ii, ixo_ii, rem_ii, nb_1, nb_0, nb_bb, bb_0, hI_gv, Int.toNat_of_nonneg, Int.cast_ofNat_Int, ht_sI, ht_sJ, ht_sR, hn_sI, hn_sJ, hn_sR, hR_sI, hR_sJ, kI_v, kV_v, kJ_v, true_and, and_true, forall_eq, tg, ln, rf, ne_eq, not_false_eq_true, forall_const, not_true_eq_false, false_implies, Int.reduceEq, Int.reduceLT, Int.reduceLE, implies_true, and_self, reduceCtorEq, false_and, st_t s3]
      refine T_X1_takeBack ok ?_
      simp (disch := first | omega | decide | assumption | exact st_ne s0 (by decide) (by decide) (by decide) | exact dyn_ne (by assumption) (by decide) | fail) only [Int.reduceAdd, Int.reduceSub, Int.reduceNeg, ii_add, ii_sub, ii_mul, ii_lt, ii_le, ii_eq, ixn_ii, ixo_ii, rem_ii, nb_1, nb_0, nb_bb, bb_0, hI_gv, Int.toNat_of_nonneg, Int.cast_ofNat_Int, ht_sI, ht_sJ, ht_sR, hn_sI, hn_sJ, hn_sR, hR_sI, hR_sJ, kI_v, kV_v, kJ_v, true_and, and_true, forall_eq, tg, ln, rf, ne_eq, not_false_eq_true, forall_const, not_true_eq_false, false_implies, Int.reduceEq, Int.reduceLT, Int.reduceLE, implies_true, and_self, reduceCtorEq, false_and, W_X1_takeBack]
      refine T_X1_join_49 ok ?_
      have hq := q h3 (fr_tr f1 (fr_tr f2 f4)) ⟨?_, fun _ => ra4⟩
      · simp (disch := first | omega | decide | assumption | exact st_ne s0 (by decide) (by decide) (by decide) | exact dyn_ne (by assumption) (by decide) | fail) only [Int.reduceAdd, Int.reduceSub, Int.reduceNeg, ii_add, ii_sub, ii_mul, ii_lt, ii_le, ii_eq, ixn_ii, ixo_ii, rem_ii, nb_1, nb_0, nb_bb, bb_0, hI_gv, Int.toNat_of_nonneg, Int.cast_ofNat_Int, ht_sI, ht_sJ, ht_sR, hn_sI, hn_sJ, hn_sR, hR_sI, hR_sJ, kI_v, kV_v, kJ_v, true_and, and_true, forall_eq, tg, ln, rf, ne_eq, not_false_eq_true, forall_const, not_true_eq_false, false_implies, Int.reduceEq, Int.reduceLT, Int.reduceLE, implies_true, and_self, reduceCtorEq, false_and, W_X1_join_49]
        exact ⟨fun _ => hq, fun _ => hq⟩
      · rw [ra4.2.1]
        unfold jts
        rw [if_neg (by rw [og]; decide)]
    · refine q h3 (fr_tr f1 (fr_tr f2 f4)) ⟨?_, fun e => by rw [og] at e; cases e⟩
      rw [m4]
      unfold jts
      rw [if_pos og]
end JNK
