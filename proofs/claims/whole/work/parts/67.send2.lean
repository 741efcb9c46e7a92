/-! SEND: the new row, the reference -/
def R0S (m : Int → Int) (p a de nu si lf : Int) : Int → Int := ud (ud (ud (ud (ud (ud m (107 + 19 * p + 0) a) (107 + 19 * p + 1) de) (107 + 19 * p + 2) nu) (107 + 19 * p + 3) si) (107 + 19 * p + 4) lf) 106 (p + 1)
def sdm (m two : Int → Int) (a de nu si lf : Int) : Int → Int := ud (ud (rwS m two de (107 + 19 * m 106) a lf.toNat 0 (R0S m (m 106) a de nu si lf)) (107 + 19 * m 106 + 5) (fq m two de a lf.toNat)) (107 + 19 * m 106 + 6) (0 + nz m two de a lf.toNat)
def sdG (H a de nu si lf : Int) : Prop := ((0 ≤ a ∧ a < H) ∧ (0 ≤ de ∧ de < H)) ∧ (0 ≤ nu ∧ nu ≤ 9999) ∧ (1 ≤ si ∧ si ≤ 200) ∧ (0 ≤ lf ∧ lf ≤ 12)
section SN2
variable {E : tr_Env} {ad : Nat → Nat} {h h0 : tr_H} {Q : tr_Q} {m one two : Int → Int} {H L a de nu si lf : Int}
theorem R0_ne {p z : Int} (h1 : z ≠ 106) (h2 : z < 107 + 19 * p ∨ 107 + 19 * p + 5 ≤ z) : R0S m p a de nu si lf z = m z := by
  unfold R0S
  rw [ud_ne h1, ud_ne (by omega), ud_ne (by omega), ud_ne (by omega), ud_ne (by omega), ud_ne (by omega)]
theorem sdm_ne (g : sdG H a de nu si lf) {z : Int} (h1 : z ≠ 106) (h2 : z < 107 + 19 * m 106 ∨ 107 + 19 * m 106 + 19 ≤ z) : sdm m two a de nu si lf z = m z := by
  have g4 := g.2.2.2
  unfold sdm
  rw [ud_ne (by omega), ud_ne (by omega), rwS_ne _ _ _ _ _ (by omega), R0_ne h1 (by omega)]
theorem sdm_106 (m0 : 0 ≤ m 106) (g : sdG H a de nu si lf) : sdm m two a de nu si lf 106 = m 106 + 1 := by
  unfold sdm
  rw [ud_ne (by omega), ud_ne (by omega), rwS_ne _ _ _ _ _ (by omega)]
  exact ud_eq _ _ _
theorem sdm_f (m0 : 0 ≤ m 106) : fd (sdm m two a de nu si lf) (m 106) 0 = a ∧ fd (sdm m two a de nu si lf) (m 106) 1 = de ∧ fd (sdm m two a de nu si lf) (m 106) 2 = nu ∧ fd (sdm m two a de nu si lf) (m 106) 3 = si ∧ fd (sdm m two a de nu si lf) (m 106) 4 = lf ∧ fd (sdm m two a de nu si lf) (m 106) 5 = fq m two de a lf.toNat ∧ fd (sdm m two a de nu si lf) (m 106) 6 = nz m two de a lf.toNat := by
  unfold fd sdm
  refine ⟨?_, ?_, ?_, ?_, ?_, ?_, ?_⟩
  · rw [ud_ne (by omega), ud_ne (by omega), rwS_ne _ _ _ _ _ (by omega)]
    unfold R0S
    rw [ud_ne (by omega), ud_ne (by omega), ud_ne (by omega), ud_ne (by omega), ud_ne (by omega), ud_eq]
  · rw [ud_ne (by omega), ud_ne (by omega), rwS_ne _ _ _ _ _ (by omega)]
    unfold R0S
    rw [ud_ne (by omega), ud_ne (by omega), ud_ne (by omega), ud_ne (by omega), ud_eq]
  · rw [ud_ne (by omega), ud_ne (by omega), rwS_ne _ _ _ _ _ (by omega)]
    unfold R0S
    rw [ud_ne (by omega), ud_ne (by omega), ud_ne (by omega), ud_eq]
  · rw [ud_ne (by omega), ud_ne (by omega), rwS_ne _ _ _ _ _ (by omega)]
    unfold R0S
    rw [ud_ne (by omega), ud_ne (by omega), ud_eq]
  · rw [ud_ne (by omega), ud_ne (by omega), rwS_ne _ _ _ _ _ (by omega)]
    unfold R0S
    rw [ud_ne (by omega), ud_eq]
  · rw [ud_ne (by omega), ud_eq]
  · rw [ud_eq, Int.zero_add]
theorem sdm_lk (m0 : 0 ≤ m 106) (j : Nat) (hj : (j : Int) < nz m two de a lf.toNat) : lk (sdm m two a de nu si lf) (m 106) j = rt m (xs m two de a j) de := by
  unfold lk fd sdm
  rw [ud_ne (by omega), ud_ne (by omega)]
  have := rwS_in (m := m) (two := two) (de := de) (b := 107 + 19 * m 106) lf.toNat a 0 (R0S m (m 106) a de nu si lf) j hj
  rw [show 107 + 19 * m 106 + (7 + (j : Int)) = 107 + 19 * m 106 + 7 + 0 + j by omega]
  exact this
theorem sdm_hop (m0 : 0 ≤ m 106) (j : Nat) (hj : (j : Int) ≤ nz m two de a lf.toNat) : hop (sdm m two a de nu si lf) two (m 106) j = xs m two de a j := by
  unfold hop
  cases j with
  | zero =>
    have z : ((0 : Nat) : Int) = 0 := rfl
    rw [if_pos z, (sdm_f m0).1]; rfl
  | succ j =>
    rw [if_neg (by omega), show ((j + 1 : Nat) : Int) - 1 = (j : Int) by omega, sdm_lk m0 j (by omega)]
    rfl
theorem vok_sd (v : vok m one two H L) (g : sdG H a de nu si lf) (g2 : m 106 < 40) : vok (sdm m two a de nu si lf) one two H L := by
  obtain ⟨vH, vL, vl, v0, v1, v2, v3, v4, v5, vr, vm, vp⟩ := id v
  have s106 := sdm_106 (two := two) vm.1 g
  have hs : ∀ z, z < 106 → sdm m two a de nu si lf z = m z := fun z hz => sdm_ne g (by omega) (by omega)
  obtain ⟨f0, f1, f2, f3, f4, f5, f6⟩ := sdm_f (m := m) (two := two) (a := a) (de := de) (nu := nu) (si := si) (lf := lf) vm.1
  have nr := nz_rg (m := m) (two := two) (de := de) 0 lf.toNat a
  have fr' := fq_rg (m := m) (two := two) (de := de) lf.toNat a
  obtain ⟨⟨ga, gd⟩, gn, gs, gl⟩ := id g
  refine ⟨vH, vL, vl, ?_, ?_, ?_, ?_, ?_, ?_, fun k k0 k1 => by rw [hs (6 + k) (by omega)]; exact vr k k0 k1, by rw [s106]; omega, fun p p0 p1 => ?_⟩
  · rw [hs 0 (by omega)]; exact v0
  · rw [hs 1 (by omega)]; exact v1
  · rw [hs 2 (by omega)]; exact v2
  · rw [hs 2 (by omega), hs 3 (by omega)]; exact v3
  · rw [hs 2 (by omega), hs 4 (by omega)]; exact v4
  · rw [hs 5 (by omega)]; exact v5
  · rw [s106] at p1
    by_cases e : p = m 106
    · subst e
      unfold pok
      rw [f0, f1, f2, f3, f4, f5, f6]
      refine ⟨ga, gd, gn, gs, gl, fr', ⟨nr.1, by omega⟩, fun k k0 k1 => ?_⟩
      obtain ⟨j, rfl⟩ : ∃ j : Nat, k = j := ⟨k.toNat, by omega⟩
      rw [sdm_lk vm.1 j k1]
      have xr := xs_rg v gd.1 gd.2 lf.toNat a j ga.1 ga.2 (by omega)
      exact (nx_rg v xr.1.1 xr.1.2 gd.1 gd.2 (xr.2 k1)).1
    · exact pok_f (fun w w0 w1 => (sdm_ne (z := 107 + 19 * p + w) g (by omega) (by omega)).symm) (vp p p0 (by omega))
theorem M_send (ok : tr_ok E) (s : mst ad h m one two H L) (v : vok m one two H L) {u : Int} (hu : gv h (ad 23) 9 = u) (u0 : 0 ≤ u) (u1 : u ≤ 12) (a0 : -2147483648 ≤ a) (a1 : a ≤ 2147483647) (d0 : -2147483648 ≤ de) (d1 : de ≤ 2147483647) (n0 : -2147483648 ≤ nu) (n1 : nu ≤ 2147483647) (i0 : -2147483648 ≤ si) (i1 : si ≤ 2147483647) (l0 : -2147483648 ≤ lf) (l1 : lf ≤ 2147483647) (q : sdG H a de nu si lf → m 106 < 40 → ∀ h', MP ad h m (sdm m two a de nu si lf) u h' → Q (.inl (some (.inl (ii (m 106))))) h') (r : ¬ sdG H a de nu si lf → ∀ h', mpo ad h 1 1 h' → Q (.inl (some (.inl (ii 0)))) h') (r2 : sdG H a de nu si lf → ¬ m 106 < 40 → ∀ h', mpo ad h 2 2 h' → Q (.inl (some (.inl (ii 0)))) h') : tr_C E 156 [.inr (.inr (ad 23)), .inl (ii a), .inl (ii de), .inl (ii nu), .inl (ii si), .inl (ii lf)] h Q := by
  refine T_X8_send ok ?_
  have ms := m_start s.1
  have s1 := mst_q s ms.1
  have em1 := s1.2.1
  obtain ⟨vH, vL, vl, v0, v1, v2, v3, v4, v5, vr, vm, vp⟩ := id v
  have fa : fr ad pW fW false h (hsI h (ad 23) 0 (ii 0)) := fr_sFs rfl
  have e9 : gv (hsI h (ad 23) 0 (ii 0)) (ad 23) 9 = u := by rw [gv_sI, ud_ne (by decide)]; exact hu
  have e27 : gv (hsI h (ad 23) 0 (ii 0)) (ad 27) = gv h (ad 27) := gv_sIn (st_ne s.1 (by decide) (by decide) (by decide))
  have bad : ¬ sdG H a de nu si lf → tr_G E 156 Q 60 [some (.inr (.inr (ad 23))), some (.inl (ii a)), some (.inl (ii de)), some (.inl (ii nu)), some (.inl (ii si)), some (.inl (ii lf)), none, none, none] [.inl (ii 0)] (hsI h (ad 23) 0 (ii 0)) 0 0 := by
    intro g
    refine T_X8_send_60 ok ?_
    simp (disch := first | omega | decide | assumption | exact st_ne s0 (by decide) (by decide) (by decide) | exact dyn_ne (by assumption) (by decide) | fail) only [Int.reduceAdd, Int.reduceSub, Int.reduceNeg, ii_add, ii_sub, ii_mul, ii_lt, ii_le, ii_eq, ixn_ii, ixo_ii, rem_ii, nb_1, nb_0, nb_bb, bb_0, hI_gv, Int.toNat_of_nonneg, Int.cast_ofNat_Int, ht_sI, ht_sJ, ht_sR, hn_sI, hn_sJ, hn_sR, hR_sI, hR_sJ, kI_v, kV_v, kJ_v, true_and, and_true, forall_eq, tg, ln, rf, ne_eq, not_false_eq_true, forall_const, not_true_eq_false, false_implies, W_X8_send_60, st_t s.1]
    refine c_fine0 ok s.1 ms (by omega) (by omega) (by omega) (by omega) (fun h' p => ?_)
    simp (disch := first | omega | decide | assumption | exact st_ne s0 (by decide) (by decide) (by decide) | exact dyn_ne (by assumption) (by decide) | fail) only [Int.reduceAdd, Int.reduceSub, Int.reduceNeg, ii_add, ii_sub, ii_mul, ii_lt, ii_le, ii_eq, ixn_ii, ixo_ii, rem_ii, nb_1, nb_0, nb_bb, bb_0, hI_gv, Int.toNat_of_nonneg, Int.cast_ofNat_Int, ht_sI, ht_sJ, ht_sR, hn_sI, hn_sJ, hn_sR, hR_sI, hR_sJ, kI_v, kV_v, kJ_v, true_and, and_true, forall_eq, tg, ln, rf, ne_eq, not_false_eq_true, forall_const, not_true_eq_false, false_implies, Int.reduceEq, Int.reduceLT, Int.reduceLE, implies_true, and_self, reduceCtorEq, false_and,]
    exact r g h' p
  have good : sdG H a de nu si lf → tr_G E 156 Q 60 [some (.inr (.inr (ad 23))), some (.inl (ii a)), some (.inl (ii de)), some (.inl (ii nu)), some (.inl (ii si)), some (.inl (ii lf)), none, none, none] [.inl (ii 1)] (hsI h (ad 23) 0 (ii 0)) 0 0 := by
    intro g
    obtain ⟨⟨ga, gd⟩, gn, gs, gl⟩ := id g
    have b91 : ¬ m 106 < 40 → tr_G E 156 Q 91 [some (.inr (.inr (ad 23))), some (.inl (ii a)), some (.inl (ii de)), some (.inl (ii nu)), some (.inl (ii si)), some (.inl (ii lf)), none, none, none] [.inl (ii 0), .inr (.inr (ad 23))] (hsI h (ad 23) 0 (ii 0)) 0 0 := by
      intro k
      refine T_X8_send_91 ok ?_
      simp (disch := first | omega | decide | assumption | exact st_ne s0 (by decide) (by decide) (by decide) | exact dyn_ne (by assumption) (by decide) | fail) only [Int.reduceAdd, Int.reduceSub, Int.reduceNeg, ii_add, ii_sub, ii_mul, ii_lt, ii_le, ii_eq, ixn_ii, ixo_ii, rem_ii, nb_1, nb_0, nb_bb, bb_0, hI_gv, Int.toNat_of_nonneg, Int.cast_ofNat_Int, ht_sI, ht_sJ, ht_sR, hn_sI, hn_sJ, hn_sR, hR_sI, hR_sJ, kI_v, kV_v, kJ_v, true_and, and_true, forall_eq, tg, ln, rf, ne_eq, not_false_eq_true, forall_const, not_true_eq_false, false_implies, W_X8_send_91, st_t s.1]
      refine c_fine0 ok s.1 ms (by omega) (by omega) (by omega) (by omega) (fun h' p => ?_)
      simp (disch := first | omega | decide | assumption | exact st_ne s0 (by decide) (by decide) (by decide) | exact dyn_ne (by assumption) (by decide) | fail) only [Int.reduceAdd, Int.reduceSub, Int.reduceNeg, ii_add, ii_sub, ii_mul, ii_lt, ii_le, ii_eq, ixn_ii, ixo_ii, rem_ii, nb_1, nb_0, nb_bb, bb_0, hI_gv, Int.toNat_of_nonneg, Int.cast_ofNat_Int, ht_sI, ht_sJ, ht_sR, hn_sI, hn_sJ, hn_sR, hR_sI, hR_sJ, kI_v, kV_v, kJ_v, true_and, and_true, forall_eq, tg, ln, rf, ne_eq, not_false_eq_true, forall_const, not_true_eq_false, false_implies, Int.reduceEq, Int.reduceLT, Int.reduceLE, implies_true, and_self, reduceCtorEq, false_and,]
      exact r2 g k h' p
    have g91 : m 106 < 40 → tr_G E 156 Q 91 [some (.inr (.inr (ad 23))), some (.inl (ii a)), some (.inl (ii de)), some (.inl (ii nu)), some (.inl (ii si)), some (.inl (ii lf)), none, none, none] [.inl (ii 1), .inr (.inr (ad 23))] (hsI h (ad 23) 0 (ii 0)) 0 0 := by
      intro k
      refine T_X8_send_91 ok ?_
      simp (disch := first | omega | decide | assumption | exact st_ne s0 (by decide) (by decide) (by decide) | exact dyn_ne (by assumption) (by decide) | fail) only [Int.reduceAdd, Int.reduceSub, Int.reduceNeg, ii_add, ii_sub, ii_mul, ii_lt, ii_le, ii_eq, ixn_ii, ixo_ii, rem_ii, nb_1, nb_0, nb_bb, bb_0, hI_gv, Int.toNat_of_nonneg, Int.cast_ofNat_Int, ht_sI, ht_sJ, ht_sR, hn_sI, hn_sJ, hn_sR, hR_sI, hR_sJ, kI_v, kV_v, kJ_v, true_and, and_true, forall_eq, tg, ln, rf, ne_eq, not_false_eq_true, forall_const, not_true_eq_false, false_implies, W_X8_send_91, st_t s.1]
      refine c_fine1 ok s1.1 ms.2.1 ?_
      simp (disch := first | omega | decide | assumption | exact st_ne s0 (by decide) (by decide) (by decide) | exact dyn_ne (by assumption) (by decide) | fail) only [Int.reduceAdd, Int.reduceSub, Int.reduceNeg, ii_add, ii_sub, ii_mul, ii_lt, ii_le, ii_eq, ixn_ii, ixo_ii, rem_ii, nb_1, nb_0, nb_bb, bb_0, hI_gv, Int.toNat_of_nonneg, Int.cast_ofNat_Int, ht_sI, ht_sJ, ht_sR, hn_sI, hn_sJ, hn_sR, hR_sI, hR_sJ, kI_v, kV_v, kJ_v, true_and, and_true, forall_eq, tg, ln, rf, ne_eq, not_false_eq_true, forall_const, not_true_eq_false, false_implies, Int.reduceEq, Int.reduceLT, Int.reduceLE, implies_true, and_self, reduceCtorEq, false_and, st_t s.1]
      refine c_keeps ok s1 e9 u0 u1 (fun h1 f1 b1 b2 => ?_)
      have t1 : mst ad h1 m one two H L := mst_fr s1 f1 pB_lt rfl rfl rfl rfl rfl rfl
      have t0 := t1.1
      have em := t1.2.1
      have y106 : ∀ (X : Int → Int), ud (ud (ud (ud (ud X (107 + 19 * m 106 + 0) a) (107 + 19 * m 106 + 1) de) (107 + 19 * m 106 + 2) nu) (107 + 19 * m 106 + 3) si) (107 + 19 * m 106 + 4) lf 106 = X 106 := fun X => by
        rw [ud_ne (by omega), ud_ne (by omega), ud_ne (by omega), ud_ne (by omega), ud_ne (by omega)]
      simp (disch := first | omega | decide | assumption | exact st_ne s0 (by decide) (by decide) (by decide) | exact dyn_ne (by assumption) (by decide) | fail) only [Int.reduceAdd, Int.reduceSub, Int.reduceNeg, ii_add, ii_sub, ii_mul, ii_lt, ii_le, ii_eq, ixn_ii, ixo_ii, rem_ii, nb_1, nb_0, nb_bb, bb_0, hI_gv, Int.toNat_of_nonneg, Int.cast_ofNat_Int, ht_sI, ht_sJ, ht_sR, hn_sI, hn_sJ, hn_sR, hR_sI, hR_sJ, kI_v, kV_v, kJ_v, true_and, and_true, forall_eq, tg, ln, rf, ne_eq, not_false_eq_true, forall_const, not_true_eq_false, false_implies, st_t t0, st_n t0, st_r t0, em]
      simp (disch := first | omega | decide | assumption | exact st_ne s0 (by decide) (by decide) (by decide) | exact dyn_ne (by assumption) (by decide) | fail) only [Int.reduceAdd, Int.reduceSub, Int.reduceNeg, ii_add, ii_sub, ii_mul, ii_lt, ii_le, ii_eq, ixn_ii, ixo_ii, rem_ii, nb_1, nb_0, nb_bb, bb_0, hI_gv, Int.toNat_of_nonneg, Int.cast_ofNat_Int, ht_sI, ht_sJ, ht_sR, hn_sI, hn_sJ, hn_sR, hR_sI, hR_sJ, kI_v, kV_v, kJ_v, true_and, and_true, forall_eq, tg, ln, rf, ne_eq, not_false_eq_true, forall_const, not_true_eq_false, false_implies, gv_sIi, em, y106]
      refine ⟨by omega, by omega, by omega, by omega, by omega, by omega, by omega, by omega, ?_⟩
      have sR : mst ad (hsI (hsI (hsI (hsI (hsI (hsI h1 (ad 25) (107 + 19 * m 106 + 0).toNat (ii a)) (ad 25) (107 + 19 * m 106 + 1).toNat (ii de)) (ad 25) (107 + 19 * m 106 + 2).toNat (ii nu)) (ad 25) (107 + 19 * m 106 + 3).toNat (ii si)) (ad 25) (107 + 19 * m 106 + 4).toNat (ii lf)) (ad 25) (106 : Int).toNat (ii (m 106 + 1))) (R0S m (m 106) a de nu si lf) one two H L := mst_w (mst_w (mst_w (mst_w (mst_w (mst_w t1 (by omega) a0 a1) (by omega) d0 d1) (by omega) n0 n1) (by omega) i0 i1) (by omega) l0 l1) (by omega) (by omega) (by omega)
      have f6 : fr ad p25 f0 false h1 (hsI (hsI (hsI (hsI (hsI (hsI h1 (ad 25) (107 + 19 * m 106 + 0).toNat (ii a)) (ad 25) (107 + 19 * m 106 + 1).toNat (ii de)) (ad 25) (107 + 19 * m 106 + 2).toNat (ii nu)) (ad 25) (107 + 19 * m 106 + 3).toNat (ii si)) (ad 25) (107 + 19 * m 106 + 4).toNat (ii lf)) (ad 25) (106 : Int).toNat (ii (m 106 + 1))) := fr_sI (fr_sI (fr_sI (fr_sI (fr_sI (fr_sI fr_rfl rfl) rfl) rfl) rfl) rfl) rfl
      generalize hsI (hsI (hsI (hsI (hsI (hsI h1 (ad 25) (107 + 19 * m 106 + 0).toNat (ii a)) (ad 25) (107 + 19 * m 106 + 1).toNat (ii de)) (ad 25) (107 + 19 * m 106 + 2).toNat (ii nu)) (ad 25) (107 + 19 * m 106 + 3).toNat (ii si)) (ad 25) (107 + 19 * m 106 + 4).toNat (ii lf)) (ad 25) (106 : Int).toNat (ii (m 106 + 1)) = h6 at *
      refine T_X8_goes ok ?_
      have t6 := sR.1
      have q0 : fd (R0S m (m 106) a de nu si lf) (m 106) 0 = a := by
        unfold fd R0S
        rw [ud_ne (by omega), ud_ne (by omega), ud_ne (by omega), ud_ne (by omega), ud_ne (by omega), ud_eq]
      have q1 : R0S m (m 106) a de nu si lf (107 + 19 * m 106 + 1) = de := by
        unfold R0S
        rw [ud_ne (by omega), ud_ne (by omega), ud_ne (by omega), ud_ne (by omega), ud_eq]
      have q4 : fd (R0S m (m 106) a de nu si lf) (m 106) 4 = lf := by
        unfold fd R0S
        rw [ud_ne (by omega), ud_eq]
      simp (disch := first | omega | decide | assumption | exact st_ne s0 (by decide) (by decide) (by decide) | exact dyn_ne (by assumption) (by decide) | fail) only [Int.reduceAdd, Int.reduceSub, Int.reduceNeg, ii_add, ii_sub, ii_mul, ii_lt, ii_le, ii_eq, ixn_ii, ixo_ii, rem_ii, nb_1, nb_0, nb_bb, bb_0, hI_gv, Int.toNat_of_nonneg, Int.cast_ofNat_Int, ht_sI, ht_sJ, ht_sR, hn_sI, hn_sJ, hn_sR, hR_sI, hR_sJ, kI_v, kV_v, kJ_v, true_and, and_true, forall_eq, tg, ln, rf, ne_eq, not_false_eq_true, forall_const, not_true_eq_false, false_implies, W_X8_goes, st_t t6]
      refine c_of ok sR vm.1 k (by omega) (by omega) ?_
      rw [q0]
      simp (disch := first | omega | decide | assumption | exact st_ne s0 (by decide) (by decide) (by decide) | exact dyn_ne (by assumption) (by decide) | fail) only [Int.reduceAdd, Int.reduceSub, Int.reduceNeg, ii_add, ii_sub, ii_mul, ii_lt, ii_le, ii_eq, ixn_ii, ixo_ii, rem_ii, nb_1, nb_0, nb_bb, bb_0, hI_gv, Int.toNat_of_nonneg, Int.cast_ofNat_Int, ht_sI, ht_sJ, ht_sR, hn_sI, hn_sJ, hn_sR, hR_sI, hR_sJ, kI_v, kV_v, kJ_v, true_and, and_true, forall_eq, tg, ln, rf, ne_eq, not_false_eq_true, forall_const, not_true_eq_false, false_implies, st_t t6]
      refine c_of ok sR vm.1 k (by omega) (by omega) ?_
      rw [q4]
      simp (disch := first | omega | decide | assumption | exact st_ne s0 (by decide) (by decide) (by decide) | exact dyn_ne (by assumption) (by decide) | fail) only [Int.reduceAdd, Int.reduceSub, Int.reduceNeg, ii_add, ii_sub, ii_mul, ii_lt, ii_le, ii_eq, ixn_ii, ixo_ii, rem_ii, nb_1, nb_0, nb_bb, bb_0, hI_gv, Int.toNat_of_nonneg, Int.cast_ofNat_Int, ht_sI, ht_sJ, ht_sR, hn_sI, hn_sJ, hn_sR, hR_sI, hR_sJ, kI_v, kV_v, kJ_v, true_and, and_true, forall_eq, tg, ln, rf, ne_eq, not_false_eq_true, forall_const, not_true_eq_false, false_implies]
      have go := c_goes_20 (Q := kV (fun h10 => Q (.inl (some (.inl (ii (m 106))))) h10) (fun E h' => Q (.inr E) h')) ok v gd.1 gd.2 vm.1 k lf.toNat a 0 (R0S m (m 106) a de nu si lf) h6 ga.1 ga.2 (by omega) (by omega) sR (fun z z0 z1 => R0_ne (by omega) (by omega)) q1 (fun h7 f7 s7 => by
        show Q (.inl (some (.inl (ii (m 106))))) h7
        have p25lt : ∀ j, p25 j = true → j < 42 := fun j e => by
          unfold p25 at e
          rw [Nat.beq_eq] at e
          omega
        have f17 : fr ad p25 f0 false h1 h7 := fr_tr f6 f7
        have s2 := st_fr s.1 fa
        refine q g k h7 ⟨fr_tr fa (fr_tr (fr_mono pB_pW fB_fW (fun e => e) f1) (fr_mono (fun j e => by unfold p25 at e; unfold pW; rw [e, Bool.true_or]) (fun z e => by cases e) (fun e => e) f17)), ?_, ?_, fun i z i0 i1 z0 z1 => ?_, s7.2.1⟩
        · rw [fr_gf t0 f17 rfl p25lt rfl, fr_gf s2 f1 rfl pB_lt rfl]; exact ms.2.1
        · rw [fr_gf t0 f17 rfl p25lt rfl]; exact b1
        · rw [fr_gv t0 f17 (by decide) (by decide) rfl p25lt, b2 i z i0 i1 z0 z1, e27])
      rw [Int.toNat_of_nonneg gl.1] at go
      exact go
    refine T_X8_send_60 ok ?_
    simp (disch := first | omega | decide | assumption | exact st_ne s0 (by decide) (by decide) (by decide) | exact dyn_ne (by assumption) (by decide) | fail) only [Int.reduceAdd, Int.reduceSub, Int.reduceNeg, ii_add, ii_sub, ii_mul, ii_lt, ii_le, ii_eq, ixn_ii, ixo_ii, rem_ii, nb_1, nb_0, nb_bb, bb_0, hI_gv, Int.toNat_of_nonneg, Int.cast_ofNat_Int, ht_sI, ht_sJ, ht_sR, hn_sI, hn_sJ, hn_sR, hR_sI, hR_sJ, kI_v, kV_v, kJ_v, true_and, and_true, forall_eq, tg, ln, rf, ne_eq, not_false_eq_true, forall_const, not_true_eq_false, false_implies, W_X8_send_60, st_t s.1]
    refine c_fine1 ok s1.1 ms.2.1 ?_
    simp (disch := first | omega | decide | assumption | exact st_ne s0 (by decide) (by decide) (by decide) | exact dyn_ne (by assumption) (by decide) | fail) only [Int.reduceAdd, Int.reduceSub, Int.reduceNeg, ii_add, ii_sub, ii_mul, ii_lt, ii_le, ii_eq, ixn_ii, ixo_ii, rem_ii, nb_1, nb_0, nb_bb, bb_0, hI_gv, Int.toNat_of_nonneg, Int.cast_ofNat_Int, ht_sI, ht_sJ, ht_sR, hn_sI, hn_sJ, hn_sR, hR_sI, hR_sJ, kI_v, kV_v, kJ_v, true_and, and_true, forall_eq, tg, ln, rf, ne_eq, not_false_eq_true, forall_const, not_true_eq_false, false_implies, Int.reduceEq, Int.reduceLT, Int.reduceLE, implies_true, and_self, reduceCtorEq, false_and, st_t s.1, st_n s.1, st_r s.1, em1]
    exact ⟨fun k => g91 k, fun k => b91 k⟩
  have gi : (0 ≤ a ∧ a < H) → (0 ≤ de ∧ de < H) → (0 ≤ nu ∧ nu ≤ 9999) → (1 ≤ si ∧ si ≤ 200) → (0 ≤ lf ∧ lf ≤ 12) → sdG H a de nu si lf := fun x1 x2 x3 x4 x5 => ⟨⟨x1, x2⟩, x3, x4, x5⟩
  simp (disch := first | omega | decide | assumption | exact st_ne s0 (by decide) (by decide) (by decide) | exact dyn_ne (by assumption) (by decide) | fail) only [Int.reduceAdd, Int.reduceSub, Int.reduceNeg, ii_add, ii_sub, ii_mul, ii_lt, ii_le, ii_eq, ixn_ii, ixo_ii, rem_ii, nb_1, nb_0, nb_bb, bb_0, hI_gv, Int.toNat_of_nonneg, Int.cast_ofNat_Int, ht_sI, ht_sJ, ht_sR, hn_sI, hn_sJ, hn_sR, hR_sI, hR_sJ, kI_v, kV_v, kJ_v, true_and, and_true, forall_eq, tg, ln, rf, ne_eq, not_false_eq_true, forall_const, not_true_eq_false, false_implies, W_X8_send, st_t s.1]
  refine c_isHop ok s1 v a0 a1 ?_
  simp (disch := first | omega | decide | assumption | exact st_ne s0 (by decide) (by decide) (by decide) | exact dyn_ne (by assumption) (by decide) | fail) only [Int.reduceAdd, Int.reduceSub, Int.reduceNeg, ii_add, ii_sub, ii_mul, ii_lt, ii_le, ii_eq, ixn_ii, ixo_ii, rem_ii, nb_1, nb_0, nb_bb, bb_0, hI_gv, Int.toNat_of_nonneg, Int.cast_ofNat_Int, ht_sI, ht_sJ, ht_sR, hn_sI, hn_sJ, hn_sR, hR_sI, hR_sJ, kI_v, kV_v, kJ_v, true_and, and_true, forall_eq, tg, ln, rf, ne_eq, not_false_eq_true, forall_const, not_true_eq_false, false_implies, st_t s.1]
  refine ⟨fun g => ?_, fun g => ?_⟩
  · rw [decide_eq_false_iff_not] at g
    exact bad (fun e => g e.1.1)
  rw [Bool.not_eq_false, decide_eq_true_eq] at g
  refine c_isHop ok s1 v d0 d1 ?_
  simp (disch := first | omega | decide | assumption | exact st_ne s0 (by decide) (by decide) (by decide) | exact dyn_ne (by assumption) (by decide) | fail) only [Int.reduceAdd, Int.reduceSub, Int.reduceNeg, ii_add, ii_sub, ii_mul, ii_lt, ii_le, ii_eq, ixn_ii, ixo_ii, rem_ii, nb_1, nb_0, nb_bb, bb_0, hI_gv, Int.toNat_of_nonneg, Int.cast_ofNat_Int, ht_sI, ht_sJ, ht_sR, hn_sI, hn_sJ, hn_sR, hR_sI, hR_sJ, kI_v, kV_v, kJ_v, true_and, and_true, forall_eq, tg, ln, rf, ne_eq, not_false_eq_true, forall_const, not_true_eq_false, false_implies]
  refine ⟨fun k2 => ?_, fun k2 => ?_⟩
  · rw [decide_eq_false_iff_not] at k2
    exact bad (fun e => k2 e.1.2)
  rw [Bool.not_eq_false, decide_eq_true_eq] at k2
  refine c_within ok n0 n1 (by omega) (by omega) (by omega) (by omega) ?_
  simp (disch := first | omega | decide | assumption | exact st_ne s0 (by decide) (by decide) (by decide) | exact dyn_ne (by assumption) (by decide) | fail) only [Int.reduceAdd, Int.reduceSub, Int.reduceNeg, ii_add, ii_sub, ii_mul, ii_lt, ii_le, ii_eq, ixn_ii, ixo_ii, rem_ii, nb_1, nb_0, nb_bb, bb_0, hI_gv, Int.toNat_of_nonneg, Int.cast_ofNat_Int, ht_sI, ht_sJ, ht_sR, hn_sI, hn_sJ, hn_sR, hR_sI, hR_sJ, kI_v, kV_v, kJ_v, true_and, and_true, forall_eq, tg, ln, rf, ne_eq, not_false_eq_true, forall_const, not_true_eq_false, false_implies]
  refine ⟨fun k3 => ?_, fun k3 => ?_⟩
  · rw [decide_eq_false_iff_not] at k3
    exact bad (fun e => k3 e.2.1)
  rw [Bool.not_eq_false, decide_eq_true_eq] at k3
  refine c_within ok i0 i1 (by omega) (by omega) (by omega) (by omega) ?_
  simp (disch := first | omega | decide | assumption | exact st_ne s0 (by decide) (by decide) (by decide) | exact dyn_ne (by assumption) (by decide) | fail) only [Int.reduceAdd, Int.reduceSub, Int.reduceNeg, ii_add, ii_sub, ii_mul, ii_lt, ii_le, ii_eq, ixn_ii, ixo_ii, rem_ii, nb_1, nb_0, nb_bb, bb_0, hI_gv, Int.toNat_of_nonneg, Int.cast_ofNat_Int, ht_sI, ht_sJ, ht_sR, hn_sI, hn_sJ, hn_sR, hR_sI, hR_sJ, kI_v, kV_v, kJ_v, true_and, and_true, forall_eq, tg, ln, rf, ne_eq, not_false_eq_true, forall_const, not_true_eq_false, false_implies]
  refine ⟨fun k4 => ?_, fun k4 => ?_⟩
  · rw [decide_eq_false_iff_not] at k4
    exact bad (fun e => k4 e.2.2.1)
  rw [Bool.not_eq_false, decide_eq_true_eq] at k4
  refine c_within ok l0 l1 (by omega) (by omega) (by omega) (by omega) ?_
  simp (disch := first | omega | decide | assumption | exact st_ne s0 (by decide) (by decide) (by decide) | exact dyn_ne (by assumption) (by decide) | fail) only [Int.reduceAdd, Int.reduceSub, Int.reduceNeg, ii_add, ii_sub, ii_mul, ii_lt, ii_le, ii_eq, ixn_ii, ixo_ii, rem_ii, nb_1, nb_0, nb_bb, bb_0, hI_gv, Int.toNat_of_nonneg, Int.cast_ofNat_Int, ht_sI, ht_sJ, ht_sR, hn_sI, hn_sJ, hn_sR, hR_sI, hR_sJ, kI_v, kV_v, kJ_v, true_and, and_true, forall_eq, tg, ln, rf, ne_eq, not_false_eq_true, forall_const, not_true_eq_false, false_implies]
  refine ⟨fun k5 => ?_, fun k5 => ?_⟩
  · rw [decide_eq_false_iff_not] at k5
    exact bad (fun e => k5 e.2.2.2)
  rw [Bool.not_eq_false, decide_eq_true_eq] at k5
  exact good (gi g k2 k3 k4 k5)
end SN2
