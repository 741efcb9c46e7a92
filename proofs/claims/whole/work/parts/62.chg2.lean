/-! FORGET, UNDO -/
def nxU (u : Int) : Int := if u = 12 then 12 else u + 1
def KP (ad : Nat → Nat) (h : tr_H) (m' one two : Int → Int) (H L u : Int) (h' : tr_H) : Prop := fr ad pH f0 true h h' ∧ gv h' (ad 1) = ud (gv h (ad 1)) 5 (nxU u) ∧ (∀ i, i < 12 → hR h' (ad 6) i = hisN (hR h (ad 6)) u (hR h (ad 1) 3) i) ∧ cst ad h' (hR h' (ad 1) 3) m' one two H L
def pW (i : Nat) : Bool := Nat.beq i 25 || Nat.beq i 27
def fW (z : Int) : Bool := decide (z = 0) || decide (z = 9)
theorem pW_lt (j : Nat) (h : pW j = true) : j < 42 := by
  unfold pW at h
  simp only [Bool.or_eq_true, Nat.beq_eq] at h
  omega
theorem pB_pW (j : Nat) (h : pB j = true) : pW j = true := by
  unfold pB at h
  unfold pW
  rw [h, Bool.or_true]
theorem fB_fW (z : Int) (h : fB z = true) : fW z = true := by
  unfold fB at h
  unfold fW
  rw [h, Bool.or_true]
def MP (ad : Nat → Nat) (h : tr_H) (m m' : Int → Int) (u : Int) (h' : tr_H) : Prop := fr ad pW fW false h h' ∧ gv h' (ad 23) 0 = 0 ∧ gv h' (ad 23) 9 = nxU u ∧ (∀ i z, 0 ≤ i → i < nxU u → 0 ≤ z → z < 867 → gv h' (ad 27) (867 * i + z) = bkN (gv h (ad 27)) u m i z) ∧ gv h' (ad 25) = m'
def fgm (m : Int → Int) (z : Int) : Int := if 106 ≤ z ∧ z < 867 then 0 else m z
section CH2
variable {E : tr_Env} {ad : Nat → Nat} {h h0 : tr_H} {Q : tr_Q} {m one two : Int → Int} {H L : Int}
theorem K_forget (ok : tr_ok E) (c : kst ad h m one two H L) (v : vok m one two H L) (hh : his ad h) {u : Int} (hu : gv h (ad 1) 5 = u) (u0 : 0 ≤ u) (u1 : u ≤ 12) (q : ∀ h', KP ad h (fgm m) one two H L u h' → Q (.inl (some (.inl (ii (m 106))))) h') : tr_C E 77 [.inr (.inr (ad 1))] h Q := by
  refine T_X7_forget ok ?_
  have s0 := c.1
  obtain ⟨c0, n, c2, c3, c4, c5⟩ := id c.2
  simp (disch := first | omega | decide | assumption | exact st_ne s0 (by decide) (by decide) (by decide) | exact dyn_ne (by assumption) (by decide) | fail) only [Int.reduceAdd, Int.reduceSub, Int.reduceNeg, ii_add, ii_sub, ii_mul, ii_lt, ii_le, ii_eq, ixn_ii, ixo_ii, rem_ii, nb_1, nb_0, nb_bb, bb_0, hI_gv, Int.toNat_of_nonneg, Int.cast_ofNat_Int, ht_sI, ht_sJ, ht_sR, hn_sI, hn_sJ, hn_sR, hR_sI, hR_sJ, kI_v, kV_v, kJ_v, true_and, and_true, forall_eq, tg, ln, rf, ne_eq, not_false_eq_true, forall_const, not_true_eq_false, false_implies, W_X7_forget, st_t s0, c0, c4]
  refine k_keepState ok c v hh hu u0 u1 (fun h1 f1 g1 r1 k1 o1 p1 => ?_)
  have s1 := st_fr s0 f1
  simp (disch := first | omega | decide | assumption | exact st_ne s0 (by decide) (by decide) (by decide) | exact dyn_ne (by assumption) (by decide) | fail) only [Int.reduceAdd, Int.reduceSub, Int.reduceNeg, ii_add, ii_sub, ii_mul, ii_lt, ii_le, ii_eq, ixn_ii, ixo_ii, rem_ii, nb_1, nb_0, nb_bb, bb_0, hI_gv, Int.toNat_of_nonneg, Int.cast_ofNat_Int, ht_sI, ht_sJ, ht_sR, hn_sI, hn_sJ, hn_sR, hR_sI, hR_sJ, kI_v, kV_v, kJ_v, true_and, and_true, forall_eq, tg, ln, rf, ne_eq, not_false_eq_true, forall_const, not_true_eq_false, false_implies, st_t s1, k1.1]
  have fz : fx (hR h1 (ad 1) 3) h1 (hsI h1 (hR h1 (ad 1) 3) 2 (ii 0)) := fx_sI 2 (ii 0)
  have f2 := fx_fr f1 fz o1.1
  have dS : dyn ad (hR h1 (ad 1) 3) := dyn_t s1 (by rw [k1.1]; decide) (by rw [k1.1]; decide)
  refine q _ ⟨f2, ?_, r1, ?_⟩
  · rw [gv_sIn (fun e => dS 1 (by decide) e.symm)]; exact g1
  · obtain ⟨d0, d1, d2, d3, d4, d5⟩ := k1
    refine ⟨d0, ?_, d2, d3, ?_, fun p p0 p1 => ?_⟩
    · refine nst_e (m := m) (fun z z0 z1 => ?_) (nst_fx fz (by rw [d0]; decide) (by rw [d0]; decide) d1)
      unfold fgm; rw [if_neg (by omega)]
    · rw [hR_sI, gv_sIi (by decide) (by decide)]
      have : fgm m 106 = 0 := by unfold fgm; rw [if_pos (by omega)]
      rw [this]; exact ud_eq _ _ _
    · have : fgm m 106 = 0 := by unfold fgm; rw [if_pos (by omega)]
      rw [this] at p1; omega
theorem c_forget_20 (ok : tr_ok E) (s0 : stat ad h0) {x : Int} (q : ∀ h', fr ad pW fW false h0 h' → gv h' (ad 23) = gv h0 (ad 23) → gv h' (ad 27) = gv h0 (ad 27) → gv h' (ad 25) = fgm (gv h0 (ad 25)) → Q (.inl (some (.inl (ii x)))) h') : ∀ (n : Nat) (k : Int) (h : tr_H), k + n = 867 → 106 ≤ k → fr ad pW fW false h0 h → gv h (ad 23) = gv h0 (ad 23) → gv h (ad 27) = gv h0 (ad 27) → (∀ z, gv h (ad 25) z = if 106 ≤ z ∧ z < k then 0 else gv h0 (ad 25) z) → tr_G E 157 Q 20 [some (.inr (.inr (ad 23))), some (.inl (ii x)), some (.inl (ii k))] [] h 0 0
  | n, k, h, hn, k0, f, e1, e2, e3 => by
    refine T_X8_forget_20 ok ?_
    have s1 := st_fr s0 f
    simp (disch := first | omega | decide | assumption | exact st_ne s0 (by decide) (by decide) (by decide) | exact dyn_ne (by assumption) (by decide) | fail) only [Int.reduceAdd, Int.reduceSub, Int.reduceNeg, ii_add, ii_sub, ii_mul, ii_lt, ii_le, ii_eq, ixn_ii, ixo_ii, rem_ii, nb_1, nb_0, nb_bb, bb_0, hI_gv, Int.toNat_of_nonneg, Int.cast_ofNat_Int, ht_sI, ht_sJ, ht_sR, hn_sI, hn_sJ, hn_sR, hR_sI, hR_sJ, kI_v, kV_v, kJ_v, true_and, and_true, forall_eq, tg, ln, rf, ne_eq, not_false_eq_true, forall_const, not_true_eq_false, false_implies, W_X8_forget_20, st_t s1, st_n s1, st_r s1]
    refine ⟨fun g => ⟨by omega, ?_⟩, fun g => ?_⟩
    · obtain ⟨n, rfl⟩ : ∃ n', n = n' + 1 := ⟨n - 1, by omega⟩
      have s0' := s1
      refine c_forget_20 ok s0 q n (k + 1) _ (by omega) (by omega) (fr_sI f rfl) ?_ ?_ (fun z => ?_)
      · rw [gv_sIn (st_ne s1 (by decide) (by decide) (by decide))]; exact e1
      · rw [gv_sIn (st_ne s1 (by decide) (by decide) (by decide))]; exact e2
      · rw [gv_sIi (by decide) (by decide), Int.toNat_of_nonneg (by omega)]
        by_cases e : z = k
        · rw [e, ud_eq, if_pos (by omega)]
        · rw [ud_ne e, e3 z]
          by_cases g2 : 106 ≤ z ∧ z < k
          · rw [if_pos g2, if_pos (by omega)]
          · rw [if_neg g2, if_neg (by omega)]
    · refine q h f e1 e2 (funext fun z => ?_)
      rw [e3 z, show k = 867 by omega]
      rfl
theorem M_forget (ok : tr_ok E) (s : mst ad h m one two H L) (v : vok m one two H L) {u : Int} (hu : gv h (ad 23) 9 = u) (u0 : 0 ≤ u) (u1 : u ≤ 12) (q : ∀ h', MP ad h m (fgm m) u h' → Q (.inl (some (.inl (ii (m 106))))) h') : tr_C E 157 [.inr (.inr (ad 23))] h Q := by
  refine T_X8_forget ok ?_
  have ms := m_start s.1
  have s1 := mst_q s ms.1
  have fa : fr ad pW fW false h (hsI h (ad 23) 0 (ii 0)) := fr_sFs rfl
  have e9 : gv (hsI h (ad 23) 0 (ii 0)) (ad 23) 9 = u := by rw [gv_sI, ud_ne (by decide)]; exact hu
  have e27 : gv (hsI h (ad 23) 0 (ii 0)) (ad 27) = gv h (ad 27) := gv_sIn (st_ne s.1 (by decide) (by decide) (by decide))
  simp (disch := first | omega | decide | assumption | exact st_ne s0 (by decide) (by decide) (by decide) | exact dyn_ne (by assumption) (by decide) | fail) only [Int.reduceAdd, Int.reduceSub, Int.reduceNeg, ii_add, ii_sub, ii_mul, ii_lt, ii_le, ii_eq, ixn_ii, ixo_ii, rem_ii, nb_1, nb_0, nb_bb, bb_0, hI_gv, Int.toNat_of_nonneg, Int.cast_ofNat_Int, ht_sI, ht_sJ, ht_sR, hn_sI, hn_sJ, hn_sR, hR_sI, hR_sJ, kI_v, kV_v, kJ_v, true_and, and_true, forall_eq, tg, ln, rf, ne_eq, not_false_eq_true, forall_const, not_true_eq_false, false_implies, W_X8_forget, st_t s.1]
  refine c_keeps ok s1 e9 u0 u1 (fun h1 f1 a1 a2 => ?_)
  have t1 : mst ad h1 m one two H L := mst_fr s1 f1 pB_lt rfl rfl rfl rfl rfl rfl
  have t0 := t1.1
  have em := t1.2.1
  have z0 : gv h1 (ad 23) 0 = 0 := (fr_gf s1.1 f1 rfl pB_lt rfl).trans ms.2.1
  simp (disch := first | omega | decide | assumption | exact st_ne s0 (by decide) (by decide) (by decide) | exact dyn_ne (by assumption) (by decide) | fail) only [Int.reduceAdd, Int.reduceSub, Int.reduceNeg, ii_add, ii_sub, ii_mul, ii_lt, ii_le, ii_eq, ixn_ii, ixo_ii, rem_ii, nb_1, nb_0, nb_bb, bb_0, hI_gv, Int.toNat_of_nonneg, Int.cast_ofNat_Int, ht_sI, ht_sJ, ht_sR, hn_sI, hn_sJ, hn_sR, hR_sI, hR_sJ, kI_v, kV_v, kJ_v, true_and, and_true, forall_eq, tg, ln, rf, ne_eq, not_false_eq_true, forall_const, not_true_eq_false, false_implies, st_t t0, st_n t0, st_r t0, em]
  refine ⟨by omega, c_forget_20 ok t0 (fun h2 f2 b1 b2 b3 => ?_) 761 106 h1 (by omega) (by omega) fr_rfl rfl rfl (fun z => by rw [if_neg (by omega)])⟩
  refine q h2 ⟨fr_tr fa (fr_tr (fr_mono pB_pW fB_fW (fun e => e) f1) f2), ?_, ?_, fun i z i0 i1 z0 z1 => ?_, ?_⟩
  · rw [b1]; exact z0
  · rw [b1]; exact a1
  · rw [b2, a2 i z i0 i1 z0 z1, e27]
  · rw [b3, em]
theorem K_undo (ok : tr_ok E) (s0 : stat ad h) {u : Int} (hu : gv h (ad 1) 5 = u) (u0 : 0 ≤ u) (u1 : u ≤ 12) (q : ¬ u = 0 → ∀ h', fr ad pH f0 true h h' → gv h' (ad 1) = ud (gv h (ad 1)) 5 (u - 1) → hR h' (ad 6) = hR h (ad 6) → hR h' (ad 1) 3 = hR h (ad 6) (u - 1).toNat → Q (.inl (some (.inl (ii (u - 1))))) h') (r : u = 0 → Q (.inl (some (.inl (ii (-1))))) h) : tr_C E 81 [.inr (.inr (ad 1))] h Q := by
  refine T_X7_undo ok ?_
  have z5 : ud (gv h (ad 1)) 5 (u - 1) 5 = u - 1 := ud_eq _ _ _
  have x5 : ((5 : Nat) : Int) = 5 := rfl
  simp (disch := first | omega | decide | assumption | exact st_ne s0 (by decide) (by decide) (by decide) | exact dyn_ne (by assumption) (by decide) | fail) only [Int.reduceAdd, Int.reduceSub, Int.reduceNeg, ii_add, ii_sub, ii_mul, ii_lt, ii_le, ii_eq, ixn_ii, ixo_ii, rem_ii, nb_1, nb_0, nb_bb, bb_0, hI_gv, Int.toNat_of_nonneg, Int.cast_ofNat_Int, ht_sI, ht_sJ, ht_sR, hn_sI, hn_sJ, hn_sR, hR_sI, hR_sJ, kI_v, kV_v, kJ_v, true_and, and_true, forall_eq, tg, ln, rf, ne_eq, not_false_eq_true, forall_const, not_true_eq_false, false_implies, W_X7_undo, st_t s0, st_n s0, st_r s0, hu, gv_sIi, gv_sR, x5, z5]
  refine ⟨r, fun g => ⟨by omega, ?_⟩⟩
  refine q g _ (fr_hsR13 (fr_sI fr_rfl rfl) _) ?_ ?_ ?_
  · rw [gv_sR, gv_sIi (by omega) (by omega)]; rfl
  · rw [hR_sRn (st_ne s0 (by decide) (by decide) (by decide))]; rfl
  · rw [hR_sR, ixn_ii (by omega) (by omega)]
theorem c_undo_26 (ok : tr_ok E) (s0 : stat ad h0) {u : Int} (u0 : 0 ≤ u) (u1 : u ≤ 11) (q : ∀ h', fr ad pW fW false h0 h' → gv h' (ad 23) = gv h0 (ad 23) → gv h' (ad 27) = gv h0 (ad 27) → (∀ z, 0 ≤ z → z < 867 → gv h' (ad 25) z = gv h0 (ad 27) (867 * u + z)) → Q (.inl (some (.inl (ii u)))) h') (e9 : gv h0 (ad 23) 9 = u) : ∀ (n : Nat) (k : Int) (h : tr_H), k + n = 867 → 0 ≤ k → fr ad pW fW false h0 h → gv h (ad 23) = gv h0 (ad 23) → gv h (ad 27) = gv h0 (ad 27) → (∀ z, 0 ≤ z → z < k → gv h (ad 25) z = gv h0 (ad 27) (867 * u + z)) → tr_G E 162 Q 26 [some (.inr (.inr (ad 23))), some (.inl (ii k))] [] h 0 0
  | n, k, h, hn, k0, f, e1, e2, e3 => by
    refine T_X8_undo_26 ok ?_
    have s1 := st_fr s0 f
    have e9h : gv h (ad 23) 9 = u := by rw [e1]; exact e9
    have rg := gv_rg h0 (ad 27) (867 * u + k)
    simp (disch := first | omega | decide | assumption | exact st_ne s0 (by decide) (by decide) (by decide) | exact dyn_ne (by assumption) (by decide) | fail) only [Int.reduceAdd, Int.reduceSub, Int.reduceNeg, ii_add, ii_sub, ii_mul, ii_lt, ii_le, ii_eq, ixn_ii, ixo_ii, rem_ii, nb_1, nb_0, nb_bb, bb_0, hI_gv, Int.toNat_of_nonneg, Int.cast_ofNat_Int, ht_sI, ht_sJ, ht_sR, hn_sI, hn_sJ, hn_sR, hR_sI, hR_sJ, kI_v, kV_v, kJ_v, true_and, and_true, forall_eq, tg, ln, rf, ne_eq, not_false_eq_true, forall_const, not_true_eq_false, false_implies, W_X8_undo_26, st_t s1, st_n s1, st_r s1, e9h, e2]
    refine ⟨fun g => ⟨by omega, by omega, ?_⟩, fun g => ?_⟩
    · obtain ⟨n, rfl⟩ : ∃ n', n = n' + 1 := ⟨n - 1, by omega⟩
      refine c_undo_26 ok s0 u0 u1 q e9 n (k + 1) _ (by omega) (by omega) (fr_sI f rfl) ?_ ?_ (fun z z0 z1 => ?_)
      · rw [gv_sIn (st_ne s1 (by decide) (by decide) (by decide))]; exact e1
      · rw [gv_sIn (st_ne s1 (by decide) (by decide) (by decide))]; exact e2
      · rw [gv_sIi rg.1 rg.2, Int.toNat_of_nonneg k0]
        by_cases e : z = k
        · rw [e, ud_eq]
        · rw [ud_ne e]; exact e3 z z0 (by omega)
    · exact q h f e1 e2 (fun z z0 z1 => e3 z z0 (by omega))
theorem M_undo (ok : tr_ok E) (s0 : stat ad h) {u : Int} (hu : gv h (ad 23) 9 = u) (u0 : 0 ≤ u) (u1 : u ≤ 12) (q : ¬ u = 0 → ∀ h', fr ad pW fW false h h' → gv h' (ad 23) 0 = 0 → gv h' (ad 23) 9 = u - 1 → gv h' (ad 27) = gv h (ad 27) → (∀ z, 0 ≤ z → z < 867 → gv h' (ad 25) z = gv h (ad 27) (867 * (u - 1) + z)) → Q (.inl (some (.inl (ii (u - 1))))) h') (r : u = 0 → ∀ h', mpo ad h 0 0 h' → Q (.inl (some (.inl (ii (-1))))) h') : tr_C E 162 [.inr (.inr (ad 23))] h Q := by
  refine T_X8_undo ok ?_
  have z9 : gv (hsI h (ad 23) 0 (ii 0)) (ad 23) 9 = u := by rw [gv_sI, ud_ne (by decide)]; exact hu
  simp (disch := first | omega | decide | assumption | exact st_ne s0 (by decide) (by decide) (by decide) | exact dyn_ne (by assumption) (by decide) | fail) only [Int.reduceAdd, Int.reduceSub, Int.reduceNeg, ii_add, ii_sub, ii_mul, ii_lt, ii_le, ii_eq, ixn_ii, ixo_ii, rem_ii, nb_1, nb_0, nb_bb, bb_0, hI_gv, Int.toNat_of_nonneg, Int.cast_ofNat_Int, ht_sI, ht_sJ, ht_sR, hn_sI, hn_sJ, hn_sR, hR_sI, hR_sJ, kI_v, kV_v, kJ_v, true_and, and_true, forall_eq, tg, ln, rf, ne_eq, not_false_eq_true, forall_const, not_true_eq_false, false_implies, W_X8_undo, st_t s0, z9]
  refine ⟨fun g => r g _ (m_start s0), fun g => ?_⟩
  have f1 : fr ad pW fW false h (hsI (hsI h (ad 23) 0 (ii 0)) (ad 23) 9 (ii (u - 1))) := fr_sF (fr_sFs rfl) rfl
  have y27 : gv (hsI (hsI h (ad 23) 0 (ii 0)) (ad 23) 9 (ii (u - 1))) (ad 27) = gv h (ad 27) := by
    rw [gv_sIn (st_ne s0 (by decide) (by decide) (by decide)), gv_sIn (st_ne s0 (by decide) (by decide) (by decide))]
  have y9 : gv (hsI (hsI h (ad 23) 0 (ii 0)) (ad 23) 9 (ii (u - 1))) (ad 23) 9 = u - 1 := by
    rw [gv_sIi (by omega) (by omega)]; exact ud_eq _ _ _
  have y0 : gv (hsI (hsI h (ad 23) 0 (ii 0)) (ad 23) 9 (ii (u - 1))) (ad 23) 0 = 0 := by
    rw [gv_sI, ud_ne (by decide), gv_sIi (by omega) (by omega)]; exact ud_eq _ _ _
  refine c_undo_26 (u := u - 1) ok (st_fr s0 f1) (by omega) (by omega) (fun h' f' a1 a2 a3 => ?_) y9 867 0 _ (by omega) (by omega) fr_rfl rfl rfl (fun z z0 z1 => by omega)
  refine q g h' (fr_tr f1 f') (by rw [a1]; exact y0) (by rw [a1]; exact y9) (by rw [a2]; exact y27) (fun z z0 z1 => ?_)
  rw [a3 z z0 z1, y27]
end CH2
