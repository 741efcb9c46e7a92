/-! FILLED ROWS, REFUSALS, COUNTS OVER THE STATE, THE FIRSTS -/
def hfl (h : tr_H) (r : Nat) (n : Int) (v : Int32) : tr_H := (ht h, hn h, up1 (hI h) r (fun k => if (k : Int) < n then v else hI h r k), hJ h, hR h)
theorem hfl_0 (h : tr_H) (r : Nat) (v : Int32) : hfl h r 0 v = h := by
  have : up1 (hI h) r (fun k => if (k : Int) < 0 then v else hI h r k) = hI h := by
    funext x k
    unfold up1
    split
    · next e => subst e; exact if_neg (by omega)
    · rfl
  unfold hfl; rw [this]; rfl
theorem hfl_s (h : tr_H) (r : Nat) (n : Int) (v : Int32) (h0 : 0 ≤ n) : hsI (hfl h r n v) r n.toNat v = hfl h r (n + 1) v := by
  have : up2 (up1 (hI h) r (fun k => if (k : Int) < n then v else hI h r k)) r n.toNat v = up1 (hI h) r (fun k => if (k : Int) < n + 1 then v else hI h r k) := by
    funext x k
    unfold up2 up1
    by_cases e : x = r
    · rw [if_pos e, if_pos e, if_pos e]
      by_cases e2 : k = n.toNat
      · rw [if_pos e2, if_pos (by omega)]
      · rw [if_neg e2]
        by_cases e3 : (k : Int) < n
        · rw [if_pos e3, if_pos (by omega)]
        · rw [if_neg e3, if_neg (by omega)]
    · rw [if_neg e, if_neg e, if_neg e]
  show (_, _, _, _, _) = (_, _, _, _, _)
  rw [← this]; rfl
theorem ht_fl (h : tr_H) (r : Nat) (n : Int) (v : Int32) : ht (hfl h r n v) = ht h := rfl
theorem hn_fl (h : tr_H) (r : Nat) (n : Int) (v : Int32) : hn (hfl h r n v) = hn h := rfl
theorem hR_fl (h : tr_H) (r : Nat) (n : Int) (v : Int32) : hR (hfl h r n v) = hR h := rfl
theorem hJ_fl (h : tr_H) (r : Nat) (n : Int) (v : Int32) : hJ (hfl h r n v) = hJ h := rfl
theorem gv_fl (h : tr_H) (r : Nat) (n v : Int) (h1 : -2147483648 ≤ v) (h2 : v ≤ 2147483647) : gv (hfl h r n (ii v)) r = fun z => if 0 ≤ z ∧ z < n then v else gv h r z := by
  funext z
  unfold gv
  by_cases hz : z < 0
  · rw [if_pos hz, if_neg (by omega), if_pos hz]
  · rw [if_neg hz, if_neg hz]
    show (up1 (hI h) r (fun k => if (k : Int) < n then ii v else hI h r k) r z.toNat).toInt = _
    unfold up1; rw [if_pos rfl]
    by_cases e : z < n
    · rw [if_pos (by omega), if_pos (by omega), ti_ii h1 h2]
    · rw [if_neg (by omega), if_neg (by omega)]
theorem gv_fln {h : tr_H} {r r2 : Nat} {n : Int} {v : Int32} (hr : r2 ≠ r) : gv (hfl h r n v) r2 = gv h r2 := by
  funext z
  unfold gv
  split
  · rfl
  · show (up1 (hI h) r _ r2 z.toNat).toInt = _
    unfold up1; rw [if_neg hr]
theorem fr_fl {ad : Nat → Nat} {P : Nat → Bool} {F : Int → Bool} {R : Bool} {h h' : tr_H} (a : fr ad P F R h h') {i : Nat} {n : Int} {v : Int32} (hi : P i = true) : fr ad P F R h (hfl h' (ad i) n v) := by
  refine fr_tr a (fun r hr => ⟨rfl, rfl, fun q => ⟨fun z hz => ?_, rfl⟩, fun _ _ => rfl⟩)
  rw [gv_fln (q i hi)]
def rfz (ad : Nat → Nat) (h : tr_H) (k : Nat) : tr_H := hsI h (ad 7) k (ii (gv h (ad 7) (k : Int) + 1))
def kst (ad : Nat → Nat) (h : tr_H) (m one two : Int → Int) (H L : Int) : Prop := stat ad h ∧ cst ad h (hR h (ad 1) 3) m one two H L
def f0 : Int → Bool := fun _ => false
def pC (i : Nat) : Bool := Nat.ble 2 i && (Nat.ble i 22 && !(Nat.ble 5 i && Nat.ble i 7))
theorem pC_lt (j : Nat) (h : pC j = true) : j < 42 := by
  unfold pC at h
  simp only [Bool.and_eq_true, Nat.ble_eq] at h
  omega
theorem kst_fr {ad : Nat → Nat} {h h' : tr_H} {m one two : Int → Int} {H L : Int} {P : Nat → Bool} {F : Int → Bool} (c : kst ad h m one two H L) (a : fr ad P F false h h') (hP1 : ∀ j, P j = true → j < 42) : kst ad h' m one two H L := by
  refine ⟨st_fr c.1 a, ?_⟩
  have := (a (ad 1) (st_0 c.1 (by decide))).2.2.2 3 (fun e => by cases e)
  rw [this]
  exact cst_fr c.1 a hP1 c.2
section FST
variable {E : tr_Env} {ad : Nat → Nat} {h : tr_H} {Q : tr_Q} {m one two : Int → Int} {H L : Int}
theorem k_fill_5 (ok : tr_ok E) {r : Nat} (h1 : ht h r = 11) (h2 : hn h r ≤ 20000) {v : Int32} : ∀ (n : Nat) (i : Int), i + n = hn h r → 0 ≤ i → Q (.inl none) (hfl h r (hn h r) v) → tr_G E 206 Q 5 [some (.inr (.inr r)), some (.inl v), some (.inl (ii i)), some (.inl (ii (hn h r : Nat)))] [] (hfl h r i v) 0 0
  | n, i, hk, g0, q => by
    refine T_J7_fill_53178_5 ok ?_
    simp (disch := first | omega | decide | assumption | exact st_ne s0 (by decide) (by decide) (by decide) | exact dyn_ne (by assumption) (by decide) | fail) only [Int.reduceAdd, Int.reduceSub, Int.reduceNeg, ii_add, ii_sub, ii_mul, ii_lt, ii_le, ii_eq, ixn_ii, ixo_ii, rem_ii, nb_1, nb_0, nb_bb, bb_0, hI_gv, Int.toNat_of_nonneg, Int.cast_ofNat_Int, ht_sI, ht_sJ, ht_sR, hn_sI, hn_sJ, hn_sR, hR_sI, hR_sJ, kI_v, kV_v, kJ_v, true_and, and_true, forall_eq, tg, ln, rf, ne_eq, not_false_eq_true, forall_const, not_true_eq_false, false_implies, W_J7_fill_53178_5, ht_fl, hn_fl, h1]
    refine ⟨fun g => ⟨by omega, ?_⟩, fun g => ?_⟩
    · obtain ⟨n, rfl⟩ : ∃ n', n = n' + 1 := ⟨n - 1, by omega⟩
      rw [hfl_s _ _ _ _ g0]
      exact k_fill_5 ok h1 h2 n (i + 1) (by omega) (by omega) q
    · obtain rfl : i = hn h r := by omega
      exact q
theorem k_fill (ok : tr_ok E) {r : Nat} (h1 : ht h r = 11) (h2 : hn h r ≤ 20000) {v : Int32} (q : Q (.inl none) (hfl h r (hn h r) v)) : tr_C E 206 [.inr (.inr r), .inl v] h Q := by
  refine T_J7_fill_53178 ok ⟨h1, ?_⟩
  have := k_fill_5 (h := h) (Q := Q) (v := v) ok h1 h2 (hn h r) 0 (by omega) (by omega) q
  rw [hfl_0] at this
  exact this
theorem k_req1 (ok : tr_ok E) (q : Q (.inl none) h) : tr_C E 104 [.inr (.inr (ad 1)), .inl (ii 1)] h Q := by
  refine T_X7_require ok ?_
  simp (disch := first | omega | decide | assumption | exact st_ne s0 (by decide) (by decide) (by decide) | exact dyn_ne (by assumption) (by decide) | fail) only [Int.reduceAdd, Int.reduceSub, Int.reduceNeg, ii_add, ii_sub, ii_mul, ii_lt, ii_le, ii_eq, ixn_ii, ixo_ii, rem_ii, nb_1, nb_0, nb_bb, bb_0, hI_gv, Int.toNat_of_nonneg, Int.cast_ofNat_Int, ht_sI, ht_sJ, ht_sR, hn_sI, hn_sJ, hn_sR, hR_sI, hR_sJ, kI_v, kV_v, kJ_v, true_and, and_true, forall_eq, tg, ln, rf, ne_eq, not_false_eq_true, forall_const, not_true_eq_false, false_implies, W_X7_require]
  exact ⟨fun g => by omega, fun _ => q⟩
theorem k_req0 (ok : tr_ok E) (s : stat ad h) (q : Q (.inr 1) (rfz ad h 1)) : tr_C E 104 [.inr (.inr (ad 1)), .inl (ii 0)] h Q := by
  refine T_X7_require ok ?_
  unfold rfz at q
  simp (disch := first | omega | decide | assumption | exact st_ne s0 (by decide) (by decide) (by decide) | exact dyn_ne (by assumption) (by decide) | fail) only [Int.reduceAdd, Int.reduceSub, Int.reduceNeg, ii_add, ii_sub, ii_mul, ii_lt, ii_le, ii_eq, ixn_ii, ixo_ii, rem_ii, nb_1, nb_0, nb_bb, bb_0, hI_gv, Int.toNat_of_nonneg, Int.cast_ofNat_Int, ht_sI, ht_sJ, ht_sR, hn_sI, hn_sJ, hn_sR, hR_sI, hR_sJ, kI_v, kV_v, kJ_v, true_and, and_true, forall_eq, tg, ln, rf, ne_eq, not_false_eq_true, forall_const, not_true_eq_false, false_implies, W_X7_require, st_t s, st_n s, st_r s]
  exact ⟨by omega, by omega, q⟩
theorem k_reqb (ok : tr_ok E) (s : stat ad h) {b : Bool} (q : b = true → Q (.inl none) h) (r : b = false → Q (.inr 1) (rfz ad h 1)) : tr_C E 104 [.inr (.inr (ad 1)), .inl (bb b)] h Q := by
  cases b
  · exact k_req0 ok s (r rfl)
  · exact k_req1 ok (q rfl)
theorem k_fnd1 (ok : tr_ok E) (q : Q (.inl none) h) : tr_C E 103 [.inr (.inr (ad 1)), .inl (ii 1)] h Q := by
  refine T_X7_find ok ?_
  simp (disch := first | omega | decide | assumption | exact st_ne s0 (by decide) (by decide) (by decide) | exact dyn_ne (by assumption) (by decide) | fail) only [Int.reduceAdd, Int.reduceSub, Int.reduceNeg, ii_add, ii_sub, ii_mul, ii_lt, ii_le, ii_eq, ixn_ii, ixo_ii, rem_ii, nb_1, nb_0, nb_bb, bb_0, hI_gv, Int.toNat_of_nonneg, Int.cast_ofNat_Int, ht_sI, ht_sJ, ht_sR, hn_sI, hn_sJ, hn_sR, hR_sI, hR_sJ, kI_v, kV_v, kJ_v, true_and, and_true, forall_eq, tg, ln, rf, ne_eq, not_false_eq_true, forall_const, not_true_eq_false, false_implies, W_X7_find]
  exact ⟨fun g => by omega, fun _ => q⟩
theorem k_fnd0 (ok : tr_ok E) (s : stat ad h) (q : Q (.inr 0) (rfz ad h 0)) : tr_C E 103 [.inr (.inr (ad 1)), .inl (ii 0)] h Q := by
  refine T_X7_find ok ?_
  unfold rfz at q
  simp (disch := first | omega | decide | assumption | exact st_ne s0 (by decide) (by decide) (by decide) | exact dyn_ne (by assumption) (by decide) | fail) only [Int.reduceAdd, Int.reduceSub, Int.reduceNeg, ii_add, ii_sub, ii_mul, ii_lt, ii_le, ii_eq, ixn_ii, ixo_ii, rem_ii, nb_1, nb_0, nb_bb, bb_0, hI_gv, Int.toNat_of_nonneg, Int.cast_ofNat_Int, ht_sI, ht_sJ, ht_sR, hn_sI, hn_sJ, hn_sR, hR_sI, hR_sJ, kI_v, kV_v, kJ_v, true_and, and_true, forall_eq, tg, ln, rf, ne_eq, not_false_eq_true, forall_const, not_true_eq_false, false_implies, W_X7_find, st_t s, st_n s, st_r s]
  exact ⟨by omega, by omega, q⟩
theorem k_fndb (ok : tr_ok E) (s : stat ad h) {b : Bool} (q : b = true → Q (.inl none) h) (r : b = false → Q (.inr 0) (rfz ad h 0)) : tr_C E 103 [.inr (.inr (ad 1)), .inl (bb b)] h Q := by
  cases b
  · exact k_fnd0 ok s (r rfl)
  · exact k_fnd1 ok (q rfl)
theorem k_full (ok : tr_ok E) (c : kst ad h m one two H L) (v : vok m one two H L) (q : m 106 < 40 → Q (.inl none) h) (r : ¬ m 106 < 40 → Q (.inr 2) (rfz ad h 2)) : tr_C E 105 [.inr (.inr (ad 1))] h Q := by
  refine T_X7_refuseWhenFull ok ?_
  have vm := v_m v
  have s := c.1
  unfold rfz at r
  simp (disch := first | omega | decide | assumption | exact st_ne s0 (by decide) (by decide) (by decide) | exact dyn_ne (by assumption) (by decide) | fail) only [Int.reduceAdd, Int.reduceSub, Int.reduceNeg, ii_add, ii_sub, ii_mul, ii_lt, ii_le, ii_eq, ixn_ii, ixo_ii, rem_ii, nb_1, nb_0, nb_bb, bb_0, hI_gv, Int.toNat_of_nonneg, Int.cast_ofNat_Int, ht_sI, ht_sJ, ht_sR, hn_sI, hn_sJ, hn_sR, hR_sI, hR_sJ, kI_v, kV_v, kJ_v, true_and, and_true, forall_eq, tg, ln, rf, ne_eq, not_false_eq_true, forall_const, not_true_eq_false, false_implies, W_X7_refuseWhenFull, st_t s, st_n s, st_r s, c.2.1, c.2.2.2.2.2.1]
  exact ⟨q, fun g => ⟨by omega, by omega, r g⟩⟩
theorem k_isLabel (ok : tr_ok E) (c : kst ad h m one two H L) (v : vok m one two H L) {a : Int} (h3 : -2147483648 ≤ a) (h4 : a ≤ 2147483647) (q : Q (.inl (some (.inl (bb (decide (0 ≤ a ∧ a < m 5)))))) h) : tr_C E 108 [.inr (.inr (ad 1)), .inl (ii a)] h Q := by
  refine T_X7_isLabel ok ?_
  have s := c.1
  have n := c.2.2.1
  obtain ⟨n0, n1, n2, ⟨sa, sb, sc⟩, ⟨ea, eb, ec⟩, ⟨ua, ub, uc⟩, ⟨ra, rb, rc⟩, ⟨ga, gb, g0, g1, g2, g3, g4⟩, nd⟩ := id n
  obtain ⟨vH, vL, vl, v0, v1, v2, v3, v4, v5, vr, vm, vp⟩ := id v
  simp (disch := first | omega | decide | assumption | exact st_ne s0 (by decide) (by decide) (by decide) | exact dyn_ne (by assumption) (by decide) | fail) only [Int.reduceAdd, Int.reduceSub, Int.reduceNeg, ii_add, ii_sub, ii_mul, ii_lt, ii_le, ii_eq, ixn_ii, ixo_ii, rem_ii, nb_1, nb_0, nb_bb, bb_0, hI_gv, Int.toNat_of_nonneg, Int.cast_ofNat_Int, ht_sI, ht_sJ, ht_sR, hn_sI, hn_sJ, hn_sR, hR_sI, hR_sJ, kI_v, kV_v, kJ_v, true_and, and_true, forall_eq, tg, ln, rf, ne_eq, not_false_eq_true, forall_const, not_true_eq_false, false_implies, W_X7_isLabel, st_t s, c.2.1, n0, ga, gb, g4]
  refine ⟨fun g => ?_, fun g => ⟨by omega, fun g2 => ?_, fun g2 => ?_⟩⟩
  · rw [decide_eq_false (by omega)] at q; exact q
  · rw [decide_eq_true (by omega)] at q; exact q
  · rw [decide_eq_false (by omega)] at q; exact q
theorem k_countReports_4 (ok : tr_ok E) {ss : Nat} (c : cst ad h ss m one two H L) (v : vok m one two H L) : ∀ (k : Nat) (i a : Int), i + k = m 106 → 0 ≤ i → 0 ≤ a → a ≤ 13 * i → Q (.inl (some (.inl (ii (a + sm (cm m) i k))))) h → tr_G E 68 Q 4 [some (.inr (.inr ss)), some (.inl (ii a)), some (.inl (ii i))] [] h 0 0
  | k, i, a, hk, g0, g1, g2, q => by
    refine T_X6_countReports_4 ok ?_
    obtain ⟨c0, n, c2, c3, c4, c5⟩ := id c
    have vm := v_m v
    simp (disch := first | omega | decide | assumption | exact st_ne s0 (by decide) (by decide) (by decide) | exact dyn_ne (by assumption) (by decide) | fail) only [Int.reduceAdd, Int.reduceSub, Int.reduceNeg, ii_add, ii_sub, ii_mul, ii_lt, ii_le, ii_eq, ixn_ii, ixo_ii, rem_ii, nb_1, nb_0, nb_bb, bb_0, hI_gv, Int.toNat_of_nonneg, Int.cast_ofNat_Int, ht_sI, ht_sJ, ht_sR, hn_sI, hn_sJ, hn_sR, hR_sI, hR_sJ, kI_v, kV_v, kJ_v, true_and, and_true, forall_eq, tg, ln, rf, ne_eq, not_false_eq_true, forall_const, not_true_eq_false, false_implies, W_X6_countReports_4, c0, c2, c3, c4, n.1]
    refine ⟨fun g => ⟨by omega, ?_⟩, fun g => ?_⟩
    · obtain ⟨k, rfl⟩ : ∃ n', k = n' + 1 := ⟨k - 1, by omega⟩
      rw [sm_s, ← Int.add_assoc] at q
      have hx := cm_rg v g0 g
      refine k_countChosen ok n (c5 i g0 g) v g0 g ?_
      simp (disch := first | omega | decide | assumption | exact st_ne s0 (by decide) (by decide) (by decide) | exact dyn_ne (by assumption) (by decide) | fail) only [Int.reduceAdd, Int.reduceSub, Int.reduceNeg, ii_add, ii_sub, ii_mul, ii_lt, ii_le, ii_eq, ixn_ii, ixo_ii, rem_ii, nb_1, nb_0, nb_bb, bb_0, hI_gv, Int.toNat_of_nonneg, Int.cast_ofNat_Int, ht_sI, ht_sJ, ht_sR, hn_sI, hn_sJ, hn_sR, hR_sI, hR_sJ, kI_v, kV_v, kJ_v, true_and, and_true, forall_eq, tg, ln, rf, ne_eq, not_false_eq_true, forall_const, not_true_eq_false, false_implies]
      exact k_countReports_4 ok c v k (i + 1) _ (by omega) (by omega) (by omega) (by omega) q
    · obtain rfl : k = 0 := by omega
      rw [sm_0, Int.add_zero] at q; exact q
theorem k_countReports (ok : tr_ok E) {ss : Nat} (c : cst ad h ss m one two H L) (v : vok m one two H L) (q : Q (.inl (some (.inl (ii (cnt m 0))))) h) : tr_C E 68 [.inr (.inr ss)] h Q := by
  refine T_X6_countReports ok ?_
  have vm := v_m v
  refine k_countReports_4 ok c v (m 106).toNat 0 0 (by omega) (by omega) (by omega) (by omega) ?_
  rw [Int.zero_add]; exact q
theorem k_countPartlyChosen_4 (ok : tr_ok E) {ss : Nat} (c : cst ad h ss m one two H L) (v : vok m one two H L) : ∀ (k : Nat) (i a : Int), i + k = m 106 → 0 ≤ i → 0 ≤ a → a ≤ i → Q (.inl (some (.inl (ii (a + sm (fun p => b2 (decide (0 < cm m p ∧ cm m p ≤ fd m p 6))) i k))))) h → tr_G E 69 Q 4 [some (.inr (.inr ss)), some (.inl (ii a)), some (.inl (ii i)), none] [] h 0 0
  | k, i, a, hk, g0, g1, g2, q => by
    refine T_X6_countPartlyChosen_4 ok ?_
    obtain ⟨c0, n, c2, c3, c4, c5⟩ := id c
    have vm := v_m v
    simp (disch := first | omega | decide | assumption | exact st_ne s0 (by decide) (by decide) (by decide) | exact dyn_ne (by assumption) (by decide) | fail) only [Int.reduceAdd, Int.reduceSub, Int.reduceNeg, ii_add, ii_sub, ii_mul, ii_lt, ii_le, ii_eq, ixn_ii, ixo_ii, rem_ii, nb_1, nb_0, nb_bb, bb_0, hI_gv, Int.toNat_of_nonneg, Int.cast_ofNat_Int, ht_sI, ht_sJ, ht_sR, hn_sI, hn_sJ, hn_sR, hR_sI, hR_sJ, kI_v, kV_v, kJ_v, true_and, and_true, forall_eq, tg, ln, rf, ne_eq, not_false_eq_true, forall_const, not_true_eq_false, false_implies, W_X6_countPartlyChosen_4, c0, c2, c3, c4, n.1]
    refine ⟨fun g => ⟨by omega, ?_⟩, fun g => ?_⟩
    · obtain ⟨k, rfl⟩ : ∃ n', k = n' + 1 := ⟨k - 1, by omega⟩
      rw [sm_s, ← Int.add_assoc] at q
      have hx := cm_rg v g0 g
      obtain ⟨q0, q1, q2, q3, q4, q5, q6, q7⟩ := v_p v g0 g
      have pk := c5 i g0 g
      obtain ⟨k0, ka, kb, kc, kd, ke, kf, kg, kh, ⟨ha, hb, hc⟩, ⟨la, lb, lc⟩, kdy⟩ := id pk
      refine k_countChosen ok n (c5 i g0 g) v g0 g ?_
      simp (disch := first | omega | decide | assumption | exact st_ne s0 (by decide) (by decide) (by decide) | exact dyn_ne (by assumption) (by decide) | fail) only [Int.reduceAdd, Int.reduceSub, Int.reduceNeg, ii_add, ii_sub, ii_mul, ii_lt, ii_le, ii_eq, ixn_ii, ixo_ii, rem_ii, nb_1, nb_0, nb_bb, bb_0, hI_gv, Int.toNat_of_nonneg, Int.cast_ofNat_Int, ht_sI, ht_sJ, ht_sR, hn_sI, hn_sJ, hn_sR, hR_sI, hR_sJ, kI_v, kV_v, kJ_v, true_and, and_true, forall_eq, tg, ln, rf, ne_eq, not_false_eq_true, forall_const, not_true_eq_false, false_implies, c0, c2, c3, k0, ka, kb, kc, kd, ke, kf, kg, kh, ha, hb, hc, la, lb, lc]
      refine ⟨fun g3 => ?_, fun g3 => ⟨by omega, fun g4 => ?_, fun g4 => ?_⟩⟩
      · refine k_countPartlyChosen_4 ok c v k (i + 1) _ (by omega) (by omega) (by omega) (by omega) ?_
        rw [decide_eq_false (by omega)] at q; exact q
      · refine k_countPartlyChosen_4 ok c v k (i + 1) _ (by omega) (by omega) (by omega) (by omega) ?_
        rw [decide_eq_true (by omega)] at q; exact q
      · refine k_countPartlyChosen_4 ok c v k (i + 1) _ (by omega) (by omega) (by omega) (by omega) ?_
        rw [decide_eq_false (by omega)] at q; exact q
    · obtain rfl : k = 0 := by omega
      rw [sm_0, Int.add_zero] at q; exact q
theorem k_countPartlyChosen (ok : tr_ok E) {ss : Nat} (c : cst ad h ss m one two H L) (v : vok m one two H L) (q : Q (.inl (some (.inl (ii (cnt m 2))))) h) : tr_C E 69 [.inr (.inr ss)] h Q := by
  refine T_X6_countPartlyChosen ok ?_
  have vm := v_m v
  refine k_countPartlyChosen_4 ok c v (m 106).toNat 0 0 (by omega) (by omega) (by omega) (by omega) ?_
  rw [Int.zero_add]; exact q
def cfa (m : Int → Int) (f : Int) : Int := sm (fun p => b2 (decide (fd m p 5 = f))) 0 (m 106).toNat
theorem k_countFates_4 (ok : tr_ok E) {ss : Nat} (c : cst ad h ss m one two H L) (v : vok m one two H L) {f : Int} (h1 : 0 ≤ f) (h2 : f ≤ 3) : ∀ (k : Nat) (i a : Int), i + k = m 106 → 0 ≤ i → 0 ≤ a → a ≤ i → Q (.inl (some (.inl (ii (a + sm (fun p => b2 (decide (fd m p 5 = f))) i k))))) h → tr_G E 70 Q 4 [some (.inr (.inr ss)), some (.inl (ii f)), some (.inl (ii a)), some (.inl (ii i))] [] h 0 0
  | k, i, a, hk, g0, g1, g2, q => by
    refine T_X6_countFates_4 ok ?_
    obtain ⟨c0, n, c2, c3, c4, c5⟩ := id c
    have vm := v_m v
    simp (disch := first | omega | decide | assumption | exact st_ne s0 (by decide) (by decide) (by decide) | exact dyn_ne (by assumption) (by decide) | fail) only [Int.reduceAdd, Int.reduceSub, Int.reduceNeg, ii_add, ii_sub, ii_mul, ii_lt, ii_le, ii_eq, ixn_ii, ixo_ii, rem_ii, nb_1, nb_0, nb_bb, bb_0, hI_gv, Int.toNat_of_nonneg, Int.cast_ofNat_Int, ht_sI, ht_sJ, ht_sR, hn_sI, hn_sJ, hn_sR, hR_sI, hR_sJ, kI_v, kV_v, kJ_v, true_and, and_true, forall_eq, tg, ln, rf, ne_eq, not_false_eq_true, forall_const, not_true_eq_false, false_implies, W_X6_countFates_4, c0, c2, c3, c4]
    refine ⟨fun g => ⟨by omega, ?_⟩, fun g => ?_⟩
    · obtain ⟨k, rfl⟩ : ∃ n', k = n' + 1 := ⟨k - 1, by omega⟩
      rw [sm_s, ← Int.add_assoc] at q
      obtain ⟨q0, q1, q2, q3, q4, q5, q6, q7⟩ := v_p v g0 g
      have pk := c5 i g0 g
      obtain ⟨k0, ka, kb, kc, kd, ke, kf, kg, kh, ⟨ha, hb, hc⟩, ⟨la, lb, lc⟩, kdy⟩ := id pk
      simp (disch := first | omega | decide | assumption | exact st_ne s0 (by decide) (by decide) (by decide) | exact dyn_ne (by assumption) (by decide) | fail) only [Int.reduceAdd, Int.reduceSub, Int.reduceNeg, ii_add, ii_sub, ii_mul, ii_lt, ii_le, ii_eq, ixn_ii, ixo_ii, rem_ii, nb_1, nb_0, nb_bb, bb_0, hI_gv, Int.toNat_of_nonneg, Int.cast_ofNat_Int, ht_sI, ht_sJ, ht_sR, hn_sI, hn_sJ, hn_sR, hR_sI, hR_sJ, kI_v, kV_v, kJ_v, true_and, and_true, forall_eq, tg, ln, rf, ne_eq, not_false_eq_true, forall_const, not_true_eq_false, false_implies, k0, ka, kb, kc, kd, ke, kf, kg, kh, ha, hb, hc, la, lb, lc]
      refine ⟨fun g3 => ?_, fun g3 => ?_⟩
      · refine k_countFates_4 ok c v h1 h2 k (i + 1) _ (by omega) (by omega) (by omega) (by omega) ?_
        rw [decide_eq_true (by omega)] at q; exact q
      · refine k_countFates_4 ok c v h1 h2 k (i + 1) _ (by omega) (by omega) (by omega) (by omega) ?_
        rw [decide_eq_false (by omega)] at q; exact q
    · obtain rfl : k = 0 := by omega
      rw [sm_0, Int.add_zero] at q; exact q
theorem k_countFates (ok : tr_ok E) {ss : Nat} (c : cst ad h ss m one two H L) (v : vok m one two H L) {f : Int} (h1 : 0 ≤ f) (h2 : f ≤ 3) (q : Q (.inl (some (.inl (ii (cfa m f))))) h) : tr_C E 70 [.inr (.inr ss), .inl (ii f)] h Q := by
  refine T_X6_countFates ok ?_
  have vm := v_m v
  refine k_countFates_4 ok c v h1 h2 (m 106).toNat 0 0 (by omega) (by omega) (by omega) (by omega) ?_
  rw [Int.zero_add]; exact q
def ctr (m two : Int → Int) (a b : Int) : Int := sm (fun p => b2 (decide (fd m p 0 = a ∧ hop m two p (fd m p 6) = b))) 0 (m 106).toNat
theorem k_countTrails_5 (ok : tr_ok E) {ss : Nat} (c : cst ad h ss m one two H L) (v : vok m one two H L) {f t : Int} (h1 : 0 ≤ f) (h2 : f < 10) (h3 : 0 ≤ t) (h4 : t < 10) : ∀ (k : Nat) (i a : Int), i + k = m 106 → 0 ≤ i → 0 ≤ a → a ≤ i → Q (.inl (some (.inl (ii (a + sm (fun p => b2 (decide (fd m p 0 = f ∧ hop m two p (fd m p 6) = t))) i k))))) h → tr_G E 71 Q 5 [some (.inr (.inr ss)), some (.inl (ii f)), some (.inl (ii t)), some (.inl (ii a)), some (.inl (ii i)), none] [] h 0 0
  | k, i, a, hk, g0, g1, g2, q => by
    refine T_X6_countTrails_5 ok ?_
    obtain ⟨c0, n, c2, c3, c4, c5⟩ := id c
    have vm := v_m v
    have vH := v_H v
    simp (disch := first | omega | decide | assumption | exact st_ne s0 (by decide) (by decide) (by decide) | exact dyn_ne (by assumption) (by decide) | fail) only [Int.reduceAdd, Int.reduceSub, Int.reduceNeg, ii_add, ii_sub, ii_mul, ii_lt, ii_le, ii_eq, ixn_ii, ixo_ii, rem_ii, nb_1, nb_0, nb_bb, bb_0, hI_gv, Int.toNat_of_nonneg, Int.cast_ofNat_Int, ht_sI, ht_sJ, ht_sR, hn_sI, hn_sJ, hn_sR, hR_sI, hR_sJ, kI_v, kV_v, kJ_v, true_and, and_true, forall_eq, tg, ln, rf, ne_eq, not_false_eq_true, forall_const, not_true_eq_false, false_implies, W_X6_countTrails_5, c0, c2, c3, c4]
    refine ⟨fun g => ⟨by omega, ?_⟩, fun g => ?_⟩
    · obtain ⟨k, rfl⟩ : ∃ n', k = n' + 1 := ⟨k - 1, by omega⟩
      rw [sm_s, ← Int.add_assoc] at q
      obtain ⟨q0, q1, q2, q3, q4, q5, q6, q7⟩ := v_p v g0 g
      have pk := c5 i g0 g
      have hh := hop_rg (k := fd m i 6) v g0 g (by omega) (by omega)
      obtain ⟨k0, ka, kb, kc, kd, ke, kf, kg, kh, ⟨ha, hb, hc⟩, ⟨la, lb, lc⟩, kdy⟩ := id pk
      have ek : fd m i 6 + 1 - 1 = fd m i 6 := by omega
      simp (disch := first | omega | decide | assumption | exact st_ne s0 (by decide) (by decide) (by decide) | exact dyn_ne (by assumption) (by decide) | fail) only [Int.reduceAdd, Int.reduceSub, Int.reduceNeg, ii_add, ii_sub, ii_mul, ii_lt, ii_le, ii_eq, ixn_ii, ixo_ii, rem_ii, nb_1, nb_0, nb_bb, bb_0, hI_gv, Int.toNat_of_nonneg, Int.cast_ofNat_Int, ht_sI, ht_sJ, ht_sR, hn_sI, hn_sJ, hn_sR, hR_sI, hR_sJ, kI_v, kV_v, kJ_v, true_and, and_true, forall_eq, tg, ln, rf, ne_eq, not_false_eq_true, forall_const, not_true_eq_false, false_implies, k0, ka, kb, kc, kd, ke, kf, kg, kh, ha, hb, hc, la, lb, lc, ek]
      refine ⟨fun g3 => ⟨by omega, fun g4 => ?_, fun g4 => ?_⟩, fun g3 => ?_⟩
      · refine k_countTrails_5 ok c v h1 h2 h3 h4 k (i + 1) _ (by omega) (by omega) (by omega) (by omega) ?_
        rw [decide_eq_true ⟨g3, g4⟩] at q; exact q
      · refine k_countTrails_5 ok c v h1 h2 h3 h4 k (i + 1) _ (by omega) (by omega) (by omega) (by omega) ?_
        rw [decide_eq_false (fun e => g4 e.2)] at q; exact q
      · refine k_countTrails_5 ok c v h1 h2 h3 h4 k (i + 1) _ (by omega) (by omega) (by omega) (by omega) ?_
        rw [decide_eq_false (fun e => g3 e.1)] at q; exact q
    · obtain rfl : k = 0 := by omega
      rw [sm_0, Int.add_zero] at q; exact q
theorem k_countTrails (ok : tr_ok E) {ss : Nat} (c : cst ad h ss m one two H L) (v : vok m one two H L) {f t : Int} (h1 : 0 ≤ f) (h2 : f < 10) (h3 : 0 ≤ t) (h4 : t < 10) (q : Q (.inl (some (.inl (ii (ctr m two f t))))) h) : tr_C E 71 [.inr (.inr ss), .inl (ii f), .inl (ii t)] h Q := by
  refine T_X6_countTrails ok ?_
  have vm := v_m v
  refine k_countTrails_5 ok c v h1 h2 h3 h4 (m 106).toNat 0 0 (by omega) (by omega) (by omega) (by omega) ?_
  rw [Int.zero_add]; exact q
end FST
