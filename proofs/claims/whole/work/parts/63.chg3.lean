/-! SET, ROUTE -/
section CH3
variable {E : tr_Env} {ad : Nat → Nat} {h h0 h1 : tr_H} {Q : tr_Q} {m m' one two : Int → Int} {H L : Int} {s so n : Nat}
/-- a row of the copy is written -/
theorem cst_w (s0 : stat ad h) (v : vok m one two H L) (c : cst ad h so m one two H L) (f1 : fr ad pH f0 true h h1) (c1 : cst ad h1 s m one two H L) (eP : hR h1 (hR h1 s 1) = hR h (hR h so 1)) {A k : Nat} {x : Int32} (hA : ht h A = 0) (tA : ht h1 A = 11) (n2 : nst ad (hsI h1 A k x) (hR h1 s 0) m' one two H L) (em : ∀ z, 106 ≤ z → z < 867 → m z = m' z) : fr ad pH f0 true h (hsI h1 A k x) ∧ cst ad (hsI h1 A k x) s m' one two H L := by
  have vm := v_m v
  have f2 : fr ad pH f0 true h (hsI h1 A k x) := fx_fr f1 (fx_sI k x) hA
  obtain ⟨d0, d1, d2, d3, d4, d5⟩ := c1
  obtain ⟨c0, cn, c2, c3, c4, c5⟩ := c
  refine ⟨f2, d0, n2, d2, d3, ?_, fun p p0 p1 => ?_⟩
  · rw [gv_sIn (ne_tg (h := h1) (by rw [d0, tA]; decide)), ← em 106 (by omega) (by omega)]; exact d4
  · rw [← em 106 (by omega) (by omega)] at p1
    have := pst_fr s0 f2 pH_lt (c5 p p0 p1)
    rw [← eP] at this
    exact pst_e (fun w w0 w1 => em _ (by omega) (by omega)) (v_p v p0 p1) this
theorem own_d (o : own h h1 n) : (hR h1 n 4 ≠ hR h1 n 5 ∧ hR h1 n 4 ≠ hR h1 n 6 ∧ hR h1 n 5 ≠ hR h1 n 6) ∧ (hR h1 n 2 ≠ hR h1 n 4 ∧ hR h1 n 2 ≠ hR h1 n 5 ∧ hR h1 n 2 ≠ hR h1 n 6) ∧ hR h1 n 3 ≠ hR h1 n 4 ∧ hR h1 n 3 ≠ hR h1 n 5 ∧ hR h1 n 3 ≠ hR h1 n 6 := o.2.2.2.2
theorem nst_w6 (o : own h h1 n) (w : nst ad h1 n m one two H L) {k x : Int} (k0 : 0 ≤ k) (k1 : k < 5) (x0 : -2147483648 ≤ x) (x1 : x ≤ 2147483647) : nst ad (hsI h1 (hR h1 n 6) k.toNat (ii x)) n (ud m (1 + k) x) one two H L := by
  obtain ⟨⟨o1, o2, o3⟩, ⟨o4, o5, o6⟩, o7, o8, o9⟩ := own_d o
  obtain ⟨n0, n1, n2, ⟨sa, sb, sc⟩, ⟨ea, eb, ec⟩, ⟨ua, ub, uc⟩, ⟨ra, rb, rc⟩, ⟨ga, gb, g0, g1, g2, g3, g4⟩, d⟩ := w
  have nn : n ≠ hR h1 n 6 := ne_tg (h := h1) (by rw [n0, ga]; decide)
  unfold nst
  rw [hR_sI, ht_sI, hn_sI, gv_sIn nn, gv_sIn o6, gv_sIn o9, gv_sIn o2, gv_sIn o3, gv_sIi x0 x1, Int.toNat_of_nonneg k0]
  refine ⟨n0, n1, n2, ⟨sa, sb, sc⟩, ⟨ea, eb, ec⟩, ⟨ua, ub, fun l l0 l1 => ?_⟩, ⟨ra, rb, fun j j0 j1 => ?_⟩, ⟨ga, gb, ?_, ?_, ?_, ?_, ?_⟩, d⟩
  · rw [ud_ne (by omega)]; exact uc l l0 l1
  · rw [ud_ne (by omega)]; exact rc j j0 j1
  · unfold ud
    by_cases e : (0 : Int) = k
    · rw [if_pos e, if_pos (by omega)]
    · rw [if_neg e, if_neg (by omega)]; exact g0
  · unfold ud
    by_cases e : (1 : Int) = k
    · rw [if_pos e, if_pos (by omega)]
    · rw [if_neg e, if_neg (by omega)]; exact g1
  · unfold ud
    by_cases e : (2 : Int) = k
    · rw [if_pos e, if_pos (by omega)]
    · rw [if_neg e, if_neg (by omega)]; exact g2
  · unfold ud
    by_cases e : (3 : Int) = k
    · rw [if_pos e, if_pos (by omega)]
    · rw [if_neg e, if_neg (by omega)]; exact g3
  · unfold ud
    by_cases e : (4 : Int) = k
    · rw [if_pos e, if_pos (by omega)]
    · rw [if_neg e, if_neg (by omega)]; exact g4
theorem nst_w5 (o : own h h1 n) (w : nst ad h1 n m one two H L) {k x : Int} (k0 : 0 ≤ k) (k1 : k < 100) (x0 : -2147483648 ≤ x) (x1 : x ≤ 2147483647) : nst ad (hsI h1 (hR h1 n 5) k.toNat (ii x)) n (ud m (6 + k) x) one two H L := by
  obtain ⟨⟨o1, o2, o3⟩, ⟨o4, o5, o6⟩, o7, o8, o9⟩ := own_d o
  obtain ⟨n0, n1, n2, ⟨sa, sb, sc⟩, ⟨ea, eb, ec⟩, ⟨ua, ub, uc⟩, ⟨ra, rb, rc⟩, ⟨ga, gb, g0, g1, g2, g3, g4⟩, d⟩ := w
  have nn : n ≠ hR h1 n 5 := ne_tg (h := h1) (by rw [n0, ra]; decide)
  unfold nst
  rw [hR_sI, ht_sI, hn_sI, gv_sIn nn, gv_sIn o5, gv_sIn o8, gv_sIn o1, gv_sIi x0 x1, gv_sIn (fun e => o3 e.symm), Int.toNat_of_nonneg k0]
  refine ⟨n0, n1, n2, ⟨sa, sb, sc⟩, ⟨ea, eb, ec⟩, ⟨ua, ub, fun l l0 l1 => ?_⟩, ⟨ra, rb, fun j j0 j1 => ?_⟩, ⟨ga, gb, ?_, ?_, ?_, ?_, ?_⟩, d⟩
  · rw [ud_ne (by omega)]; exact uc l l0 l1
  · unfold ud
    by_cases e : j = k
    · rw [if_pos e, if_pos (by omega)]
    · rw [if_neg e, if_neg (by omega)]; exact rc j j0 j1
  · rw [ud_ne (by omega)]; exact g0
  · rw [ud_ne (by omega)]; exact g1
  · rw [ud_ne (by omega)]; exact g2
  · rw [ud_ne (by omega)]; exact g3
  · rw [ud_ne (by omega)]; exact g4
theorem pok_f {p : Int} (e : ∀ w, 0 ≤ w → w < 19 → fd m p w = fd m' p w) (k : pok m H L p) : pok m' H L p := by
  unfold pok at k ⊢
  obtain ⟨a0, a1, a2, a3, a4, a5, a6, a7⟩ := k
  rw [← e 0 (by omega) (by omega), ← e 1 (by omega) (by omega), ← e 2 (by omega) (by omega), ← e 3 (by omega) (by omega), ← e 4 (by omega) (by omega), ← e 5 (by omega) (by omega), ← e 6 (by omega) (by omega)]
  refine ⟨a0, a1, a2, a3, a4, a5, a6, fun k k0 k1 => ?_⟩
  have := a7 k k0 k1
  unfold lk at this ⊢
  rw [← e (7 + k) (by omega) (by omega)]; exact this
/-- which settings may be made -/
def sok (m : Int → Int) (w x : Int) : Bool := if w = 0 then decide (1 ≤ x ∧ x ≤ 31) else if w = 1 then decide (2 ≤ x ∧ x ≤ 997 ∧ m 3 ≤ x ∧ m 4 < x) else if w = 2 then decide (1 ≤ x ∧ x ≤ m 2) else if w = 3 then decide (0 ≤ x ∧ x < m 2) else if w = 4 then decide (2 ≤ x ∧ x ≤ 64) else false
theorem sok_w {w x : Int} (g : sok m w x = true) : 0 ≤ w ∧ w ≤ 4 := by
  unfold sok at g
  split at g
  · omega
  · split at g
    · omega
    · split at g
      · omega
      · split at g
        · omega
        · split at g
          · omega
          · cases g
theorem vok_s {w x : Int} (v : vok m one two H L) (g : sok m w x = true) : vok (ud m (1 + w) x) one two H L := by
  have hw := sok_w g
  obtain ⟨vH, vL, vl, v0, v1, v2, v3, v4, v5, vr, vm, vp⟩ := id v
  have hk : ∀ k, (k < 1 ∨ 5 < k) → ud m (1 + w) x k = m k := fun k hk => ud_ne (by omega)
  have hs : ∀ k, k ≠ 1 + w → ud m (1 + w) x k = m k := fun k hk => ud_ne hk
  have he : ud m (1 + w) x (1 + w) = x := ud_eq _ _ _
  have hp : ∀ p, 0 ≤ p → p < m 106 → pok (ud m (1 + w) x) H L p := by
    intro p p0 p1
    exact pok_f (fun w' h0 _ => (hk (107 + 19 * p + w') (by omega)).symm) (vp p p0 p1)
  unfold sok at g
  rcases (by omega : w = 0 ∨ w = 1 ∨ w = 2 ∨ w = 3 ∨ w = 4) with rfl | rfl | rfl | rfl | rfl
  · rw [if_pos rfl, decide_eq_true_eq] at g
    refine ⟨vH, vL, vl, ?_, ?_, ?_, ?_, ?_, ?_, fun k k0 k1 => by rw [hk (6 + k) (by omega)]; exact vr k k0 k1, by rw [hk 106 (by omega)]; exact vm, fun p p0 p1 => hp p p0 (by rw [hk 106 (by omega)] at p1; exact p1)⟩
    · rw [hs 0 (by omega)]; exact v0
    · have : ud m (1 + 0) x 1 = x := he
      rw [this]; exact g
    · rw [hs 2 (by omega)]; exact v2
    · rw [hs 2 (by omega), hs 3 (by omega)]; exact v3
    · rw [hs 2 (by omega), hs 4 (by omega)]; exact v4
    · rw [hs 5 (by omega)]; exact v5
  · rw [if_neg (by omega), if_pos rfl, decide_eq_true_eq] at g
    have e2 : ud m (1 + 1) x 2 = x := he
    refine ⟨vH, vL, vl, ?_, ?_, ?_, ?_, ?_, ?_, fun k k0 k1 => by rw [hk (6 + k) (by omega)]; exact vr k k0 k1, by rw [hk 106 (by omega)]; exact vm, fun p p0 p1 => hp p p0 (by rw [hk 106 (by omega)] at p1; exact p1)⟩
    · rw [hs 0 (by omega)]; exact v0
    · rw [hs 1 (by omega)]; exact v1
    · rw [e2]; omega
    · rw [e2, hs 3 (by omega)]; omega
    · rw [e2, hs 4 (by omega)]; omega
    · rw [hs 5 (by omega)]; exact v5
  · rw [if_neg (by omega), if_neg (by omega), if_pos rfl, decide_eq_true_eq] at g
    have e3 : ud m (1 + 2) x 3 = x := he
    refine ⟨vH, vL, vl, ?_, ?_, ?_, ?_, ?_, ?_, fun k k0 k1 => by rw [hk (6 + k) (by omega)]; exact vr k k0 k1, by rw [hk 106 (by omega)]; exact vm, fun p p0 p1 => hp p p0 (by rw [hk 106 (by omega)] at p1; exact p1)⟩
    · rw [hs 0 (by omega)]; exact v0
    · rw [hs 1 (by omega)]; exact v1
    · rw [hs 2 (by omega)]; exact v2
    · rw [e3, hs 2 (by omega)]; omega
    · rw [hs 2 (by omega), hs 4 (by omega)]; exact v4
    · rw [hs 5 (by omega)]; exact v5
  · rw [if_neg (by omega), if_neg (by omega), if_neg (by omega), if_pos rfl, decide_eq_true_eq] at g
    have e4 : ud m (1 + 3) x 4 = x := he
    refine ⟨vH, vL, vl, ?_, ?_, ?_, ?_, ?_, ?_, fun k k0 k1 => by rw [hk (6 + k) (by omega)]; exact vr k k0 k1, by rw [hk 106 (by omega)]; exact vm, fun p p0 p1 => hp p p0 (by rw [hk 106 (by omega)] at p1; exact p1)⟩
    · rw [hs 0 (by omega)]; exact v0
    · rw [hs 1 (by omega)]; exact v1
    · rw [hs 2 (by omega)]; exact v2
    · rw [hs 2 (by omega), hs 3 (by omega)]; exact v3
    · rw [e4, hs 2 (by omega)]; omega
    · rw [hs 5 (by omega)]; exact v5
  · rw [if_neg (by omega), if_neg (by omega), if_neg (by omega), if_neg (by omega), if_pos rfl, decide_eq_true_eq] at g
    have e5 : ud m (1 + 4) x 5 = x := he
    refine ⟨vH, vL, vl, ?_, ?_, ?_, ?_, ?_, ?_, fun k k0 k1 => by rw [hk (6 + k) (by omega)]; exact vr k k0 k1, by rw [hk 106 (by omega)]; exact vm, fun p p0 p1 => hp p p0 (by rw [hk 106 (by omega)] at p1; exact p1)⟩
    · rw [hs 0 (by omega)]; exact v0
    · rw [hs 1 (by omega)]; exact v1
    · rw [hs 2 (by omega)]; exact v2
    · rw [hs 2 (by omega), hs 3 (by omega)]; exact v3
    · rw [hs 2 (by omega), hs 4 (by omega)]; exact v4
    · rw [e5]; exact g
theorem k_fits (ok : tr_ok E) (n : nst ad h so m one two H L) (v : vok m one two H L) {w x : Int} (w0 : 0 ≤ w) (w1 : w ≤ 4) (x0 : -2147483648 ≤ x) (x1 : x ≤ 2147483647) (q : ∀ b, (b = true ↔ (if w = 1 then 2 ≤ x ∧ x ≤ 997 ∧ m 4 < x else sok m w x = true)) → Q (.inl (some (.inl (bb b)))) h) : tr_C E 31 [.inr (.inr so), .inl (ii w), .inl (ii x)] h Q := by
  refine T_X2_fits ok ?_
  obtain ⟨n0, n1, n2, ⟨sa, sb, sc⟩, ⟨ea, eb, ec⟩, ⟨ua, ub, uc⟩, ⟨ra, rb, rc⟩, ⟨ga, gb, g0, g1, g2, g3, g4⟩, nd⟩ := id n
  obtain ⟨vH, vL, vl, v0, v1, v2, v3, v4, v5, vr, vm, vp⟩ := id v
  have yes : (if w = 1 then 2 ≤ x ∧ x ≤ 997 ∧ m 4 < x else sok m w x = true) → Q (.inl (some (.inl (ii 1)))) h := fun g => q true ⟨fun _ => g, fun _ => rfl⟩
  have no : ¬ (if w = 1 then 2 ≤ x ∧ x ≤ 997 ∧ m 4 < x else sok m w x = true) → Q (.inl (some (.inl (ii 0)))) h := fun g => q false ⟨fun e => Bool.noConfusion e, fun e => absurd e g⟩
  clear q
  unfold sok at yes no
  rcases (by omega : w = 0 ∨ w = 1 ∨ w = 2 ∨ w = 3 ∨ w = 4) with rfl | rfl | rfl | rfl | rfl
  · rw [if_neg (by omega), if_pos rfl, decide_eq_true_eq] at yes no
    simp (disch := first | omega | decide | assumption | exact st_ne s0 (by decide) (by decide) (by decide) | exact dyn_ne (by assumption) (by decide) | fail) only [Int.reduceAdd, Int.reduceSub, Int.reduceNeg, ii_add, ii_sub, ii_mul, ii_lt, ii_le, ii_eq, ixn_ii, ixo_ii, rem_ii, nb_1, nb_0, nb_bb, bb_0, hI_gv, Int.toNat_of_nonneg, Int.cast_ofNat_Int, ht_sI, ht_sJ, ht_sR, hn_sI, hn_sJ, hn_sR, hR_sI, hR_sJ, kI_v, kV_v, kJ_v, true_and, and_true, forall_eq, tg, ln, rf, ne_eq, not_false_eq_true, forall_const, not_true_eq_false, false_implies, Int.reduceEq, Int.reduceLT, Int.reduceLE, implies_true, and_self, reduceCtorEq, false_and, W_X2_fits, n0, ga, gb, g1, g3]
    exact ⟨fun _ => no (by omega), fun _ => ⟨fun _ => yes (by omega), fun _ => no (by omega)⟩⟩
  · rw [if_pos rfl] at yes no
    simp (disch := first | omega | decide | assumption | exact st_ne s0 (by decide) (by decide) (by decide) | exact dyn_ne (by assumption) (by decide) | fail) only [Int.reduceAdd, Int.reduceSub, Int.reduceNeg, ii_add, ii_sub, ii_mul, ii_lt, ii_le, ii_eq, ixn_ii, ixo_ii, rem_ii, nb_1, nb_0, nb_bb, bb_0, hI_gv, Int.toNat_of_nonneg, Int.cast_ofNat_Int, ht_sI, ht_sJ, ht_sR, hn_sI, hn_sJ, hn_sR, hR_sI, hR_sJ, kI_v, kV_v, kJ_v, true_and, and_true, forall_eq, tg, ln, rf, ne_eq, not_false_eq_true, forall_const, not_true_eq_false, false_implies, Int.reduceEq, Int.reduceLT, Int.reduceLE, implies_true, and_self, reduceCtorEq, false_and, W_X2_fits, n0, ga, gb, g1, g3]
    exact ⟨fun _ => no (by omega), fun _ => ⟨fun _ => ⟨fun _ => no (by omega), fun _ => yes (by omega)⟩, fun _ => no (by omega)⟩⟩
  · rw [if_neg (by omega), if_neg (by omega), if_neg (by omega), if_pos rfl, decide_eq_true_eq] at yes no
    simp (disch := first | omega | decide | assumption | exact st_ne s0 (by decide) (by decide) (by decide) | exact dyn_ne (by assumption) (by decide) | fail) only [Int.reduceAdd, Int.reduceSub, Int.reduceNeg, ii_add, ii_sub, ii_mul, ii_lt, ii_le, ii_eq, ixn_ii, ixo_ii, rem_ii, nb_1, nb_0, nb_bb, bb_0, hI_gv, Int.toNat_of_nonneg, Int.cast_ofNat_Int, ht_sI, ht_sJ, ht_sR, hn_sI, hn_sJ, hn_sR, hR_sI, hR_sJ, kI_v, kV_v, kJ_v, true_and, and_true, forall_eq, tg, ln, rf, ne_eq, not_false_eq_true, forall_const, not_true_eq_false, false_implies, Int.reduceEq, Int.reduceLT, Int.reduceLE, implies_true, and_self, reduceCtorEq, false_and, W_X2_fits, n0, ga, gb, g1, g3]
    exact ⟨fun _ => no (by omega), fun _ => ⟨fun _ => yes (by omega), fun _ => no (by omega)⟩⟩
  · rw [if_neg (by omega), if_neg (by omega), if_neg (by omega), if_neg (by omega), if_pos rfl, decide_eq_true_eq] at yes no
    simp (disch := first | omega | decide | assumption | exact st_ne s0 (by decide) (by decide) (by decide) | exact dyn_ne (by assumption) (by decide) | fail) only [Int.reduceAdd, Int.reduceSub, Int.reduceNeg, ii_add, ii_sub, ii_mul, ii_lt, ii_le, ii_eq, ixn_ii, ixo_ii, rem_ii, nb_1, nb_0, nb_bb, bb_0, hI_gv, Int.toNat_of_nonneg, Int.cast_ofNat_Int, ht_sI, ht_sJ, ht_sR, hn_sI, hn_sJ, hn_sR, hR_sI, hR_sJ, kI_v, kV_v, kJ_v, true_and, and_true, forall_eq, tg, ln, rf, ne_eq, not_false_eq_true, forall_const, not_true_eq_false, false_implies, Int.reduceEq, Int.reduceLT, Int.reduceLE, implies_true, and_self, reduceCtorEq, false_and, W_X2_fits, n0, ga, gb, g1, g3]
    exact ⟨fun _ => no (by omega), fun _ => ⟨fun _ => yes (by omega), fun _ => no (by omega)⟩⟩
  · rw [if_neg (by omega), if_neg (by omega), if_neg (by omega), if_neg (by omega), if_neg (by omega), if_pos rfl, decide_eq_true_eq] at yes no
    simp (disch := first | omega | decide | assumption | exact st_ne s0 (by decide) (by decide) (by decide) | exact dyn_ne (by assumption) (by decide) | fail) only [Int.reduceAdd, Int.reduceSub, Int.reduceNeg, ii_add, ii_sub, ii_mul, ii_lt, ii_le, ii_eq, ixn_ii, ixo_ii, rem_ii, nb_1, nb_0, nb_bb, bb_0, hI_gv, Int.toNat_of_nonneg, Int.cast_ofNat_Int, ht_sI, ht_sJ, ht_sR, hn_sI, hn_sJ, hn_sR, hR_sI, hR_sJ, kI_v, kV_v, kJ_v, true_and, and_true, forall_eq, tg, ln, rf, ne_eq, not_false_eq_true, forall_const, not_true_eq_false, false_implies, Int.reduceEq, Int.reduceLT, Int.reduceLE, implies_true, and_self, reduceCtorEq, false_and, W_X2_fits, n0, ga, gb, g1, g3]
    exact ⟨fun _ => no (by omega), fun _ => ⟨fun _ => yes (by omega), fun _ => no (by omega)⟩⟩
theorem K_set (ok : tr_ok E) (c : kst ad h m one two H L) (v : vok m one two H L) (hh : his ad h) {u : Int} (hu : gv h (ad 1) 5 = u) (u0 : 0 ≤ u) (u1 : u ≤ 12) {w x : Int} (w0 : -2147483648 ≤ w) (w1 : w ≤ 2147483647) (x0 : -2147483648 ≤ x) (x1 : x ≤ 2147483647) (q : sok m w x = true → ∀ h', KP ad h (ud m (1 + w) x) one two H L u h' → Q (.inl (some (.inl (ii (m (1 + w)))))) h') (r : sok m w x = false → Q (.inr 1) (rfz ad h 1)) : tr_C E 80 [.inr (.inr (ad 1)), .inl (ii w), .inl (ii x)] h Q := by
  refine T_X7_set ok ?_
  have s0 := c.1
  obtain ⟨c0, n, c2, c3, c4, c5⟩ := id c.2
  obtain ⟨n0, n1, n2, ⟨sa, sb, sc⟩, ⟨ea, eb, ec⟩, ⟨ua, ub, uc⟩, ⟨ra, rb, rc⟩, ⟨ga, gb, g0, g1, g2, g3, g4⟩, nd⟩ := id n
  obtain ⟨vH, vL, vl, v0, v1, v2, v3, v4, v5, vr, vm, vp⟩ := id v
  have bad : sok m w x = false → tr_G E 80 Q 15 [some (.inr (.inr (ad 1))), some (.inl (ii w)), some (.inl (ii x)), none] [.inl (ii 0), .inr (.inr (ad 1))] h 9 197 := by
    intro g
    refine T_X7_set_15 ok ?_
    simp (disch := first | omega | decide | assumption | exact st_ne s0 (by decide) (by decide) (by decide) | exact dyn_ne (by assumption) (by decide) | fail) only [Int.reduceAdd, Int.reduceSub, Int.reduceNeg, ii_add, ii_sub, ii_mul, ii_lt, ii_le, ii_eq, ixn_ii, ixo_ii, rem_ii, nb_1, nb_0, nb_bb, bb_0, hI_gv, Int.toNat_of_nonneg, Int.cast_ofNat_Int, ht_sI, ht_sJ, ht_sR, hn_sI, hn_sJ, hn_sR, hR_sI, hR_sJ, kI_v, kV_v, kJ_v, true_and, and_true, forall_eq, tg, ln, rf, ne_eq, not_false_eq_true, forall_const, not_true_eq_false, false_implies, W_X7_set_15, st_t s0]
    exact k_req0 ok s0 (r g)
  have bad2 : sok m w x = false → tr_G E 80 Q 61 [some (.inr (.inr (ad 1))), some (.inl (ii w)), some (.inl (ii x)), none] [.inl (ii 0), .inr (.inr (ad 1))] h 7 185 := by
    intro g
    refine T_X7_set_61 ok ?_
    simp (disch := first | omega | decide | assumption | exact st_ne s0 (by decide) (by decide) (by decide) | exact dyn_ne (by assumption) (by decide) | fail) only [Int.reduceAdd, Int.reduceSub, Int.reduceNeg, ii_add, ii_sub, ii_mul, ii_lt, ii_le, ii_eq, ixn_ii, ixo_ii, rem_ii, nb_1, nb_0, nb_bb, bb_0, hI_gv, Int.toNat_of_nonneg, Int.cast_ofNat_Int, ht_sI, ht_sJ, ht_sR, hn_sI, hn_sJ, hn_sR, hR_sI, hR_sJ, kI_v, kV_v, kJ_v, true_and, and_true, forall_eq, tg, ln, rf, ne_eq, not_false_eq_true, forall_const, not_true_eq_false, false_implies, W_X7_set_61, st_t s0]
    exact k_req0 ok s0 (r g)
  have good : sok m w x = true → tr_G E 80 Q 61 [some (.inr (.inr (ad 1))), some (.inl (ii w)), some (.inl (ii x)), none] [.inl (ii 1), .inr (.inr (ad 1))] h 7 185 := by
    intro g
    have hw := sok_w g
    refine T_X7_set_61 ok ?_
    simp (disch := first | omega | decide | assumption | exact st_ne s0 (by decide) (by decide) (by decide) | exact dyn_ne (by assumption) (by decide) | fail) only [Int.reduceAdd, Int.reduceSub, Int.reduceNeg, ii_add, ii_sub, ii_mul, ii_lt, ii_le, ii_eq, ixn_ii, ixo_ii, rem_ii, nb_1, nb_0, nb_bb, bb_0, hI_gv, Int.toNat_of_nonneg, Int.cast_ofNat_Int, ht_sI, ht_sJ, ht_sR, hn_sI, hn_sJ, hn_sR, hR_sI, hR_sJ, kI_v, kV_v, kJ_v, true_and, and_true, forall_eq, tg, ln, rf, ne_eq, not_false_eq_true, forall_const, not_true_eq_false, false_implies, W_X7_set_61, st_t s0]
    refine k_req1 ok ?_
    simp (disch := first | omega | decide | assumption | exact st_ne s0 (by decide) (by decide) (by decide) | exact dyn_ne (by assumption) (by decide) | fail) only [Int.reduceAdd, Int.reduceSub, Int.reduceNeg, ii_add, ii_sub, ii_mul, ii_lt, ii_le, ii_eq, ixn_ii, ixo_ii, rem_ii, nb_1, nb_0, nb_bb, bb_0, hI_gv, Int.toNat_of_nonneg, Int.cast_ofNat_Int, ht_sI, ht_sJ, ht_sR, hn_sI, hn_sJ, hn_sR, hR_sI, hR_sJ, kI_v, kV_v, kJ_v, true_and, and_true, forall_eq, tg, ln, rf, ne_eq, not_false_eq_true, forall_const, not_true_eq_false, false_implies, st_t s0]
    refine k_keepState ok c v hh hu u0 u1 (fun h1 f1 e1 r1 k1 o1 p1 => ?_)
    have s1 := st_fr s0 f1
    obtain ⟨b0, nw, -⟩ := id k1
    obtain ⟨m0, m1, m2, -, -, -, -, ⟨ya, yb, y0, y1, y2, y3, y4⟩, md⟩ := id nw
    have w00 : 0 ≤ w := hw.1
    have hv : gv h1 (hR h1 (hR h1 (hR h1 (ad 1) 3) 0) 6) w = m (1 + w) := by
      rcases (by omega : w = 0 ∨ w = 1 ∨ w = 2 ∨ w = 3 ∨ w = 4) with rfl | rfl | rfl | rfl | rfl
      · exact y0
      · exact y1
      · exact y2
      · exact y3
      · exact y4
    simp (disch := first | omega | decide | assumption | exact st_ne s0 (by decide) (by decide) (by decide) | exact dyn_ne (by assumption) (by decide) | fail) only [Int.reduceAdd, Int.reduceSub, Int.reduceNeg, ii_add, ii_sub, ii_mul, ii_lt, ii_le, ii_eq, ixn_ii, ixo_ii, rem_ii, nb_1, nb_0, nb_bb, bb_0, hI_gv, Int.toNat_of_nonneg, Int.cast_ofNat_Int, ht_sI, ht_sJ, ht_sR, hn_sI, hn_sJ, hn_sR, hR_sI, hR_sJ, kI_v, kV_v, kJ_v, true_and, and_true, forall_eq, tg, ln, rf, ne_eq, not_false_eq_true, forall_const, not_true_eq_false, false_implies, st_t s1, b0, m0, ya, yb, hv]
    refine ⟨by omega, by omega, ?_⟩
    obtain ⟨z1, z2⟩ := cst_w s0 v c.2 f1 k1 p1 (A := hR h1 (hR h1 (hR h1 (ad 1) 3) 0) 6) (k := w.toNat) (x := ii x) o1.2.2.2.2.2.1 ya (nst_w6 o1.2.2 nw hw.1 (by omega) x0 x1) (fun z z0 z1 => (ud_ne (by omega)).symm)
    refine q g _ ⟨z1, ?_, r1, z2⟩
    rw [gv_sIn (fun e => dyn_0 s0 o1.2.2.2.2.2.1 1 (by decide) e.symm)]; exact e1
  by_cases gw : 0 ≤ w ∧ w ≤ 4
  · have ww : w < 5 := by omega
    have w00 : ¬ w < 0 := by omega
    simp (disch := first | omega | decide | assumption | exact st_ne s0 (by decide) (by decide) (by decide) | exact dyn_ne (by assumption) (by decide) | fail) only [Int.reduceAdd, Int.reduceSub, Int.reduceNeg, ii_add, ii_sub, ii_mul, ii_lt, ii_le, ii_eq, ixn_ii, ixo_ii, rem_ii, nb_1, nb_0, nb_bb, bb_0, hI_gv, Int.toNat_of_nonneg, Int.cast_ofNat_Int, ht_sI, ht_sJ, ht_sR, hn_sI, hn_sJ, hn_sR, hR_sI, hR_sJ, kI_v, kV_v, kJ_v, true_and, and_true, forall_eq, tg, ln, rf, ne_eq, not_false_eq_true, forall_const, not_true_eq_false, false_implies, W_X7_set, w00, ww]
    refine T_X7_set_15 ok ?_
    simp (disch := first | omega | decide | assumption | exact st_ne s0 (by decide) (by decide) (by decide) | exact dyn_ne (by assumption) (by decide) | fail) only [Int.reduceAdd, Int.reduceSub, Int.reduceNeg, ii_add, ii_sub, ii_mul, ii_lt, ii_le, ii_eq, ixn_ii, ixo_ii, rem_ii, nb_1, nb_0, nb_bb, bb_0, hI_gv, Int.toNat_of_nonneg, Int.cast_ofNat_Int, ht_sI, ht_sJ, ht_sR, hn_sI, hn_sJ, hn_sR, hR_sI, hR_sJ, kI_v, kV_v, kJ_v, true_and, and_true, forall_eq, tg, ln, rf, ne_eq, not_false_eq_true, forall_const, not_true_eq_false, false_implies, W_X7_set_15, st_t s0]
    refine k_req1 ok ?_
    simp (disch := first | omega | decide | assumption | exact st_ne s0 (by decide) (by decide) (by decide) | exact dyn_ne (by assumption) (by decide) | fail) only [Int.reduceAdd, Int.reduceSub, Int.reduceNeg, ii_add, ii_sub, ii_mul, ii_lt, ii_le, ii_eq, ixn_ii, ixo_ii, rem_ii, nb_1, nb_0, nb_bb, bb_0, hI_gv, Int.toNat_of_nonneg, Int.cast_ofNat_Int, ht_sI, ht_sJ, ht_sR, hn_sI, hn_sJ, hn_sR, hR_sI, hR_sJ, kI_v, kV_v, kJ_v, true_and, and_true, forall_eq, tg, ln, rf, ne_eq, not_false_eq_true, forall_const, not_true_eq_false, false_implies, st_t s0, c0, n0]
    refine k_fits ok n v gw.1 gw.2 x0 x1 (fun b hb => ?_)
    simp (disch := first | omega | decide | assumption | exact st_ne s0 (by decide) (by decide) (by decide) | exact dyn_ne (by assumption) (by decide) | fail) only [Int.reduceAdd, Int.reduceSub, Int.reduceNeg, ii_add, ii_sub, ii_mul, ii_lt, ii_le, ii_eq, ixn_ii, ixo_ii, rem_ii, nb_1, nb_0, nb_bb, bb_0, hI_gv, Int.toNat_of_nonneg, Int.cast_ofNat_Int, ht_sI, ht_sJ, ht_sR, hn_sI, hn_sJ, hn_sR, hR_sI, hR_sJ, kI_v, kV_v, kJ_v, true_and, and_true, forall_eq, tg, ln, rf, ne_eq, not_false_eq_true, forall_const, not_true_eq_false, false_implies, st_t s0]
    refine k_reqb ok s0 (fun g => ?_) (fun g => ?_)
    · have g := hb.mp g
      simp (disch := first | omega | decide | assumption | exact st_ne s0 (by decide) (by decide) (by decide) | exact dyn_ne (by assumption) (by decide) | fail) only [Int.reduceAdd, Int.reduceSub, Int.reduceNeg, ii_add, ii_sub, ii_mul, ii_lt, ii_le, ii_eq, ixn_ii, ixo_ii, rem_ii, nb_1, nb_0, nb_bb, bb_0, hI_gv, Int.toNat_of_nonneg, Int.cast_ofNat_Int, ht_sI, ht_sJ, ht_sR, hn_sI, hn_sJ, hn_sR, hR_sI, hR_sJ, kI_v, kV_v, kJ_v, true_and, and_true, forall_eq, tg, ln, rf, ne_eq, not_false_eq_true, forall_const, not_true_eq_false, false_implies, st_t s0, c0, n0, ga, gb, g2]
      refine ⟨fun e1 => ⟨by omega, fun g5 => bad2 ?_, fun g5 => good ?_⟩, fun e1 => good ?_⟩
      · unfold sok; rw [if_neg (by omega), if_pos e1, decide_eq_false (by omega)]
      · rw [if_pos e1] at g
        unfold sok; rw [if_neg (by omega), if_pos e1, decide_eq_true (by omega)]
      · rw [if_neg e1] at g; exact g
    · refine r ?_
      rw [Bool.eq_false_iff]
      intro e
      have : b = true := hb.mpr (by
        split
        · next e1 =>
          unfold sok at e
          rw [if_neg (by omega), if_pos e1, decide_eq_true_eq] at e
          omega
        · exact e)
      rw [this] at g; cases g
  · have sf : sok m w x = false := by
      rw [Bool.eq_false_iff]
      exact fun e => gw (sok_w e)
    simp (disch := first | omega | decide | assumption | exact st_ne s0 (by decide) (by decide) (by decide) | exact dyn_ne (by assumption) (by decide) | fail) only [Int.reduceAdd, Int.reduceSub, Int.reduceNeg, ii_add, ii_sub, ii_mul, ii_lt, ii_le, ii_eq, ixn_ii, ixo_ii, rem_ii, nb_1, nb_0, nb_bb, bb_0, hI_gv, Int.toNat_of_nonneg, Int.cast_ofNat_Int, ht_sI, ht_sJ, ht_sR, hn_sI, hn_sJ, hn_sR, hR_sI, hR_sJ, kI_v, kV_v, kJ_v, true_and, and_true, forall_eq, tg, ln, rf, ne_eq, not_false_eq_true, forall_const, not_true_eq_false, false_implies, W_X7_set]
    refine ⟨fun g => bad sf, fun g => ⟨fun g2 => by omega, fun g2 => bad sf⟩⟩
theorem c_maySet (ok : tr_ok E) (s : mst ad h m one two H L) (v : vok m one two H L) {w x : Int} (w0 : -2147483648 ≤ w) (w1 : w ≤ 2147483647) (x0 : -2147483648 ≤ x) (x1 : x ≤ 2147483647) (q : Q (.inl (some (.inl (bb (sok m w x))))) h) : tr_C E 160 [.inr (.inr (ad 23)), .inl (ii w), .inl (ii x)] h Q := by
  refine T_X8_maySet ok ?_
  obtain ⟨s0, em, -⟩ := id s
  obtain ⟨vH, vL, vl, v0, v1, v2, v3, v4, v5, vr, vm, vp⟩ := id v
  unfold sok at q
  simp (disch := first | omega | decide | assumption | exact st_ne s0 (by decide) (by decide) (by decide) | exact dyn_ne (by assumption) (by decide) | fail) only [Int.reduceAdd, Int.reduceSub, Int.reduceNeg, ii_add, ii_sub, ii_mul, ii_lt, ii_le, ii_eq, ixn_ii, ixo_ii, rem_ii, nb_1, nb_0, nb_bb, bb_0, hI_gv, Int.toNat_of_nonneg, Int.cast_ofNat_Int, ht_sI, ht_sJ, ht_sR, hn_sI, hn_sJ, hn_sR, hR_sI, hR_sJ, kI_v, kV_v, kJ_v, true_and, and_true, forall_eq, tg, ln, rf, ne_eq, not_false_eq_true, forall_const, not_true_eq_false, false_implies, W_X8_maySet, st_t s0, st_n s0, st_r s0, em]
  refine ⟨fun e0 => ?_, fun e0 => ⟨fun e1 => ⟨by omega, by omega, ?_⟩, fun e1 => ⟨fun e2 => ⟨by omega, ?_⟩, fun e2 => ⟨fun e3 => ⟨by omega, ?_⟩, fun e3 => ⟨fun e4 => ?_, fun e4 => ?_⟩⟩⟩⟩⟩
  · rw [if_pos e0] at q
    refine c_within ok x0 x1 (by omega) (by omega) (by omega) (by omega) ?_
    simp (disch := first | omega | decide | assumption | exact st_ne s0 (by decide) (by decide) (by decide) | exact dyn_ne (by assumption) (by decide) | fail) only [Int.reduceAdd, Int.reduceSub, Int.reduceNeg, ii_add, ii_sub, ii_mul, ii_lt, ii_le, ii_eq, ixn_ii, ixo_ii, rem_ii, nb_1, nb_0, nb_bb, bb_0, hI_gv, Int.toNat_of_nonneg, Int.cast_ofNat_Int, ht_sI, ht_sJ, ht_sR, hn_sI, hn_sJ, hn_sR, hR_sI, hR_sJ, kI_v, kV_v, kJ_v, true_and, and_true, forall_eq, tg, ln, rf, ne_eq, not_false_eq_true, forall_const, not_true_eq_false, false_implies]
    exact q
  · rw [if_neg e0, if_pos e1] at q
    have emax : (if ii 2 < if m 3 < m 4 + 1 then ii (m 4 + 1) else ii (m 3) then if m 3 < m 4 + 1 then ii (m 4 + 1) else ii (m 3) else ii 2) = ii (if m 3 < m 4 + 1 then (if 2 < m 4 + 1 then m 4 + 1 else 2) else (if 2 < m 3 then m 3 else 2)) := by
      by_cases g : m 3 < m 4 + 1
      · have c1 : (ii 2 < ii (m 4 + 1)) = (2 < m 4 + 1) := ii_lt (by omega) (by omega) (by omega) (by omega)
        rw [if_pos g, if_pos g]
        by_cases g2 : 2 < m 4 + 1
        · rw [if_pos (by rw [c1]; exact g2), if_pos g2]
        · rw [if_neg (by rw [c1]; exact g2), if_neg g2]
      · have c1 : (ii 2 < ii (m 3)) = (2 < m 3) := ii_lt (by omega) (by omega) (by omega) (by omega)
        rw [if_neg g, if_neg g]
        by_cases g2 : 2 < m 3
        · rw [if_pos (by rw [c1]; exact g2), if_pos g2]
        · rw [if_neg (by rw [c1]; exact g2), if_neg g2]
    rw [emax]
    have ir : -2147483648 ≤ (if m 3 < m 4 + 1 then (if 2 < m 4 + 1 then m 4 + 1 else 2) else (if 2 < m 3 then m 3 else 2)) ∧ (if m 3 < m 4 + 1 then (if 2 < m 4 + 1 then m 4 + 1 else 2) else (if 2 < m 3 then m 3 else 2)) ≤ 2147483647 := by
      split <;> split <;> omega
    refine c_within ok x0 x1 ir.1 ir.2 (by omega) (by omega) ?_
    have ed : decide ((if m 3 < m 4 + 1 then (if 2 < m 4 + 1 then m 4 + 1 else 2) else (if 2 < m 3 then m 3 else 2)) ≤ x ∧ x ≤ 997) = decide (2 ≤ x ∧ x ≤ 997 ∧ m 3 ≤ x ∧ m 4 < x) := by
      refine decide_eq_decide.mpr ?_
      split <;> split <;> constructor <;> intro g <;> omega
    rw [ed]
    simp (disch := first | omega | decide | assumption | exact st_ne s0 (by decide) (by decide) (by decide) | exact dyn_ne (by assumption) (by decide) | fail) only [Int.reduceAdd, Int.reduceSub, Int.reduceNeg, ii_add, ii_sub, ii_mul, ii_lt, ii_le, ii_eq, ixn_ii, ixo_ii, rem_ii, nb_1, nb_0, nb_bb, bb_0, hI_gv, Int.toNat_of_nonneg, Int.cast_ofNat_Int, ht_sI, ht_sJ, ht_sR, hn_sI, hn_sJ, hn_sR, hR_sI, hR_sJ, kI_v, kV_v, kJ_v, true_and, and_true, forall_eq, tg, ln, rf, ne_eq, not_false_eq_true, forall_const, not_true_eq_false, false_implies]
    exact q
  · rw [if_neg e0, if_neg e1, if_pos e2] at q
    refine c_within ok x0 x1 (by omega) (by omega) (by omega) (by omega) ?_
    simp (disch := first | omega | decide | assumption | exact st_ne s0 (by decide) (by decide) (by decide) | exact dyn_ne (by assumption) (by decide) | fail) only [Int.reduceAdd, Int.reduceSub, Int.reduceNeg, ii_add, ii_sub, ii_mul, ii_lt, ii_le, ii_eq, ixn_ii, ixo_ii, rem_ii, nb_1, nb_0, nb_bb, bb_0, hI_gv, Int.toNat_of_nonneg, Int.cast_ofNat_Int, ht_sI, ht_sJ, ht_sR, hn_sI, hn_sJ, hn_sR, hR_sI, hR_sJ, kI_v, kV_v, kJ_v, true_and, and_true, forall_eq, tg, ln, rf, ne_eq, not_false_eq_true, forall_const, not_true_eq_false, false_implies]
    exact q
  · rw [if_neg e0, if_neg e1, if_neg e2, if_pos e3] at q
    refine c_within ok x0 x1 (by omega) (by omega) (by omega) (by omega) ?_
    have ed : decide (0 ≤ x ∧ x ≤ m 2 - 1) = decide (0 ≤ x ∧ x < m 2) := decide_eq_decide.mpr ⟨fun g => by omega, fun g => by omega⟩
    rw [ed]
    simp (disch := first | omega | decide | assumption | exact st_ne s0 (by decide) (by decide) (by decide) | exact dyn_ne (by assumption) (by decide) | fail) only [Int.reduceAdd, Int.reduceSub, Int.reduceNeg, ii_add, ii_sub, ii_mul, ii_lt, ii_le, ii_eq, ixn_ii, ixo_ii, rem_ii, nb_1, nb_0, nb_bb, bb_0, hI_gv, Int.toNat_of_nonneg, Int.cast_ofNat_Int, ht_sI, ht_sJ, ht_sR, hn_sI, hn_sJ, hn_sR, hR_sI, hR_sJ, kI_v, kV_v, kJ_v, true_and, and_true, forall_eq, tg, ln, rf, ne_eq, not_false_eq_true, forall_const, not_true_eq_false, false_implies]
    exact q
  · rw [if_neg e0, if_neg e1, if_neg e2, if_neg e3, if_pos e4] at q
    refine c_within ok x0 x1 (by omega) (by omega) (by omega) (by omega) ?_
    simp (disch := first | omega | decide | assumption | exact st_ne s0 (by decide) (by decide) (by decide) | exact dyn_ne (by assumption) (by decide) | fail) only [Int.reduceAdd, Int.reduceSub, Int.reduceNeg, ii_add, ii_sub, ii_mul, ii_lt, ii_le, ii_eq, ixn_ii, ixo_ii, rem_ii, nb_1, nb_0, nb_bb, bb_0, hI_gv, Int.toNat_of_nonneg, Int.cast_ofNat_Int, ht_sI, ht_sJ, ht_sR, hn_sI, hn_sJ, hn_sR, hR_sI, hR_sJ, kI_v, kV_v, kJ_v, true_and, and_true, forall_eq, tg, ln, rf, ne_eq, not_false_eq_true, forall_const, not_true_eq_false, false_implies]
    exact q
  · rw [if_neg e0, if_neg e1, if_neg e2, if_neg e3, if_neg e4] at q
    exact q
/-- the reference has kept its row, and writes a place of it -/
theorem MP_w (s : mst ad h m one two H L) {u : Int} {h2 h3 : tr_H} (ms : mpo ad h 0 0 h2) (e27 : gv h2 (ad 27) = gv h (ad 27)) (f2 : fr ad pW fW false h h2) (f3 : fr ad pB fB false h2 h3) (a1 : gv h3 (ad 23) 9 = (if u = 12 then 12 else u + 1)) (a2 : ∀ i z, 0 ≤ i → i < (if u = 12 then 12 else u + 1) → 0 ≤ z → z < 867 → gv h3 (ad 27) (867 * i + z) = bkN (gv h2 (ad 27)) u m i z) {k x : Int} (k0 : 0 ≤ k) (x0 : -2147483648 ≤ x) (x1 : x ≤ 2147483647) : MP ad h m (ud m k x) u (hsI h3 (ad 25) k.toNat (ii x)) := by
  have s2 := st_fr s.1 f2
  have s3 := st_fr s2 f3
  have em : gv h3 (ad 25) = m := (fr_gv s2 f3 (by decide) (by decide) rfl pB_lt).trans ((mst_q s ms.1).2.1)
  refine ⟨fr_sI (fr_tr f2 (fr_mono pB_pW fB_fW (fun e => e) f3)) rfl, ?_, ?_, fun i z i0 i1 z0 z1 => ?_, ?_⟩
  · rw [gv_sIn (st_ne s3 (by decide) (by decide) (by decide)), fr_gf s2 f3 rfl pB_lt rfl]; exact ms.2.1
  · rw [gv_sIn (st_ne s3 (by decide) (by decide) (by decide))]; exact a1
  · rw [gv_sIn (st_ne s3 (by decide) (by decide) (by decide)), a2 i z i0 i1 z0 z1, e27]
  · rw [gv_sIi x0 x1, em, Int.toNat_of_nonneg k0]
theorem M_set (ok : tr_ok E) (s : mst ad h m one two H L) (v : vok m one two H L) {u : Int} (hu : gv h (ad 23) 9 = u) (u0 : 0 ≤ u) (u1 : u ≤ 12) {w x : Int} (w0 : -2147483648 ≤ w) (w1 : w ≤ 2147483647) (x0 : -2147483648 ≤ x) (x1 : x ≤ 2147483647) (q : sok m w x = true → ∀ h', MP ad h m (ud m (1 + w) x) u h' → Q (.inl (some (.inl (ii (m (1 + w)))))) h') (r : sok m w x = false → ∀ h', mpo ad h 1 1 h' → Q (.inl (some (.inl (ii 0)))) h') : tr_C E 161 [.inr (.inr (ad 23)), .inl (ii w), .inl (ii x)] h Q := by
  refine T_X8_set ok ?_
  have ms := m_start s.1
  have s1 := mst_q s ms.1
  have fa : fr ad pW fW false h (hsI h (ad 23) 0 (ii 0)) := fr_sFs rfl
  have e9 : gv (hsI h (ad 23) 0 (ii 0)) (ad 23) 9 = u := by rw [gv_sI, ud_ne (by decide)]; exact hu
  have e27 : gv (hsI h (ad 23) 0 (ii 0)) (ad 27) = gv h (ad 27) := gv_sIn (st_ne s.1 (by decide) (by decide) (by decide))
  simp (disch := first | omega | decide | assumption | exact st_ne s0 (by decide) (by decide) (by decide) | exact dyn_ne (by assumption) (by decide) | fail) only [Int.reduceAdd, Int.reduceSub, Int.reduceNeg, ii_add, ii_sub, ii_mul, ii_lt, ii_le, ii_eq, ixn_ii, ixo_ii, rem_ii, nb_1, nb_0, nb_bb, bb_0, hI_gv, Int.toNat_of_nonneg, Int.cast_ofNat_Int, ht_sI, ht_sJ, ht_sR, hn_sI, hn_sJ, hn_sR, hR_sI, hR_sJ, kI_v, kV_v, kJ_v, true_and, and_true, forall_eq, tg, ln, rf, ne_eq, not_false_eq_true, forall_const, not_true_eq_false, false_implies, W_X8_set, st_t s.1]
  refine c_maySet ok s1 v w0 w1 x0 x1 ?_
  simp (disch := first | omega | decide | assumption | exact st_ne s0 (by decide) (by decide) (by decide) | exact dyn_ne (by assumption) (by decide) | fail) only [Int.reduceAdd, Int.reduceSub, Int.reduceNeg, ii_add, ii_sub, ii_mul, ii_lt, ii_le, ii_eq, ixn_ii, ixo_ii, rem_ii, nb_1, nb_0, nb_bb, bb_0, hI_gv, Int.toNat_of_nonneg, Int.cast_ofNat_Int, ht_sI, ht_sJ, ht_sR, hn_sI, hn_sJ, hn_sR, hR_sI, hR_sJ, kI_v, kV_v, kJ_v, true_and, and_true, forall_eq, tg, ln, rf, ne_eq, not_false_eq_true, forall_const, not_true_eq_false, false_implies, st_t s.1]
  refine c_fineb ok s.1 ms (by omega) (by omega) (by omega) (by omega) (fun g => ?_) (fun g h' p => ?_)
  · have hw := sok_w g
    simp (disch := first | omega | decide | assumption | exact st_ne s0 (by decide) (by decide) (by decide) | exact dyn_ne (by assumption) (by decide) | fail) only [Int.reduceAdd, Int.reduceSub, Int.reduceNeg, ii_add, ii_sub, ii_mul, ii_lt, ii_le, ii_eq, ixn_ii, ixo_ii, rem_ii, nb_1, nb_0, nb_bb, bb_0, hI_gv, Int.toNat_of_nonneg, Int.cast_ofNat_Int, ht_sI, ht_sJ, ht_sR, hn_sI, hn_sJ, hn_sR, hR_sI, hR_sJ, kI_v, kV_v, kJ_v, true_and, and_true, forall_eq, tg, ln, rf, ne_eq, not_false_eq_true, forall_const, not_true_eq_false, false_implies, Int.reduceEq, Int.reduceLT, Int.reduceLE, implies_true, and_self, reduceCtorEq, false_and, st_t s.1]
    refine c_keeps ok s1 e9 u0 u1 (fun h1 f1 a1 a2 => ?_)
    have t1 : mst ad h1 m one two H L := mst_fr s1 f1 pB_lt rfl rfl rfl rfl rfl rfl
    have t0 := t1.1
    have em := t1.2.1
    have w00 : 0 ≤ 1 + w := by omega
    simp (disch := first | omega | decide | assumption | exact st_ne s0 (by decide) (by decide) (by decide) | exact dyn_ne (by assumption) (by decide) | fail) only [Int.reduceAdd, Int.reduceSub, Int.reduceNeg, ii_add, ii_sub, ii_mul, ii_lt, ii_le, ii_eq, ixn_ii, ixo_ii, rem_ii, nb_1, nb_0, nb_bb, bb_0, hI_gv, Int.toNat_of_nonneg, Int.cast_ofNat_Int, ht_sI, ht_sJ, ht_sR, hn_sI, hn_sJ, hn_sR, hR_sI, hR_sJ, kI_v, kV_v, kJ_v, true_and, and_true, forall_eq, tg, ln, rf, ne_eq, not_false_eq_true, forall_const, not_true_eq_false, false_implies, st_t t0, st_n t0, st_r t0, em]
    exact ⟨by omega, by omega, q g _ (MP_w s ms e27 fa f1 a1 a2 w00 x0 x1)⟩
  · simp (disch := first | omega | decide | assumption | exact st_ne s0 (by decide) (by decide) (by decide) | exact dyn_ne (by assumption) (by decide) | fail) only [Int.reduceAdd, Int.reduceSub, Int.reduceNeg, ii_add, ii_sub, ii_mul, ii_lt, ii_le, ii_eq, ixn_ii, ixo_ii, rem_ii, nb_1, nb_0, nb_bb, bb_0, hI_gv, Int.toNat_of_nonneg, Int.cast_ofNat_Int, ht_sI, ht_sJ, ht_sR, hn_sI, hn_sJ, hn_sR, hR_sI, hR_sJ, kI_v, kV_v, kJ_v, true_and, and_true, forall_eq, tg, ln, rf, ne_eq, not_false_eq_true, forall_const, not_true_eq_false, false_implies, Int.reduceEq, Int.reduceLT, Int.reduceLE, implies_true, and_self, reduceCtorEq, false_and,]
    exact r g h' p
end CH3
