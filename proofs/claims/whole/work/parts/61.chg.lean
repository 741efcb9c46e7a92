/-! WHAT CHANGES: rows that are alike; keeps, forget, undo -/
def eqm (m m' : Int → Int) : Prop := ∀ z, 0 ≤ z → z < 867 → m z = m' z
section EQM
variable {ad : Nat → Nat} {h : tr_H} {m m' one two : Int → Int} {H L p : Int} {n qq s : Nat}
theorem fd_e (e : eqm m m') (h1 : 0 ≤ p) (h2 : p < 40) {w : Int} (w0 : 0 ≤ w) (w1 : w < 19) : fd m p w = fd m' p w := e _ (by omega) (by omega)
theorem hsh_e (e : eqm m m') (h1 : 0 ≤ p) (h2 : p < 40) : hsh m p = hsh m' p := (hsh_c (fun w w0 w1 => (fd_e e h1 h2 w0 (by omega)).symm)).symm
theorem pok_e (e : eqm m m') (h1 : 0 ≤ p) (h2 : p < 40) (k : pok m H L p) : pok m' H L p := by
  unfold pok at k ⊢
  obtain ⟨a0, a1, a2, a3, a4, a5, a6, a7⟩ := k
  rw [← fd_e e h1 h2 (by omega) (by omega), ← fd_e e h1 h2 (by omega) (by omega), ← fd_e e h1 h2 (by omega) (by omega), ← fd_e e h1 h2 (by omega) (by omega), ← fd_e e h1 h2 (by omega) (by omega), ← fd_e e h1 h2 (by omega) (by omega), ← fd_e e h1 h2 (by omega) (by omega)]
  refine ⟨a0, a1, a2, a3, a4, a5, a6, fun k k0 k1 => ?_⟩
  have := a7 k k0 k1
  unfold lk at this ⊢
  rw [← fd_e e h1 h2 (by omega) (by omega)]; exact this
theorem vok_e (e : eqm m m') (v : vok m one two H L) : vok m' one two H L := by
  obtain ⟨vH, vL, vl, v0, v1, v2, v3, v4, v5, vr, vm, vp⟩ := id v
  refine ⟨vH, vL, vl, ?_, ?_, ?_, ?_, ?_, ?_, fun k k0 k1 => ?_, ?_, fun p p0 p1 => ?_⟩
  · rw [← e 0 (by omega) (by omega)]; exact v0
  · rw [← e 1 (by omega) (by omega)]; exact v1
  · rw [← e 2 (by omega) (by omega)]; exact v2
  · rw [← e 3 (by omega) (by omega), ← e 2 (by omega) (by omega)]; exact v3
  · rw [← e 4 (by omega) (by omega), ← e 2 (by omega) (by omega)]; exact v4
  · rw [← e 5 (by omega) (by omega)]; exact v5
  · rw [← e (6 + k) (by omega) (by omega)]; exact vr k k0 k1
  · rw [← e 106 (by omega) (by omega)]; exact vm
  · rw [← e 106 (by omega) (by omega)] at p1
    exact pok_e e p0 (by omega) (vp p p0 p1)
/-- a net's part of the row -/
theorem nst_e (e : ∀ z, 0 ≤ z → z < 106 → m z = m' z) (w : nst ad h n m one two H L) : nst ad h n m' one two H L := by
  obtain ⟨n0, n1, n2, a, b, ⟨ua, ub, uc⟩, ⟨ra, rb, rc⟩, ⟨ga, gb, g0, g1, g2, g3, g4⟩, d⟩ := w
  refine ⟨n0, n1, n2, a, b, ⟨ua, ub, fun l l0 l1 => ?_⟩, ⟨ra, rb, fun k k0 k1 => ?_⟩, ⟨ga, gb, ?_, ?_, ?_, ?_, ?_⟩, d⟩
  · rw [← e 0 (by omega) (by omega)]; exact uc l l0 l1
  · rw [← e (6 + k) (by omega) (by omega)]; exact rc k k0 k1
  · rw [← e 1 (by omega) (by omega)]; exact g0
  · rw [← e 2 (by omega) (by omega)]; exact g1
  · rw [← e 3 (by omega) (by omega)]; exact g2
  · rw [← e 4 (by omega) (by omega)]; exact g3
  · rw [← e 5 (by omega) (by omega)]; exact g4
/-- a packet's part of the row -/
theorem pst_e (e : ∀ w, 0 ≤ w → w < 19 → fd m p w = fd m' p w) (k : pok m H L p) (w : pst ad h qq m two p) : pst ad h qq m' two p := by
  obtain ⟨a0, a1, a2, a3, a4, a5, a6, a7⟩ := k
  have eh : hsh m' p = hsh m p := hsh_c (fun w w0 w1 => (e w w0 (by omega)).symm)
  have ek : ∀ k, 0 ≤ k → k ≤ 11 → lk m p k = lk m' p k := fun k k0 k1 => e (7 + k) (by omega) (by omega)
  obtain ⟨k0, ka, kb, kc, kd, ke, kf, kg, kh, ⟨ha, hb, hc⟩, ⟨la, lb, lc⟩, d⟩ := w
  unfold pst
  rw [eh, ← e 0 (by omega) (by omega), ← e 1 (by omega) (by omega), ← e 2 (by omega) (by omega), ← e 3 (by omega) (by omega), ← e 4 (by omega) (by omega), ← e 5 (by omega) (by omega), ← e 6 (by omega) (by omega)]
  refine ⟨k0, ka, kb, kc, kd, ke, kf, kg, kh, ⟨ha, hb, fun k k0 k1 => ?_⟩, ⟨la, lb, fun k k0 k1 => ?_⟩, d⟩
  · rw [hc k k0 k1]
    unfold hop
    by_cases g : k = 0
    · rw [if_pos g, if_pos g, e 0 (by omega) (by omega)]
    · rw [if_neg g, if_neg g, ek (k - 1) (by omega) (by omega)]
  · rw [lc k k0 k1]
    unfold lkk
    by_cases g : k = 0
    · rw [if_pos g, if_pos g]
    · rw [if_neg g, if_neg g, ek (k - 1) (by omega) (by omega)]
theorem cst_e (e : eqm m m') (v : vok m one two H L) (c : cst ad h s m one two H L) : cst ad h s m' one two H L := by
  have vm := v_m v
  obtain ⟨c0, c1, c2, c3, c4, c5⟩ := c
  refine ⟨c0, nst_e (fun z z0 z1 => e z z0 (by omega)) c1, c2, c3, ?_, fun p p0 p1 => ?_⟩
  · rw [← e 106 (by omega) (by omega)]; exact c4
  · rw [← e 106 (by omega) (by omega)] at p1
    exact pst_e (fun w w0 w1 => fd_e e p0 (by omega) w0 w1) (v_p v p0 p1) (c5 p p0 p1)
end EQM
def pB (i : Nat) : Bool := Nat.beq i 27
def fB (z : Int) : Bool := decide (z = 9)
theorem pB_lt (j : Nat) (h : pB j = true) : j < 42 := by
  unfold pB at h
  rw [Nat.beq_eq] at h
  omega
/-- the rows kept by the reference after it -/
def bkN (B : Int → Int) (u : Int) (m : Int → Int) (i z : Int) : Int := if u = 12 then (if i = 11 then m z else B (867 * (i + 1) + z)) else if i = u then m z else B (867 * i + z)
section KPS
variable {E : tr_Env} {ad : Nat → Nat} {h h0 : tr_H} {Q : tr_Q} {m one two : Int → Int} {H L : Int}
theorem c_keeps_52 (ok : tr_ok E) (s : mst ad h0 m one two H L) {u : Int} (u0 : 0 ≤ u) (u1 : u ≤ 11) {B : Int → Int} (q : ∀ h', fr ad pB fB false h0 h' → gv h' (ad 23) 9 = u + 1 → (∀ z, 0 ≤ z → gv h' (ad 27) z = if 867 * u ≤ z ∧ z < 867 * u + 867 then m (z - 867 * u) else B z) → Q (.inl none) h') : ∀ (n : Nat) (k : Int) (h : tr_H), k + n = 867 → 0 ≤ k → fr ad pB fB false h0 h → gv h (ad 23) 9 = u → (∀ z, 0 ≤ z → gv h (ad 27) z = if 867 * u ≤ z ∧ z < 867 * u + k then m (z - 867 * u) else B z) → tr_G E 153 Q 52 [some (.inr (.inr (ad 23))), some (.inl (ii k))] [] h 0 0
  | n, k, h, hn, k0, f, e9, eb => by
    refine T_X8_keeps_52 ok ?_
    have s0 := st_fr s.1 f
    have em : gv h (ad 25) = m := (fr_gv s.1 f (by decide) (by decide) rfl pB_lt).trans s.2.1
    have rg := gv_rg h (ad 25) k
    rw [em] at rg
    simp (disch := first | omega | decide | assumption | exact st_ne s0 (by decide) (by decide) (by decide) | exact dyn_ne (by assumption) (by decide) | fail) only [Int.reduceAdd, Int.reduceSub, Int.reduceNeg, ii_add, ii_sub, ii_mul, ii_lt, ii_le, ii_eq, ixn_ii, ixo_ii, rem_ii, nb_1, nb_0, nb_bb, bb_0, hI_gv, Int.toNat_of_nonneg, Int.cast_ofNat_Int, ht_sI, ht_sJ, ht_sR, hn_sI, hn_sJ, hn_sR, hR_sI, hR_sJ, kI_v, kV_v, kJ_v, true_and, and_true, forall_eq, tg, ln, rf, ne_eq, not_false_eq_true, forall_const, not_true_eq_false, false_implies, W_X8_keeps_52, st_t s0, st_n s0, st_r s0, e9, em]
    refine ⟨fun g => ⟨by omega, by omega, ?_⟩, fun g => ?_⟩
    · obtain ⟨n, rfl⟩ : ∃ n', n = n' + 1 := ⟨n - 1, by omega⟩
      refine c_keeps_52 ok s u0 u1 q n (k + 1) _ (by omega) (by omega) (fr_sI f rfl) ?_ (fun z z0 => ?_)
      · simp (disch := first | omega | decide | assumption | exact st_ne s0 (by decide) (by decide) (by decide) | exact dyn_ne (by assumption) (by decide) | fail) only [Int.reduceAdd, Int.reduceSub, Int.reduceNeg, ii_add, ii_sub, ii_mul, ii_lt, ii_le, ii_eq, ixn_ii, ixo_ii, rem_ii, nb_1, nb_0, nb_bb, bb_0, hI_gv, Int.toNat_of_nonneg, Int.cast_ofNat_Int, ht_sI, ht_sJ, ht_sR, hn_sI, hn_sJ, hn_sR, hR_sI, hR_sJ, kI_v, kV_v, kJ_v, true_and, and_true, forall_eq, tg, ln, rf, ne_eq, not_false_eq_true, forall_const, not_true_eq_false, false_implies, gv_sIn]
        exact e9
      · simp (disch := first | omega | decide | assumption | exact st_ne s0 (by decide) (by decide) (by decide) | exact dyn_ne (by assumption) (by decide) | fail) only [Int.reduceAdd, Int.reduceSub, Int.reduceNeg, ii_add, ii_sub, ii_mul, ii_lt, ii_le, ii_eq, ixn_ii, ixo_ii, rem_ii, nb_1, nb_0, nb_bb, bb_0, hI_gv, Int.toNat_of_nonneg, Int.cast_ofNat_Int, ht_sI, ht_sJ, ht_sR, hn_sI, hn_sJ, hn_sR, hR_sI, hR_sJ, kI_v, kV_v, kJ_v, true_and, and_true, forall_eq, tg, ln, rf, ne_eq, not_false_eq_true, forall_const, not_true_eq_false, false_implies, gv_sIi]
        by_cases e : z = 867 * u + k
        · rw [e, ud_eq, if_pos (by omega)]
          congr 1
          omega
        · rw [ud_ne e, eb z z0]
          by_cases g2 : 867 * u ≤ z ∧ z < 867 * u + k
          · rw [if_pos g2, if_pos (by omega)]
          · rw [if_neg g2, if_neg (by omega)]
    · refine q _ (fr_sF f rfl) ?_ (fun z z0 => ?_)
      · rw [gv_sIi (by omega) (by omega)]; exact ud_eq _ _ _
      · simp (disch := first | omega | decide | assumption | exact st_ne s0 (by decide) (by decide) (by decide) | exact dyn_ne (by assumption) (by decide) | fail) only [Int.reduceAdd, Int.reduceSub, Int.reduceNeg, ii_add, ii_sub, ii_mul, ii_lt, ii_le, ii_eq, ixn_ii, ixo_ii, rem_ii, nb_1, nb_0, nb_bb, bb_0, hI_gv, Int.toNat_of_nonneg, Int.cast_ofNat_Int, ht_sI, ht_sJ, ht_sR, hn_sI, hn_sJ, hn_sR, hR_sI, hR_sJ, kI_v, kV_v, kJ_v, true_and, and_true, forall_eq, tg, ln, rf, ne_eq, not_false_eq_true, forall_const, not_true_eq_false, false_implies, gv_sIn]
        rw [eb z z0, show k = 867 by omega]
theorem c_keeps_11 (ok : tr_ok E) (s : mst ad h0 m one two H L) (e0 : gv h0 (ad 23) 9 = 12) (q : ∀ h', fr ad pB fB false h0 h' → gv h' (ad 23) 9 = 12 → (∀ i z, 0 ≤ i → i < 12 → 0 ≤ z → z < 867 → gv h' (ad 27) (867 * i + z) = bkN (gv h0 (ad 27)) 12 m i z) → Q (.inl none) h') : ∀ (n : Nat) (k : Int) (h : tr_H), k + n = 9537 → 0 ≤ k → fr ad pB fB false h0 h → gv h (ad 23) 9 = 12 → (∀ z, 0 ≤ z → gv h (ad 27) z = if z < k then gv h0 (ad 27) (z + 867) else gv h0 (ad 27) z) → tr_G E 153 Q 11 [some (.inr (.inr (ad 23))), some (.inl (ii k))] [] h 0 0
  | n, k, h, hn, k0, f, e9, eb => by
    refine T_X8_keeps_11 ok ?_
    have s0 := st_fr s.1 f
    have rg := gv_rg h (ad 27) (k + 867)
    simp (disch := first | omega | decide | assumption | exact st_ne s0 (by decide) (by decide) (by decide) | exact dyn_ne (by assumption) (by decide) | fail) only [Int.reduceAdd, Int.reduceSub, Int.reduceNeg, ii_add, ii_sub, ii_mul, ii_lt, ii_le, ii_eq, ixn_ii, ixo_ii, rem_ii, nb_1, nb_0, nb_bb, bb_0, hI_gv, Int.toNat_of_nonneg, Int.cast_ofNat_Int, ht_sI, ht_sJ, ht_sR, hn_sI, hn_sJ, hn_sR, hR_sI, hR_sJ, kI_v, kV_v, kJ_v, true_and, and_true, forall_eq, tg, ln, rf, ne_eq, not_false_eq_true, forall_const, not_true_eq_false, false_implies, W_X8_keeps_11, st_t s0, st_n s0, st_r s0, e9]
    refine ⟨fun g => ⟨by omega, by omega, ?_⟩, fun g => ?_⟩
    · obtain ⟨n, rfl⟩ : ∃ n', n = n' + 1 := ⟨n - 1, by omega⟩
      refine c_keeps_11 ok s e0 q n (k + 1) _ (by omega) (by omega) (fr_sI f rfl) ?_ (fun z z0 => ?_)
      · simp (disch := first | omega | decide | assumption | exact st_ne s0 (by decide) (by decide) (by decide) | exact dyn_ne (by assumption) (by decide) | fail) only [Int.reduceAdd, Int.reduceSub, Int.reduceNeg, ii_add, ii_sub, ii_mul, ii_lt, ii_le, ii_eq, ixn_ii, ixo_ii, rem_ii, nb_1, nb_0, nb_bb, bb_0, hI_gv, Int.toNat_of_nonneg, Int.cast_ofNat_Int, ht_sI, ht_sJ, ht_sR, hn_sI, hn_sJ, hn_sR, hR_sI, hR_sJ, kI_v, kV_v, kJ_v, true_and, and_true, forall_eq, tg, ln, rf, ne_eq, not_false_eq_true, forall_const, not_true_eq_false, false_implies, gv_sIn]
        exact e9
      · simp (disch := first | omega | decide | assumption | exact st_ne s0 (by decide) (by decide) (by decide) | exact dyn_ne (by assumption) (by decide) | fail) only [Int.reduceAdd, Int.reduceSub, Int.reduceNeg, ii_add, ii_sub, ii_mul, ii_lt, ii_le, ii_eq, ixn_ii, ixo_ii, rem_ii, nb_1, nb_0, nb_bb, bb_0, hI_gv, Int.toNat_of_nonneg, Int.cast_ofNat_Int, ht_sI, ht_sJ, ht_sR, hn_sI, hn_sJ, hn_sR, hR_sI, hR_sJ, kI_v, kV_v, kJ_v, true_and, and_true, forall_eq, tg, ln, rf, ne_eq, not_false_eq_true, forall_const, not_true_eq_false, false_implies, gv_sIi]
        by_cases e : z = k
        · rw [e, ud_eq, eb (k + 867) (by omega), if_neg (by omega), if_pos (by omega)]
        · rw [ud_ne e, eb z z0]
          by_cases g2 : z < k
          · rw [if_pos g2, if_pos (by omega)]
          · rw [if_neg g2, if_neg (by omega)]
    · have s1 : mst ad (hsI h (ad 23) 9 (ii (12 - 1))) m one two H L := mst_fr s (fr_sF f rfl : fr ad pB fB false h0 _) pB_lt rfl rfl rfl rfl rfl rfl
      refine c_keeps_52 (u := 11) (B := fun z => if z < 9537 then gv h0 (ad 27) (z + 867) else gv h0 (ad 27) z) ok s1 (by omega) (by omega) (fun h' f' a1 a2 => ?_) 867 0 _ (by omega) (by omega) fr_rfl ?_ (fun z z0 => ?_)
      · refine q h' (fr_tr (fr_sF f rfl) f') a1 (fun i z i0 i1 z0 z1 => ?_)
        rw [a2 _ (by omega)]
        unfold bkN
        rw [if_pos rfl]
        by_cases e : i = 11
        · rw [if_pos e, if_pos (by omega)]
          congr 1
          omega
        · rw [if_neg e, if_neg (by omega), if_pos (by omega)]
          congr 1
          omega
      · rw [gv_sIi (by omega) (by omega)]; exact ud_eq _ _ _
      · simp (disch := first | omega | decide | assumption | exact st_ne s0 (by decide) (by decide) (by decide) | exact dyn_ne (by assumption) (by decide) | fail) only [Int.reduceAdd, Int.reduceSub, Int.reduceNeg, ii_add, ii_sub, ii_mul, ii_lt, ii_le, ii_eq, ixn_ii, ixo_ii, rem_ii, nb_1, nb_0, nb_bb, bb_0, hI_gv, Int.toNat_of_nonneg, Int.cast_ofNat_Int, ht_sI, ht_sJ, ht_sR, hn_sI, hn_sJ, hn_sR, hR_sI, hR_sJ, kI_v, kV_v, kJ_v, true_and, and_true, forall_eq, tg, ln, rf, ne_eq, not_false_eq_true, forall_const, not_true_eq_false, false_implies, gv_sIn]
        rw [if_neg (by omega), eb z z0, show k = 9537 by omega]
theorem c_keeps (ok : tr_ok E) (s : mst ad h m one two H L) {u : Int} (e9 : gv h (ad 23) 9 = u) (u0 : 0 ≤ u) (u1 : u ≤ 12) (q : ∀ h', fr ad pB fB false h h' → gv h' (ad 23) 9 = (if u = 12 then 12 else u + 1) → (∀ i z, 0 ≤ i → i < (if u = 12 then 12 else u + 1) → 0 ≤ z → z < 867 → gv h' (ad 27) (867 * i + z) = bkN (gv h (ad 27)) u m i z) → Q (.inl none) h') : tr_C E 153 [.inr (.inr (ad 23))] h Q := by
  refine T_X8_keeps ok ?_
  have s0 := s.1
  simp (disch := first | omega | decide | assumption | exact st_ne s0 (by decide) (by decide) (by decide) | exact dyn_ne (by assumption) (by decide) | fail) only [Int.reduceAdd, Int.reduceSub, Int.reduceNeg, ii_add, ii_sub, ii_mul, ii_lt, ii_le, ii_eq, ixn_ii, ixo_ii, rem_ii, nb_1, nb_0, nb_bb, bb_0, hI_gv, Int.toNat_of_nonneg, Int.cast_ofNat_Int, ht_sI, ht_sJ, ht_sR, hn_sI, hn_sJ, hn_sR, hR_sI, hR_sJ, kI_v, kV_v, kJ_v, true_and, and_true, forall_eq, tg, ln, rf, ne_eq, not_false_eq_true, forall_const, not_true_eq_false, false_implies, W_X8_keeps, st_t s0, e9]
  refine ⟨fun g => ?_, fun g => ?_⟩
  · subst g
    exact c_keeps_11 ok s e9 (fun h' a b c => q h' a b c) 9537 0 h (by omega) (by omega) fr_rfl e9 (fun z z0 => by rw [if_neg (by omega)])
  · rw [if_neg g] at q
    refine c_keeps_52 (u := u) (B := gv h (ad 27)) ok s u0 (by omega) (fun h' f' a1 a2 => q h' f' a1 (fun i z i0 i1 z0 z1 => ?_)) 867 0 h (by omega) (by omega) fr_rfl e9 (fun z z0 => by rw [if_neg (by omega)])
    rw [a2 _ (by omega)]
    unfold bkN
    rw [if_neg g]
    by_cases e : i = u
    · rw [if_pos e, if_pos (by subst e; omega)]
      congr 1
      subst e; omega
    · rw [if_neg e, if_neg (by omega)]
end KPS
