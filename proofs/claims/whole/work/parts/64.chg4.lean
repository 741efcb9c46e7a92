/-! ROUTE, LINK -/
theorem i32_nn {r : Int32} (h : ∀ i, 24 ≤ i → i < 32 → r.toBitVec.getLsbD i = false) : r.toInt = (r.toBitVec.toNat : Int) ∧ r.toBitVec.toNat < 16777216 := by
  have b : r.toBitVec.toNat < 2 ^ 24 := by
    refine Nat.lt_pow_two_of_testBit _ (fun i hi => ?_)
    rw [BitVec.testBit_toNat]
    by_cases g : i < 32
    · exact h i hi g
    · exact BitVec.getLsbD_of_ge _ _ (by omega)
  have e : (2 : Nat) ^ 24 = 16777216 := by decide
  rw [e] at b
  refine ⟨?_, b⟩
  show r.toBitVec.toInt = _
  rw [BitVec.toInt_eq_toNat_of_lt]
  have : (2 : Nat) ^ 32 = 4294967296 := by decide
  omega
theorem ii_bit {x : Int} (h0 : 0 ≤ x) {i : Nat} (hi : i < 32) : (ii x).toBitVec.getLsbD i = x.toNat.testBit i := by
  obtain ⟨n, rfl⟩ : ∃ n : Nat, x = n := ⟨x.toNat, by omega⟩
  show (BitVec.ofInt 32 (n : Int)).getLsbD i = _
  rw [BitVec.ofInt_natCast, BitVec.getLsbD_ofNat, decide_eq_true hi, Bool.true_and]
  rfl
theorem sh_bit {l : Int} (h0 : 0 ≤ l) (h1 : l < 24) {i : Nat} (hi : i < 32) : (ii 1 <<< (ii l &&& 31)).toBitVec.getLsbD i = decide ((i : Int) = l) := by
  obtain ⟨n, rfl⟩ : ∃ n : Nat, l = n := ⟨l.toNat, by omega⟩
  have := (by decide : ∀ (n : Fin 24) (i : Fin 32), (ii 1 <<< (ii (n.val : Nat) &&& 31)).toBitVec.getLsbD i.val = decide (((i.val : Nat) : Int) = ((n.val : Nat) : Int))) ⟨n, by omega⟩ ⟨i, hi⟩
  exact this
def upb (x l up : Int) : Int := if up = 1 then (ii x &&& ((ii 1 <<< (ii l &&& 31)) ^^^ ii (-1))).toInt else (ii x ||| (ii 1 <<< (ii l &&& 31))).toInt
theorem upb_ok {x l up : Int} (x0 : 0 ≤ x) (x1 : x ≤ 16777215) (l0 : 0 ≤ l) (l1 : l < 24) : (0 ≤ upb x l up ∧ upb x l up ≤ 16777215) ∧ ∀ j, 0 ≤ j → j < 24 → bt (upb x l up) j = if j = l then !decide (up = 1) else bt x j := by
  have hx : ∀ i, 24 ≤ i → i < 32 → x.toNat.testBit i = false := fun i h1 _ => by
    refine Nat.testBit_lt_two_pow ?_
    have : (2 : Nat) ^ 24 ≤ 2 ^ i := Nat.pow_le_pow_right (by decide) h1
    have e : (2 : Nat) ^ 24 = 16777216 := by decide
    omega
  have hm : ∀ i, i < 32 → (ii (-1)).toBitVec.getLsbD i = true := fun i hi => (by decide : ∀ i : Fin 32, (ii (-1)).toBitVec.getLsbD i.val = true) ⟨i, hi⟩
  unfold upb
  by_cases g : up = 1
  · rw [if_pos g]
    have hb : ∀ i, i < 32 → (ii x &&& ((ii 1 <<< (ii l &&& 31)) ^^^ ii (-1))).toBitVec.getLsbD i = (x.toNat.testBit i && !decide ((i : Int) = l)) := fun i hi => by
      rw [Int32.toBitVec_and, Int32.toBitVec_xor, BitVec.getLsbD_and, BitVec.getLsbD_xor, ii_bit x0 hi, sh_bit l0 l1 hi, hm i hi, Bool.xor_true]
    obtain ⟨e1, e2⟩ := i32_nn (fun i h1 h2 => by rw [hb i h2, hx i h1 h2, Bool.false_and])
    rw [e1]
    refine ⟨by omega, fun j j0 j1 => ?_⟩
    unfold bt
    rw [show ((((ii x &&& ((ii 1 <<< (ii l &&& 31)) ^^^ ii (-1))).toBitVec.toNat : Nat) : Int)).toNat = (ii x &&& ((ii 1 <<< (ii l &&& 31)) ^^^ ii (-1))).toBitVec.toNat from rfl, BitVec.testBit_toNat, hb j.toNat (by omega), Int.toNat_of_nonneg j0]
    by_cases e : j = l
    · rw [if_pos e, decide_eq_true e, decide_eq_true g, Bool.not_true, Bool.and_false]
    · rw [if_neg e, decide_eq_false e, Bool.not_false, Bool.and_true]
  · rw [if_neg g]
    have hb : ∀ i, i < 32 → (ii x ||| (ii 1 <<< (ii l &&& 31))).toBitVec.getLsbD i = (x.toNat.testBit i || decide ((i : Int) = l)) := fun i hi => by
      rw [Int32.toBitVec_or, BitVec.getLsbD_or, ii_bit x0 hi, sh_bit l0 l1 hi]
    obtain ⟨e1, e2⟩ := i32_nn (fun i h1 h2 => by rw [hb i h2, hx i h1 h2, decide_eq_false (by omega)]; rfl)
    rw [e1]
    refine ⟨by omega, fun j j0 j1 => ?_⟩
    unfold bt
    rw [show ((((ii x ||| (ii 1 <<< (ii l &&& 31))).toBitVec.toNat : Nat) : Int)).toNat = (ii x ||| (ii 1 <<< (ii l &&& 31))).toBitVec.toNat from rfl, BitVec.testBit_toNat, hb j.toNat (by omega), Int.toNat_of_nonneg j0]
    by_cases e : j = l
    · rw [if_pos e, decide_eq_true e, decide_eq_false g, Bool.not_false, Bool.or_true]
    · rw [if_neg e, decide_eq_false e, Bool.or_false]
section CH4
variable {E : tr_Env} {ad : Nat → Nat} {h h0 h1 : tr_H} {Q : tr_Q} {m m' one two : Int → Int} {H L : Int} {s so n : Nat}
theorem nst_w4 (o : own h h1 n) (w : nst ad h1 n m one two H L) (v : vok m one two H L) {l x : Int} (l0 : 0 ≤ l) (l1 : l < L) (x0 : 0 ≤ x) (x1 : x ≤ 1) : nst ad (hsI h1 (hR h1 n 4) l.toNat (ii x)) n (ud m 0 (upb (m 0) l x)) one two H L := by
  obtain ⟨⟨o1, o2, o3⟩, ⟨o4, o5, o6⟩, o7, o8, o9⟩ := own_d o
  obtain ⟨n0, n1, n2, ⟨sa, sb, sc⟩, ⟨ea, eb, ec⟩, ⟨ua, ub, uc⟩, ⟨ra, rb, rc⟩, ⟨ga, gb, g0, g1, g2, g3, g4⟩, d⟩ := w
  have nn : n ≠ hR h1 n 4 := ne_tg (h := h1) (by rw [n0, ua]; decide)
  have vL := v_L v
  have v0 := v_0 v
  obtain ⟨u1, u2⟩ := upb_ok (up := x) v0.1 v0.2 l0 (by omega : l < 24)
  unfold nst
  rw [hR_sI, ht_sI, hn_sI, gv_sIn nn, gv_sIn o4, gv_sIn o7, gv_sIi (by omega) (by omega), gv_sIn (fun e => o1 e.symm), gv_sIn (fun e => o2 e.symm), Int.toNat_of_nonneg l0]
  refine ⟨n0, n1, n2, ⟨sa, sb, sc⟩, ⟨ea, eb, ec⟩, ⟨ua, ub, fun j j0 j1 => ?_⟩, ⟨ra, rb, fun j j0 j1 => ?_⟩, ⟨ga, gb, ?_, ?_, ?_, ?_, ?_⟩, d⟩
  · rw [show ud m 0 (upb (m 0) l x) 0 = upb (m 0) l x from ud_eq _ _ _, u2 j j0 (by omega)]
    by_cases e : j = l
    · rw [e, ud_eq, if_pos rfl]
      by_cases e1 : x = 1
      · rw [decide_eq_true e1, e1]; rfl
      · rw [decide_eq_false e1, show x = 0 by omega]; rfl
    · rw [ud_ne e, if_neg e]; exact uc j j0 j1
  · rw [ud_ne (by omega)]; exact rc j j0 j1
  · rw [ud_ne (by omega)]; exact g0
  · rw [ud_ne (by omega)]; exact g1
  · rw [ud_ne (by omega)]; exact g2
  · rw [ud_ne (by omega)]; exact g3
  · rw [ud_ne (by omega)]; exact g4
theorem vok_l {l x : Int} (v : vok m one two H L) (l0 : 0 ≤ l) (l1 : l < L) : vok (ud m 0 (upb (m 0) l x)) one two H L := by
  obtain ⟨vH, vL, vl, v0, v1, v2, v3, v4, v5, vr, vm, vp⟩ := id v
  obtain ⟨u1, u2⟩ := upb_ok (up := x) v0.1 v0.2 l0 (by omega : l < 24)
  have hs : ∀ k, k ≠ 0 → ud m 0 (upb (m 0) l x) k = m k := fun k hk => ud_ne hk
  refine ⟨vH, vL, vl, ?_, ?_, ?_, ?_, ?_, ?_, fun k k0 k1 => by rw [hs (6 + k) (by omega)]; exact vr k k0 k1, by rw [hs 106 (by omega)]; exact vm, fun p p0 p1 => ?_⟩
  · rw [show ud m 0 (upb (m 0) l x) 0 = upb (m 0) l x from ud_eq _ _ _]; exact u1
  · rw [hs 1 (by omega)]; exact v1
  · rw [hs 2 (by omega)]; exact v2
  · rw [hs 2 (by omega), hs 3 (by omega)]; exact v3
  · rw [hs 2 (by omega), hs 4 (by omega)]; exact v4
  · rw [hs 5 (by omega)]; exact v5
  · rw [hs 106 (by omega)] at p1
    exact pok_f (fun w' h0 _ => (hs (107 + 19 * p + w') (by omega)).symm) (vp p p0 p1)
theorem vok_r {k x : Int} (v : vok m one two H L) (k0 : 0 ≤ k) (k1 : k < 100) (x0 : -1 ≤ x) (x1 : x < L) : vok (ud m (6 + k) x) one two H L := by
  obtain ⟨vH, vL, vl, v0, v1, v2, v3, v4, v5, vr, vm, vp⟩ := id v
  have hs : ∀ j, j ≠ 6 + k → ud m (6 + k) x j = m j := fun j hk => ud_ne hk
  refine ⟨vH, vL, vl, ?_, ?_, ?_, ?_, ?_, ?_, fun j j0 j1 => ?_, by rw [hs 106 (by omega)]; exact vm, fun p p0 p1 => ?_⟩
  · rw [hs 0 (by omega)]; exact v0
  · rw [hs 1 (by omega)]; exact v1
  · rw [hs 2 (by omega)]; exact v2
  · rw [hs 2 (by omega), hs 3 (by omega)]; exact v3
  · rw [hs 2 (by omega), hs 4 (by omega)]; exact v4
  · rw [hs 5 (by omega)]; exact v5
  · unfold ud
    split
    · exact ⟨x0, x1⟩
    · exact vr j j0 j1
  · rw [hs 106 (by omega)] at p1
    exact pok_f (fun w' h0 _ => (hs (107 + 19 * p + w') (by omega)).symm) (vp p p0 p1)
theorem K_link (ok : tr_ok E) (c : kst ad h m one two H L) (v : vok m one two H L) (hh : his ad h) {u : Int} (hu : gv h (ad 1) 5 = u) (u0 : 0 ≤ u) (u1 : u ≤ 12) {l x : Int} (l0 : -2147483648 ≤ l) (l1 : l ≤ 2147483647) (x0 : -2147483648 ≤ x) (x1 : x ≤ 2147483647) (q : 0 ≤ l ∧ l < L → 0 ≤ x ∧ x ≤ 1 → ∀ h', KP ad h (ud m 0 (upb (m 0) l x)) one two H L u h' → Q (.inl (some (.inl (bb (decide (b2 (!bt (m 0) l) ≠ x)))))) h') (r : ¬ (0 ≤ l ∧ l < L) → Q (.inr 0) (rfz ad h 0)) (r2 : 0 ≤ l ∧ l < L → ¬ (0 ≤ x ∧ x ≤ 1) → Q (.inr 1) (rfz ad h 1)) : tr_C E 78 [.inr (.inr (ad 1)), .inl (ii l), .inl (ii x)] h Q := by
  refine T_X7_link ok ?_
  have s0 := c.1
  obtain ⟨c0, n, c2, c3, c4, c5⟩ := id c.2
  have vL := v_L v
  simp (disch := first | omega | decide | assumption | exact st_ne s0 (by decide) (by decide) (by decide) | exact dyn_ne (by assumption) (by decide) | fail) only [Int.reduceAdd, Int.reduceSub, Int.reduceNeg, ii_add, ii_sub, ii_mul, ii_lt, ii_le, ii_eq, ixn_ii, ixo_ii, rem_ii, nb_1, nb_0, nb_bb, bb_0, hI_gv, Int.toNat_of_nonneg, Int.cast_ofNat_Int, ht_sI, ht_sJ, ht_sR, hn_sI, hn_sJ, hn_sR, hR_sI, hR_sJ, kI_v, kV_v, kJ_v, true_and, and_true, forall_eq, tg, ln, rf, ne_eq, not_false_eq_true, forall_const, not_true_eq_false, false_implies, W_X7_link, st_t s0, c0, n.1]
  refine k_hasLink ok n (by omega) (by omega) l0 l1 ?_
  simp (disch := first | omega | decide | assumption | exact st_ne s0 (by decide) (by decide) (by decide) | exact dyn_ne (by assumption) (by decide) | fail) only [Int.reduceAdd, Int.reduceSub, Int.reduceNeg, ii_add, ii_sub, ii_mul, ii_lt, ii_le, ii_eq, ixn_ii, ixo_ii, rem_ii, nb_1, nb_0, nb_bb, bb_0, hI_gv, Int.toNat_of_nonneg, Int.cast_ofNat_Int, ht_sI, ht_sJ, ht_sR, hn_sI, hn_sJ, hn_sR, hR_sI, hR_sJ, kI_v, kV_v, kJ_v, true_and, and_true, forall_eq, tg, ln, rf, ne_eq, not_false_eq_true, forall_const, not_true_eq_false, false_implies, st_t s0]
  refine k_fndb ok s0 (fun g => ?_) (fun g => ?_)
  · rw [decide_eq_true_eq] at g
    have good : 0 ≤ x ∧ x ≤ 1 → tr_G E 78 Q 30 [some (.inr (.inr (ad 1))), some (.inl (ii l)), some (.inl (ii x)), none] [.inl (ii 1), .inr (.inr (ad 1))] h 7 185 := by
      intro g2
      refine T_X7_link_30 ok ?_
      simp (disch := first | omega | decide | assumption | exact st_ne s0 (by decide) (by decide) (by decide) | exact dyn_ne (by assumption) (by decide) | fail) only [Int.reduceAdd, Int.reduceSub, Int.reduceNeg, ii_add, ii_sub, ii_mul, ii_lt, ii_le, ii_eq, ixn_ii, ixo_ii, rem_ii, nb_1, nb_0, nb_bb, bb_0, hI_gv, Int.toNat_of_nonneg, Int.cast_ofNat_Int, ht_sI, ht_sJ, ht_sR, hn_sI, hn_sJ, hn_sR, hR_sI, hR_sJ, kI_v, kV_v, kJ_v, true_and, and_true, forall_eq, tg, ln, rf, ne_eq, not_false_eq_true, forall_const, not_true_eq_false, false_implies, W_X7_link_30, st_t s0]
      refine k_req1 ok ?_
      simp (disch := first | omega | decide | assumption | exact st_ne s0 (by decide) (by decide) (by decide) | exact dyn_ne (by assumption) (by decide) | fail) only [Int.reduceAdd, Int.reduceSub, Int.reduceNeg, ii_add, ii_sub, ii_mul, ii_lt, ii_le, ii_eq, ixn_ii, ixo_ii, rem_ii, nb_1, nb_0, nb_bb, bb_0, hI_gv, Int.toNat_of_nonneg, Int.cast_ofNat_Int, ht_sI, ht_sJ, ht_sR, hn_sI, hn_sJ, hn_sR, hR_sI, hR_sJ, kI_v, kV_v, kJ_v, true_and, and_true, forall_eq, tg, ln, rf, ne_eq, not_false_eq_true, forall_const, not_true_eq_false, false_implies, st_t s0]
      refine k_keepState ok c v hh hu u0 u1 (fun h1 f1 e1 r1 k1 o1 p1 => ?_)
      have s1 := st_fr s0 f1
      obtain ⟨b0, nw, -⟩ := id k1
      obtain ⟨m0, m1, m2, -, -, ⟨ya, yb, yc⟩, -⟩ := id nw
      have hv := yc l g.1 g.2
      have l00 : 0 ≤ l := g.1
      have br := b2_rg (!bt (m 0) l)
      obtain ⟨z1, z2⟩ := cst_w s0 v c.2 f1 k1 p1 (A := hR h1 (hR h1 (hR h1 (ad 1) 3) 0) 4) (k := l.toNat) (x := ii x) o1.2.2.2.1 ya (nst_w4 o1.2.2 nw v g.1 g.2 g2.1 g2.2) (fun z z0 z1 => (ud_ne (by omega)).symm)
      have fin := q g g2 _ ⟨z1, by rw [gv_sIn (fun e => dyn_0 s0 o1.2.2.2.1 1 (by decide) e.symm)]; exact e1, r1, z2⟩
      simp (disch := first | omega | decide | assumption | exact st_ne s0 (by decide) (by decide) (by decide) | exact dyn_ne (by assumption) (by decide) | fail) only [Int.reduceAdd, Int.reduceSub, Int.reduceNeg, ii_add, ii_sub, ii_mul, ii_lt, ii_le, ii_eq, ixn_ii, ixo_ii, rem_ii, nb_1, nb_0, nb_bb, bb_0, hI_gv, Int.toNat_of_nonneg, Int.cast_ofNat_Int, ht_sI, ht_sJ, ht_sR, hn_sI, hn_sJ, hn_sR, hR_sI, hR_sJ, kI_v, kV_v, kJ_v, true_and, and_true, forall_eq, tg, ln, rf, ne_eq, not_false_eq_true, forall_const, not_true_eq_false, false_implies, st_t s1, b0, m0, ya, yb, hv]
      refine ⟨by omega, fun g3 => ⟨by omega, ?_⟩, fun g3 => ⟨by omega, ?_⟩⟩
      · rw [decide_eq_false (fun e => e g3)] at fin; exact fin
      · rw [decide_eq_true g3] at fin; exact fin
    have bad : ¬ (0 ≤ x ∧ x ≤ 1) → tr_G E 78 Q 30 [some (.inr (.inr (ad 1))), some (.inl (ii l)), some (.inl (ii x)), none] [.inl (ii 0), .inr (.inr (ad 1))] h 7 185 := by
      intro g2
      refine T_X7_link_30 ok ?_
      simp (disch := first | omega | decide | assumption | exact st_ne s0 (by decide) (by decide) (by decide) | exact dyn_ne (by assumption) (by decide) | fail) only [Int.reduceAdd, Int.reduceSub, Int.reduceNeg, ii_add, ii_sub, ii_mul, ii_lt, ii_le, ii_eq, ixn_ii, ixo_ii, rem_ii, nb_1, nb_0, nb_bb, bb_0, hI_gv, Int.toNat_of_nonneg, Int.cast_ofNat_Int, ht_sI, ht_sJ, ht_sR, hn_sI, hn_sJ, hn_sR, hR_sI, hR_sJ, kI_v, kV_v, kJ_v, true_and, and_true, forall_eq, tg, ln, rf, ne_eq, not_false_eq_true, forall_const, not_true_eq_false, false_implies, W_X7_link_30, st_t s0]
      exact k_req0 ok s0 (r2 g g2)
    simp (disch := first | omega | decide | assumption | exact st_ne s0 (by decide) (by decide) (by decide) | exact dyn_ne (by assumption) (by decide) | fail) only [Int.reduceAdd, Int.reduceSub, Int.reduceNeg, ii_add, ii_sub, ii_mul, ii_lt, ii_le, ii_eq, ixn_ii, ixo_ii, rem_ii, nb_1, nb_0, nb_bb, bb_0, hI_gv, Int.toNat_of_nonneg, Int.cast_ofNat_Int, ht_sI, ht_sJ, ht_sR, hn_sI, hn_sJ, hn_sR, hR_sI, hR_sJ, kI_v, kV_v, kJ_v, true_and, and_true, forall_eq, tg, ln, rf, ne_eq, not_false_eq_true, forall_const, not_true_eq_false, false_implies]
    exact ⟨fun g2 => good (by omega), fun g2 => ⟨fun g3 => good (by omega), fun g3 => bad (by omega)⟩⟩
  · rw [decide_eq_false_iff_not] at g
    exact r g
end CH4
