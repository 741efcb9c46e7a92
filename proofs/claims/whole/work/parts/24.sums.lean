/-! WHAT THE REFERENCE COUNTS -/
def al (f : Int → Bool) : Int → Nat → Bool
  | _, 0 => true
  | i, n + 1 => f i && al f (i + 1) n
def b2 (b : Bool) : Int := if b then 1 else 0
theorem b2_rg (b : Bool) : 0 ≤ b2 b ∧ b2 b ≤ 1 := by cases b <;> decide
def cm (m : Int → Int) (p : Int) : Int := sm (fun k => b2 (chs m p k)) 0 (fd m p 6 + 1).toNat
def cnt (m : Int → Int) (w : Int) : Int := sm (fun p => if w = 0 then cm m p else if w = 1 then b2 (chs m p 0) else b2 (decide (0 < cm m p ∧ cm m p ≤ fd m p 6))) 0 (m 106).toNat
def clb (m : Int → Int) (l a b : Int) : Bool := chs m a 0 && chs m b 0 && decide (hsh m a % l = hsh m b % l)
def clh (m : Int → Int) (l : Int) : Int := sm (fun a => sm (fun b => b2 (clb m l a b)) 0 a.toNat) 0 (m 106).toNat
def unl (m : Int → Int) (mk : Int) : Int := sm (fun p => b2 (al (fun o => decide (mixB m o 0 mk ≠ mixB m p 0 mk)) 0 p.toNat)) 0 (m 106).toNat
theorem cm_rg {m one two : Int → Int} {H L p : Int} (v : vok m one two H L) (h1 : 0 ≤ p) (h2 : p < m 106) : 0 ≤ cm m p ∧ cm m p ≤ 13 := by
  obtain ⟨q0, q1, q2, q3, q4, q5, q6, q7⟩ := v_p v h1 h2
  have := sm_rg (f := fun k => b2 (chs m p k)) (lo := 0) (hi := 1) (fd m p 6 + 1).toNat 0 (fun j _ _ => b2_rg _)
  unfold cm
  constructor <;> omega
section SUMS
variable {E : tr_Env} {ad : Nat → Nat} {h : tr_H} {Q : tr_Q} {m one two : Int → Int} {H L : Int}
theorem c_chosenMany_4 (ok : tr_ok E) (s : mst ad h m one two H L) (v : vok m one two H L) {p : Int} (h1 : 0 ≤ p) (h2 : p < m 106) : ∀ (n : Nat) (i a : Int), i + n = fd m p 6 + 1 → 0 ≤ i → 0 ≤ a → a ≤ i → Q (.inl (some (.inl (ii (a + sm (fun k => b2 (chs m p k)) i n))))) h → tr_G E 163 Q 4 [some (.inr (.inr (ad 23))), some (.inl (ii p)), some (.inl (ii a)), some (.inl (ii i))] [] h 0 0
  | n, i, a, hn, g0, g1, g2, q => by
    refine T_X8_chosenMany_4 ok ?_
    have vm := v_m v
    obtain ⟨q0, q1, q2, q3, q4, q5, q6, q7⟩ := v_p v h1 h2
    simp (disch := first | omega | decide | assumption | exact st_ne s0 (by decide) (by decide) (by decide) | exact dyn_ne (by assumption) (by decide) | fail) only [Int.reduceAdd, Int.reduceSub, Int.reduceNeg, ii_add, ii_sub, ii_mul, ii_lt, ii_le, ii_eq, ixn_ii, ixo_ii, rem_ii, nb_1, nb_0, nb_bb, bb_0, hI_gv, Int.toNat_of_nonneg, Int.cast_ofNat_Int, ht_sI, ht_sJ, ht_sR, hn_sI, hn_sJ, hn_sR, hR_sI, hR_sJ, kI_v, kV_v, kJ_v, true_and, and_true, forall_eq, tg, ln, rf, ne_eq, not_false_eq_true, forall_const, not_true_eq_false, false_implies, W_X8_chosenMany_4, st_t s.1]
    refine c_of ok s h1 (by omega) (by omega) (by omega) ?_
    simp (disch := first | omega | decide | assumption | exact st_ne s0 (by decide) (by decide) (by decide) | exact dyn_ne (by assumption) (by decide) | fail) only [Int.reduceAdd, Int.reduceSub, Int.reduceNeg, ii_add, ii_sub, ii_mul, ii_lt, ii_le, ii_eq, ixn_ii, ixo_ii, rem_ii, nb_1, nb_0, nb_bb, bb_0, hI_gv, Int.toNat_of_nonneg, Int.cast_ofNat_Int, ht_sI, ht_sJ, ht_sR, hn_sI, hn_sJ, hn_sR, hR_sI, hR_sJ, kI_v, kV_v, kJ_v, true_and, and_true, forall_eq, tg, ln, rf, ne_eq, not_false_eq_true, forall_const, not_true_eq_false, false_implies, st_t s.1]
    refine ⟨fun g => ?_, fun g => ?_⟩
    · obtain ⟨n, rfl⟩ : ∃ n', n = n' + 1 := ⟨n - 1, by omega⟩
      refine c_isChosen ok s v h1 h2 (by omega) (by omega) ?_
      simp (disch := first | omega | decide | assumption | exact st_ne s0 (by decide) (by decide) (by decide) | exact dyn_ne (by assumption) (by decide) | fail) only [Int.reduceAdd, Int.reduceSub, Int.reduceNeg, ii_add, ii_sub, ii_mul, ii_lt, ii_le, ii_eq, ixn_ii, ixo_ii, rem_ii, nb_1, nb_0, nb_bb, bb_0, hI_gv, Int.toNat_of_nonneg, Int.cast_ofNat_Int, ht_sI, ht_sJ, ht_sR, hn_sI, hn_sJ, hn_sR, hR_sI, hR_sJ, kI_v, kV_v, kJ_v, true_and, and_true, forall_eq, tg, ln, rf, ne_eq, not_false_eq_true, forall_const, not_true_eq_false, false_implies]
      rw [sm_s] at q
      refine ⟨fun g3 => ?_, fun g3 => ?_⟩
      · refine c_chosenMany_4 ok s v h1 h2 n (i + 1) _ (by omega) (by omega) (by omega) (by omega) ?_
        rw [g3, ← Int.add_assoc] at q; exact q
      · rw [Bool.not_eq_false] at g3
        refine c_chosenMany_4 ok s v h1 h2 n (i + 1) _ (by omega) (by omega) (by omega) (by omega) ?_
        rw [g3, ← Int.add_assoc] at q; exact q
    · obtain rfl : n = 0 := by omega
      rw [sm_0, Int.add_zero] at q; exact q
theorem c_chosenMany (ok : tr_ok E) (s : mst ad h m one two H L) (v : vok m one two H L) {p : Int} (h1 : 0 ≤ p) (h2 : p < m 106) (q : Q (.inl (some (.inl (ii (cm m p))))) h) : tr_C E 163 [.inr (.inr (ad 23)), .inl (ii p)] h Q := by
  refine T_X8_chosenMany ok ?_
  obtain ⟨q0, q1, q2, q3, q4, q5, q6, q7⟩ := v_p v h1 h2
  refine c_chosenMany_4 ok s v h1 h2 (fd m p 6 + 1).toNat 0 0 (by omega) (by omega) (by omega) (by omega) ?_
  rw [Int.zero_add]; exact q
theorem c_counted_4 (ok : tr_ok E) (s : mst ad h m one two H L) (v : vok m one two H L) {w : Int} (h1 : 0 ≤ w) (h2 : w ≤ 2) : ∀ (n : Nat) (i a : Int), i + n = m 106 → 0 ≤ i → 0 ≤ a → a ≤ 13 * i → Q (.inl (some (.inl (ii (a + sm (fun p => if w = 0 then cm m p else if w = 1 then b2 (chs m p 0) else b2 (decide (0 < cm m p ∧ cm m p ≤ fd m p 6))) i n))))) h → tr_G E 164 Q 4 [some (.inr (.inr (ad 23))), some (.inl (ii w)), some (.inl (ii a)), some (.inl (ii i)), none] [] h 0 0
  | n, i, a, hn, g0, g1, g2, q => by
    refine T_X8_counted_4 ok ?_
    have vm := v_m v
    simp (disch := first | omega | decide | assumption | exact st_ne s0 (by decide) (by decide) (by decide) | exact dyn_ne (by assumption) (by decide) | fail) only [Int.reduceAdd, Int.reduceSub, Int.reduceNeg, ii_add, ii_sub, ii_mul, ii_lt, ii_le, ii_eq, ixn_ii, ixo_ii, rem_ii, nb_1, nb_0, nb_bb, bb_0, hI_gv, Int.toNat_of_nonneg, Int.cast_ofNat_Int, ht_sI, ht_sJ, ht_sR, hn_sI, hn_sJ, hn_sR, hR_sI, hR_sJ, kI_v, kV_v, kJ_v, true_and, and_true, forall_eq, tg, ln, rf, ne_eq, not_false_eq_true, forall_const, not_true_eq_false, false_implies, W_X8_counted_4, st_t s.1, st_n s.1, st_r s.1, s.2.1]
    refine ⟨by omega, fun g => ?_, fun g => ?_⟩
    · obtain ⟨n, rfl⟩ : ∃ n', n = n' + 1 := ⟨n - 1, by omega⟩
      refine c_chosenMany ok s v g0 g ?_
      have hc := cm_rg v g0 g
      obtain ⟨q0, q1, q2, q3, q4, q5, q6, q7⟩ := v_p v g0 g
      simp (disch := first | omega | decide | assumption | exact st_ne s0 (by decide) (by decide) (by decide) | exact dyn_ne (by assumption) (by decide) | fail) only [Int.reduceAdd, Int.reduceSub, Int.reduceNeg, ii_add, ii_sub, ii_mul, ii_lt, ii_le, ii_eq, ixn_ii, ixo_ii, rem_ii, nb_1, nb_0, nb_bb, bb_0, hI_gv, Int.toNat_of_nonneg, Int.cast_ofNat_Int, ht_sI, ht_sJ, ht_sR, hn_sI, hn_sJ, hn_sR, hR_sI, hR_sJ, kI_v, kV_v, kJ_v, true_and, and_true, forall_eq, tg, ln, rf, ne_eq, not_false_eq_true, forall_const, not_true_eq_false, false_implies, st_t s.1]
      rw [sm_s] at q
      refine ⟨fun g3 => ?_, fun g3 => ⟨fun g4 => ?_, fun g4 => ⟨fun g5 => ?_, fun g5 => ?_⟩⟩⟩
      · refine c_counted_4 ok s v h1 h2 n (i + 1) _ (by omega) (by omega) (by omega) (by omega) ?_
        rw [if_pos g3, ← Int.add_assoc] at q; exact q
      · refine c_isChosen ok s v g0 g (by omega) (by omega) ?_
        rw [if_neg g3, if_pos g4, ← Int.add_assoc] at q
        simp (disch := first | omega | decide | assumption | exact st_ne s0 (by decide) (by decide) (by decide) | exact dyn_ne (by assumption) (by decide) | fail) only [Int.reduceAdd, Int.reduceSub, Int.reduceNeg, ii_add, ii_sub, ii_mul, ii_lt, ii_le, ii_eq, ixn_ii, ixo_ii, rem_ii, nb_1, nb_0, nb_bb, bb_0, hI_gv, Int.toNat_of_nonneg, Int.cast_ofNat_Int, ht_sI, ht_sJ, ht_sR, hn_sI, hn_sJ, hn_sR, hR_sI, hR_sJ, kI_v, kV_v, kJ_v, true_and, and_true, forall_eq, tg, ln, rf, ne_eq, not_false_eq_true, forall_const, not_true_eq_false, false_implies]
        refine ⟨fun g5 => ?_, fun g5 => ?_⟩
        · refine c_counted_4 ok s v h1 h2 n (i + 1) _ (by omega) (by omega) (by omega) (by omega) ?_
          rw [g5] at q; exact q
        · rw [Bool.not_eq_false] at g5
          refine c_counted_4 ok s v h1 h2 n (i + 1) _ (by omega) (by omega) (by omega) (by omega) ?_
          rw [g5] at q; exact q
      · refine c_counted_4 ok s v h1 h2 n (i + 1) _ (by omega) (by omega) (by omega) (by omega) ?_
        rw [if_neg g3, if_neg g4, ← Int.add_assoc, decide_eq_false (by omega)] at q; exact q
      · refine c_of ok s g0 (by omega) (by omega) (by omega) ?_
        rw [if_neg g3, if_neg g4, ← Int.add_assoc] at q
        simp (disch := first | omega | decide | assumption | exact st_ne s0 (by decide) (by decide) (by decide) | exact dyn_ne (by assumption) (by decide) | fail) only [Int.reduceAdd, Int.reduceSub, Int.reduceNeg, ii_add, ii_sub, ii_mul, ii_lt, ii_le, ii_eq, ixn_ii, ixo_ii, rem_ii, nb_1, nb_0, nb_bb, bb_0, hI_gv, Int.toNat_of_nonneg, Int.cast_ofNat_Int, ht_sI, ht_sJ, ht_sR, hn_sI, hn_sJ, hn_sR, hR_sI, hR_sJ, kI_v, kV_v, kJ_v, true_and, and_true, forall_eq, tg, ln, rf, ne_eq, not_false_eq_true, forall_const, not_true_eq_false, false_implies]
        refine ⟨fun g6 => ?_, fun g6 => ?_⟩
        · refine c_counted_4 ok s v h1 h2 n (i + 1) _ (by omega) (by omega) (by omega) (by omega) ?_
          rw [decide_eq_true (by omega)] at q; exact q
        · refine c_counted_4 ok s v h1 h2 n (i + 1) _ (by omega) (by omega) (by omega) (by omega) ?_
          rw [decide_eq_false (by omega)] at q; exact q
    · obtain rfl : n = 0 := by omega
      rw [sm_0, Int.add_zero] at q; exact q
theorem c_counted (ok : tr_ok E) (s : mst ad h m one two H L) (v : vok m one two H L) {w : Int} (h1 : 0 ≤ w) (h2 : w ≤ 2) (q : Q (.inl (some (.inl (ii (cnt m w))))) h) : tr_C E 164 [.inr (.inr (ad 23)), .inl (ii w)] h Q := by
  refine T_X8_counted ok ?_
  refine c_counted_4 ok s v h1 h2 (m 106).toNat 0 0 (by have := v_m v; omega) (by omega) (by omega) (by omega) ?_
  rw [Int.zero_add]; exact q
theorem c_clashesBy_18 (ok : tr_ok E) (s : mst ad h m one two H L) (v : vok m one two H L) {l a : Int} (h1 : 2 ≤ l) (h2 : l ≤ 64) (h3 : 0 ≤ a) (h4 : a < m 106) : ∀ (n : Nat) (b c : Int), b + n = a → 0 ≤ b → 0 ≤ c → c ≤ 40 * a + b → (∀ c', 0 ≤ c' → c' ≤ 40 * a + a → c' = c + sm (fun b => b2 (clb m l a b)) b n → tr_G E 165 Q 4 [some (.inr (.inr (ad 23))), some (.inl (ii l)), some (.inl (ii c')), some (.inl (ii (a + 1))), none] [] h 0 0) → tr_G E 165 Q 18 [some (.inr (.inr (ad 23))), some (.inl (ii l)), some (.inl (ii c)), some (.inl (ii a)), some (.inl (ii b))] [] h 0 0
  | n, b, c, hn, g0, g1, g2, q => by
    refine T_X8_clashesBy_18 ok ?_
    have vm := v_m v
    have ha := hsh_rg (m := m) (p := a)
    have hb := hsh_rg (m := m) (p := b)
    obtain ⟨q0, q1, q2, q3, q4, q5, q6, q7⟩ := v_p v h3 h4
    simp (disch := first | omega | decide | assumption | exact st_ne s0 (by decide) (by decide) (by decide) | exact dyn_ne (by assumption) (by decide) | fail) only [Int.reduceAdd, Int.reduceSub, Int.reduceNeg, ii_add, ii_sub, ii_mul, ii_lt, ii_le, ii_eq, ixn_ii, ixo_ii, rem_ii, nb_1, nb_0, nb_bb, bb_0, hI_gv, Int.toNat_of_nonneg, Int.cast_ofNat_Int, ht_sI, ht_sJ, ht_sR, hn_sI, hn_sJ, hn_sR, hR_sI, hR_sJ, kI_v, kV_v, kJ_v, true_and, and_true, forall_eq, tg, ln, rf, ne_eq, not_false_eq_true, forall_const, not_true_eq_false, false_implies, W_X8_clashesBy_18, st_t s.1]
    refine ⟨fun g => ?_, fun g => ?_⟩
    · obtain ⟨n, rfl⟩ : ∃ n', n = n' + 1 := ⟨n - 1, by omega⟩
      have hq : ∀ d, 0 ≤ d → d ≤ 1 → d = b2 (clb m l a b) → tr_G E 165 Q 18 [some (.inr (.inr (ad 23))), some (.inl (ii l)), some (.inl (ii (c + d))), some (.inl (ii a)), some (.inl (ii (b + 1)))] [] h 0 0 := by
        intro d d0 d1 d2
        refine c_clashesBy_18 ok s v h1 h2 h3 h4 n (b + 1) (c + d) (by omega) (by omega) (by omega) (by omega) (fun c' e1 e2 e3 => q c' e1 e2 ?_)
        rw [sm_s, ← d2, ← Int.add_assoc]; exact e3
      refine c_isChosen ok s v h3 h4 (by omega) (by omega) ?_
      simp (disch := first | omega | decide | assumption | exact st_ne s0 (by decide) (by decide) (by decide) | exact dyn_ne (by assumption) (by decide) | fail) only [Int.reduceAdd, Int.reduceSub, Int.reduceNeg, ii_add, ii_sub, ii_mul, ii_lt, ii_le, ii_eq, ixn_ii, ixo_ii, rem_ii, nb_1, nb_0, nb_bb, bb_0, hI_gv, Int.toNat_of_nonneg, Int.cast_ofNat_Int, ht_sI, ht_sJ, ht_sR, hn_sI, hn_sJ, hn_sR, hR_sI, hR_sJ, kI_v, kV_v, kJ_v, true_and, and_true, forall_eq, tg, ln, rf, ne_eq, not_false_eq_true, forall_const, not_true_eq_false, false_implies, st_t s.1]
      refine ⟨fun g3 => ?_, fun g3 => ?_⟩
      · refine hq 0 (by omega) (by omega) ?_
        unfold clb; rw [g3]; rfl
      · rw [Bool.not_eq_false] at g3
        have hvb := v_p v g0 (by omega : b < m 106)
        obtain ⟨r0, r1, r2, r3, r4, r5, r6, r7⟩ := hvb
        refine c_isChosen ok s v g0 (by omega) (by omega) (by omega) ?_
        simp (disch := first | omega | decide | assumption | exact st_ne s0 (by decide) (by decide) (by decide) | exact dyn_ne (by assumption) (by decide) | fail) only [Int.reduceAdd, Int.reduceSub, Int.reduceNeg, ii_add, ii_sub, ii_mul, ii_lt, ii_le, ii_eq, ixn_ii, ixo_ii, rem_ii, nb_1, nb_0, nb_bb, bb_0, hI_gv, Int.toNat_of_nonneg, Int.cast_ofNat_Int, ht_sI, ht_sJ, ht_sR, hn_sI, hn_sJ, hn_sR, hR_sI, hR_sJ, kI_v, kV_v, kJ_v, true_and, and_true, forall_eq, tg, ln, rf, ne_eq, not_false_eq_true, forall_const, not_true_eq_false, false_implies, st_t s.1]
        refine ⟨fun g4 => ?_, fun g4 => ?_⟩
        · refine hq 0 (by omega) (by omega) ?_
          unfold clb; rw [g3, g4]; rfl
        · rw [Bool.not_eq_false] at g4
          refine c_hashOf ok s v h3 h4 ?_
          simp (disch := first | omega | decide | assumption | exact st_ne s0 (by decide) (by decide) (by decide) | exact dyn_ne (by assumption) (by decide) | fail) only [Int.reduceAdd, Int.reduceSub, Int.reduceNeg, ii_add, ii_sub, ii_mul, ii_lt, ii_le, ii_eq, ixn_ii, ixo_ii, rem_ii, nb_1, nb_0, nb_bb, bb_0, hI_gv, Int.toNat_of_nonneg, Int.cast_ofNat_Int, ht_sI, ht_sJ, ht_sR, hn_sI, hn_sJ, hn_sR, hR_sI, hR_sJ, kI_v, kV_v, kJ_v, true_and, and_true, forall_eq, tg, ln, rf, ne_eq, not_false_eq_true, forall_const, not_true_eq_false, false_implies, st_t s.1]
          refine ⟨by omega, c_hashOf ok s v g0 (by omega) ?_⟩
          have m1 := Int.emod_nonneg (hsh m a) (by omega : l ≠ 0)
          have m2 := Int.emod_lt_of_pos (hsh m a) (by omega : 0 < l)
          have m3 := Int.emod_nonneg (hsh m b) (by omega : l ≠ 0)
          have m4 := Int.emod_lt_of_pos (hsh m b) (by omega : 0 < l)
          simp (disch := first | omega | decide | assumption | exact st_ne s0 (by decide) (by decide) (by decide) | exact dyn_ne (by assumption) (by decide) | fail) only [Int.reduceAdd, Int.reduceSub, Int.reduceNeg, ii_add, ii_sub, ii_mul, ii_lt, ii_le, ii_eq, ixn_ii, ixo_ii, rem_ii, nb_1, nb_0, nb_bb, bb_0, hI_gv, Int.toNat_of_nonneg, Int.cast_ofNat_Int, ht_sI, ht_sJ, ht_sR, hn_sI, hn_sJ, hn_sR, hR_sI, hR_sJ, kI_v, kV_v, kJ_v, true_and, and_true, forall_eq, tg, ln, rf, ne_eq, not_false_eq_true, forall_const, not_true_eq_false, false_implies]
          refine ⟨by omega, fun g5 => ?_, fun g5 => ?_⟩
          · refine hq 1 (by omega) (by omega) ?_
            unfold clb; rw [g3, g4, decide_eq_true g5]; rfl
          · refine hq 0 (by omega) (by omega) ?_
            unfold clb; rw [g3, g4, decide_eq_false g5]; rfl
    · obtain rfl : n = 0 := by omega
      exact q c g1 (by omega) (by rw [sm_0, Int.add_zero])
theorem c_clashesBy_4 (ok : tr_ok E) (s : mst ad h m one two H L) (v : vok m one two H L) {l : Int} (h1 : 2 ≤ l) (h2 : l ≤ 64) : ∀ (n : Nat) (a c : Int), a + n = m 106 → 0 ≤ a → 0 ≤ c → c ≤ 40 * a → Q (.inl (some (.inl (ii (c + sm (fun a => sm (fun b => b2 (clb m l a b)) 0 a.toNat) a n))))) h → tr_G E 165 Q 4 [some (.inr (.inr (ad 23))), some (.inl (ii l)), some (.inl (ii c)), some (.inl (ii a)), none] [] h 0 0
  | n, a, c, hn, g0, g1, g2, q => by
    refine T_X8_clashesBy_4 ok ?_
    have vm := v_m v
    simp (disch := first | omega | decide | assumption | exact st_ne s0 (by decide) (by decide) (by decide) | exact dyn_ne (by assumption) (by decide) | fail) only [Int.reduceAdd, Int.reduceSub, Int.reduceNeg, ii_add, ii_sub, ii_mul, ii_lt, ii_le, ii_eq, ixn_ii, ixo_ii, rem_ii, nb_1, nb_0, nb_bb, bb_0, hI_gv, Int.toNat_of_nonneg, Int.cast_ofNat_Int, ht_sI, ht_sJ, ht_sR, hn_sI, hn_sJ, hn_sR, hR_sI, hR_sJ, kI_v, kV_v, kJ_v, true_and, and_true, forall_eq, tg, ln, rf, ne_eq, not_false_eq_true, forall_const, not_true_eq_false, false_implies, W_X8_clashesBy_4, st_t s.1, st_n s.1, st_r s.1, s.2.1]
    refine ⟨by omega, fun g => ?_, fun g => ?_⟩
    · obtain ⟨n, rfl⟩ : ∃ n', n = n' + 1 := ⟨n - 1, by omega⟩
      refine c_clashesBy_18 ok s v h1 h2 g0 g a.toNat 0 c (by omega) (by omega) (by omega) (by omega) (fun c' e1 e2 e3 => ?_)
      refine c_clashesBy_4 ok s v h1 h2 n (a + 1) c' (by omega) (by omega) (by omega) (by omega) ?_
      rw [sm_s, ← Int.add_assoc, ← e3] at q; exact q
    · obtain rfl : n = 0 := by omega
      rw [sm_0, Int.add_zero] at q; exact q
theorem c_clashesBy (ok : tr_ok E) (s : mst ad h m one two H L) (v : vok m one two H L) {l : Int} (h1 : 2 ≤ l) (h2 : l ≤ 64) (q : Q (.inl (some (.inl (ii (clh m l))))) h) : tr_C E 165 [.inr (.inr (ad 23)), .inl (ii l)] h Q := by
  refine T_X8_clashesBy ok ?_
  refine c_clashesBy_4 ok s v h1 h2 (m 106).toNat 0 0 (by have := v_m v; omega) (by omega) (by omega) (by omega) ?_
  rw [Int.zero_add]; exact q
theorem c_unlikeBy_21 (ok : tr_ok E) (s : mst ad h m one two H L) (v : vok m one two H L) {mk p c : Int} (h1 : 0 ≤ mk) (h2 : mk ≤ 31) (h3 : 0 ≤ p) (h4 : p < m 106) (h5 : 0 ≤ c) (h6 : c ≤ p) : ∀ (n : Nat) (o : Int) (b : Bool), o + n = p → 0 ≤ o → (tr_G E 202 Q 4 [some (.inr (.inr (ad 23))), some (.inl (ii mk)), some (.inl (ii (c + b2 (b && al (fun o => decide (mixB m o 0 mk ≠ mixB m p 0 mk)) o n)))), some (.inl (ii (p + 1))), none, none] [] h 0 0) → tr_G E 202 Q 21 [some (.inr (.inr (ad 23))), some (.inl (ii mk)), some (.inl (ii c)), some (.inl (ii p)), some (.inl (bb b)), some (.inl (ii o))] [] h 0 0
  | n, o, b, hn, g0, q => by
    refine T_X8_unlikeBy_21 ok ?_
    have vm := v_m v
    simp (disch := first | omega | decide | assumption | exact st_ne s0 (by decide) (by decide) (by decide) | exact dyn_ne (by assumption) (by decide) | fail) only [Int.reduceAdd, Int.reduceSub, Int.reduceNeg, ii_add, ii_sub, ii_mul, ii_lt, ii_le, ii_eq, ixn_ii, ixo_ii, rem_ii, nb_1, nb_0, nb_bb, bb_0, hI_gv, Int.toNat_of_nonneg, Int.cast_ofNat_Int, ht_sI, ht_sJ, ht_sR, hn_sI, hn_sJ, hn_sR, hR_sI, hR_sJ, kI_v, kV_v, kJ_v, true_and, and_true, forall_eq, tg, ln, rf, ne_eq, not_false_eq_true, forall_const, not_true_eq_false, false_implies, W_X8_unlikeBy_21, st_t s.1, bb_0]
    refine ⟨fun g => ⟨fun g2 => ?_, fun g2 => ?_⟩, fun g => ⟨fun g2 => ?_, fun g2 => ?_⟩⟩
    · obtain ⟨n, rfl⟩ : ∃ n', n = n' + 1 := ⟨n - 1, by omega⟩
      refine c_unlikeBy_21 ok s v h1 h2 h3 h4 h5 h6 n (o + 1) false (by omega) (by omega) ?_
      rw [g2] at q; exact q
    · obtain ⟨n, rfl⟩ : ∃ n', n = n' + 1 := ⟨n - 1, by omega⟩
      rw [Bool.not_eq_false] at g2
      subst g2
      have hvp := v_p v h3 h4
      have hvo := v_p v g0 (by omega : o < m 106)
      obtain ⟨q0, q1, q2, q3, q4, q5, q6, q7⟩ := hvp
      obtain ⟨r0, r1, r2, r3, r4, r5, r6, r7⟩ := hvo
      have x1 := mixB_rg (p := o) (k := 0) v mk
      have x2 := mixB_rg (p := p) (k := 0) v mk
      have x3 := v_2 v
      refine c_mixBy ok s v g0 (by omega) (by omega) (by omega) h1 h2 ?_
      simp (disch := first | omega | decide | assumption | exact st_ne s0 (by decide) (by decide) (by decide) | exact dyn_ne (by assumption) (by decide) | fail) only [Int.reduceAdd, Int.reduceSub, Int.reduceNeg, ii_add, ii_sub, ii_mul, ii_lt, ii_le, ii_eq, ixn_ii, ixo_ii, rem_ii, nb_1, nb_0, nb_bb, bb_0, hI_gv, Int.toNat_of_nonneg, Int.cast_ofNat_Int, ht_sI, ht_sJ, ht_sR, hn_sI, hn_sJ, hn_sR, hR_sI, hR_sJ, kI_v, kV_v, kJ_v, true_and, and_true, forall_eq, tg, ln, rf, ne_eq, not_false_eq_true, forall_const, not_true_eq_false, false_implies, st_t s.1]
      refine c_mixBy ok s v h3 h4 (by omega) (by omega) h1 h2 ?_
      simp (disch := first | omega | decide | assumption | exact st_ne s0 (by decide) (by decide) (by decide) | exact dyn_ne (by assumption) (by decide) | fail) only [Int.reduceAdd, Int.reduceSub, Int.reduceNeg, ii_add, ii_sub, ii_mul, ii_lt, ii_le, ii_eq, ixn_ii, ixo_ii, rem_ii, nb_1, nb_0, nb_bb, bb_0, hI_gv, Int.toNat_of_nonneg, Int.cast_ofNat_Int, ht_sI, ht_sJ, ht_sR, hn_sI, hn_sJ, hn_sR, hR_sI, hR_sJ, kI_v, kV_v, kJ_v, true_and, and_true, forall_eq, tg, ln, rf, ne_eq, not_false_eq_true, forall_const, not_true_eq_false, false_implies]
      unfold al at q
      refine ⟨fun g3 => ?_, fun g3 => ?_⟩
      · refine c_unlikeBy_21 ok s v h1 h2 h3 h4 h5 h6 n (o + 1) false (by omega) (by omega) ?_
        rw [decide_eq_false (by omega)] at q; exact q
      · refine c_unlikeBy_21 ok s v h1 h2 h3 h4 h5 h6 n (o + 1) true (by omega) (by omega) ?_
        rw [decide_eq_true (by omega)] at q; exact q
    · obtain rfl : n = 0 := by omega
      rw [g2] at q; exact q
    · obtain rfl : n = 0 := by omega
      rw [Bool.not_eq_false] at g2
      rw [g2] at q; exact q
theorem c_unlikeBy_4 (ok : tr_ok E) (s : mst ad h m one two H L) (v : vok m one two H L) {mk : Int} (h1 : 0 ≤ mk) (h2 : mk ≤ 31) : ∀ (n : Nat) (p c : Int), p + n = m 106 → 0 ≤ p → 0 ≤ c → c ≤ p → Q (.inl (some (.inl (ii (c + sm (fun p => b2 (al (fun o => decide (mixB m o 0 mk ≠ mixB m p 0 mk)) 0 p.toNat)) p n))))) h → tr_G E 202 Q 4 [some (.inr (.inr (ad 23))), some (.inl (ii mk)), some (.inl (ii c)), some (.inl (ii p)), none, none] [] h 0 0
  | n, p, c, hn, g0, g1, g2, q => by
    refine T_X8_unlikeBy_4 ok ?_
    have vm := v_m v
    simp (disch := first | omega | decide | assumption | exact st_ne s0 (by decide) (by decide) (by decide) | exact dyn_ne (by assumption) (by decide) | fail) only [Int.reduceAdd, Int.reduceSub, Int.reduceNeg, ii_add, ii_sub, ii_mul, ii_lt, ii_le, ii_eq, ixn_ii, ixo_ii, rem_ii, nb_1, nb_0, nb_bb, bb_0, hI_gv, Int.toNat_of_nonneg, Int.cast_ofNat_Int, ht_sI, ht_sJ, ht_sR, hn_sI, hn_sJ, hn_sR, hR_sI, hR_sJ, kI_v, kV_v, kJ_v, true_and, and_true, forall_eq, tg, ln, rf, ne_eq, not_false_eq_true, forall_const, not_true_eq_false, false_implies, W_X8_unlikeBy_4, st_t s.1, st_n s.1, st_r s.1, s.2.1]
    refine ⟨by omega, fun g => ?_, fun g => ?_⟩
    · obtain ⟨n, rfl⟩ : ∃ n', n = n' + 1 := ⟨n - 1, by omega⟩
      have hx := b2_rg (true && al (fun o => decide (mixB m o 0 mk ≠ mixB m p 0 mk)) 0 p.toNat)
      refine c_unlikeBy_21 ok s v h1 h2 g0 g g1 g2 p.toNat 0 true (by omega) (by omega) ?_
      refine c_unlikeBy_4 ok s v h1 h2 n (p + 1) _ (by omega) (by omega) (by omega) (by omega) ?_
      rw [sm_s, ← Int.add_assoc] at q; exact q
    · obtain rfl : n = 0 := by omega
      rw [sm_0, Int.add_zero] at q; exact q
theorem c_unlikeBy (ok : tr_ok E) (s : mst ad h m one two H L) (v : vok m one two H L) {mk : Int} (h1 : 0 ≤ mk) (h2 : mk ≤ 31) (q : Q (.inl (some (.inl (ii (unl m mk))))) h) : tr_C E 202 [.inr (.inr (ad 23)), .inl (ii mk)] h Q := by
  refine T_X8_unlikeBy ok ?_
  refine c_unlikeBy_4 ok s v h1 h2 (m 106).toNat 0 0 (by have := v_m v; omega) (by omega) (by omega) (by omega) ?_
  rw [Int.zero_add]; exact q
end SUMS
