/-! ASKING, GONE ON: print, unlike -/
def prK (m two : Int → Int) (p : Int) : Int → Int → Nat → Int
  | v, _, 0 => v
  | v, k, n + 1 => prK m two p (31 * v + hop m two p k + (if chs m p k then 16 else 0)) (k + 1) n
def prP (m two : Int → Int) : Int → Int → Nat → Int
  | v, _, 0 => v
  | v, p, n + 1 => prP m two (prK m two p (31 * v + fd m p 5) 0 (fd m p 6 + 1).toNat) (p + 1) n
def unU (l : Int) : Int → Int → Nat → Int
  | w, _, 0 => w
  | w, i, n + 1 => unU l (w * (l - i)) (i + 1) n
def unD (l : Int) : Int → Nat → Int
  | a, 0 => a
  | a, n + 1 => unD l (a * l) n
theorem unD_rg {l : Int} (h1 : 2 ≤ l) (h2 : l ≤ 64) : ∀ (n : Nat) (a : Int), 1 ≤ a → a * 64 ^ n ≤ 1152921504606846976 → 1 ≤ unD l a n ∧ unD l a n ≤ 1152921504606846976
  | 0, a, h3, h4 => by
    unfold unD
    rw [Int.pow_zero, Int.mul_one] at h4
    exact ⟨h3, h4⟩
  | n + 1, a, h3, h4 => by
    unfold unD
    have e1 : a * 1 ≤ a * l := Int.mul_le_mul_of_nonneg_left (by omega) (by omega)
    have e2 : a * l ≤ a * 64 := Int.mul_le_mul_of_nonneg_left (by omega) (by omega)
    have e3 : (0 : Int) ≤ 64 ^ n := Int.pow_nonneg (by decide)
    have e4 : a * l * 64 ^ n ≤ a * 64 * 64 ^ n := Int.mul_le_mul_of_nonneg_right e2 e3
    have e5 : a * 64 ^ (n + 1) = a * 64 * 64 ^ n := by rw [Int.pow_succ, Int.mul_comm (64 ^ n) 64, Int.mul_assoc]
    exact unD_rg h1 h2 n _ (by omega) (by omega)
section ASK5
variable {E : tr_Env} {ad : Nat → Nat} {h : tr_H} {Q : tr_Q} {m one two : Int → Int} {H L : Int}
theorem k_print_42 (ok : tr_ok E) (c : kst ad h m one two H L) (v : vok m one two H L) {p : Int} (h1 : 0 ≤ p) (h2 : p < m 106) : ∀ (n : Nat) (x k : Int), k + n = fd m p 6 + 1 → 0 ≤ k → tr_G E 101 Q 4 [some (.inr (.inr (ad 1))), some (.inr (.inl (jj (prK m two p x k n)))), none, some (.inl (ii (p + 1))), none, none, none] [] h 0 0 → tr_G E 101 Q 42 [some (.inr (.inr (ad 1))), some (.inr (.inl (jj x))), none, some (.inl (ii p)), some (.inr (.inr (hR h (hR h (hR h (ad 1) 3) 1) p.toNat))), some (.inl (ii k)), none] [] h 0 0
  | n, x, k, hk, g0', q => by
    refine T_X7_print_42 ok ?_
    have s0 := c.1
    obtain ⟨c0, n', c2, c3, c4, c5⟩ := id c.2
    have pk := c5 p h1 h2
    obtain ⟨q0, q1, q2, q3, q4, q5, q6, q7⟩ := v_p v h1 h2
    obtain ⟨k0, ka, kb, kc, kd, ke, kf, kg, kh, ⟨ha, hb, hc⟩, ⟨la, lb, lc⟩, kdy⟩ := id pk
    have vm := v_m v
    have vH := v_H v
    simp (disch := first | omega | decide | assumption | exact st_ne s0 (by decide) (by decide) (by decide) | exact dyn_ne (by assumption) (by decide) | fail) only [Int.reduceAdd, Int.reduceSub, Int.reduceNeg, ii_add, ii_sub, ii_mul, ii_lt, ii_le, ii_eq, ixn_ii, ixo_ii, rem_ii, nb_1, nb_0, nb_bb, bb_0, hI_gv, Int.toNat_of_nonneg, Int.cast_ofNat_Int, ht_sI, ht_sJ, ht_sR, hn_sI, hn_sJ, hn_sR, hR_sI, hR_sJ, kI_v, kV_v, kJ_v, true_and, and_true, forall_eq, tg, ln, rf, ne_eq, not_false_eq_true, forall_const, not_true_eq_false, false_implies, W_X7_print_42, st_t s0, c0, n'.1, k0, kg]
    refine ⟨fun g => ?_, fun g => ?_⟩
    · obtain ⟨n, rfl⟩ : ∃ n', n = n' + 1 := ⟨n - 1, by omega⟩
      have hh := hop_rg (k := k) v h1 h2 g0' (by omega)
      unfold prK at q
      refine k_chooses ok n' pk v h1 h2 g0' (by omega) ?_
      simp (disch := first | omega | decide | assumption | exact st_ne s0 (by decide) (by decide) (by decide) | exact dyn_ne (by assumption) (by decide) | fail) only [Int.reduceAdd, Int.reduceSub, Int.reduceNeg, ii_add, ii_sub, ii_mul, ii_lt, ii_le, ii_eq, ixn_ii, ixo_ii, rem_ii, nb_1, nb_0, nb_bb, bb_0, hI_gv, Int.toNat_of_nonneg, Int.cast_ofNat_Int, ht_sI, ht_sJ, ht_sR, hn_sI, hn_sJ, hn_sR, hR_sI, hR_sJ, kI_v, kV_v, kJ_v, true_and, and_true, forall_eq, tg, ln, rf, ne_eq, not_false_eq_true, forall_const, not_true_eq_false, false_implies, k0, ka, kb, kc, kd, ke, kf, kg, kh, ha, hb, hc, la, lb, lc, i64_ii, jj_mul, jj_add]
      refine ⟨fun g2 => ⟨by omega, ?_⟩, fun g2 => ⟨by omega, ?_⟩⟩
      · rw [g2] at q
        exact k_print_42 ok c v h1 h2 n _ (k + 1) (by omega) (by omega) q
      · rw [Bool.not_eq_false] at g2
        rw [g2] at q
        exact k_print_42 ok c v h1 h2 n _ (k + 1) (by omega) (by omega) q
    · obtain rfl : n = 0 := by omega
      exact q
theorem k_print_4 (ok : tr_ok E) (c : kst ad h m one two H L) (v : vok m one two H L) : ∀ (n : Nat) (x p : Int), p + n = m 106 → 0 ≤ p → Q (.inl (some (.inr (.inl (jj (prP m two x p n)))))) h → tr_G E 101 Q 4 [some (.inr (.inr (ad 1))), some (.inr (.inl (jj x))), none, some (.inl (ii p)), none, none, none] [] h 0 0
  | n, x, p, hk, h1, q => by
    refine T_X7_print_4 ok ?_
    have s0 := c.1
    obtain ⟨c0, n', c2, c3, c4, c5⟩ := id c.2
    have vm := v_m v
    simp (disch := first | omega | decide | assumption | exact st_ne s0 (by decide) (by decide) (by decide) | exact dyn_ne (by assumption) (by decide) | fail) only [Int.reduceAdd, Int.reduceSub, Int.reduceNeg, ii_add, ii_sub, ii_mul, ii_lt, ii_le, ii_eq, ixn_ii, ixo_ii, rem_ii, nb_1, nb_0, nb_bb, bb_0, hI_gv, Int.toNat_of_nonneg, Int.cast_ofNat_Int, ht_sI, ht_sJ, ht_sR, hn_sI, hn_sJ, hn_sR, hR_sI, hR_sJ, kI_v, kV_v, kJ_v, true_and, and_true, forall_eq, tg, ln, rf, ne_eq, not_false_eq_true, forall_const, not_true_eq_false, false_implies, W_X7_print_4, st_t s0, c0, c2, c3, c4]
    refine ⟨fun h2 => ⟨by omega, ?_⟩, fun g => ?_⟩
    · obtain ⟨n, rfl⟩ : ∃ n', n = n' + 1 := ⟨n - 1, by omega⟩
      have pk := c5 p h1 h2
      obtain ⟨q0, q1, q2, q3, q4, q5, q6, q7⟩ := v_p v h1 h2
      obtain ⟨k0, ka, kb, kc, kd, ke, kf, kg, kh, ⟨ha, hb, hc⟩, ⟨la, lb, lc⟩, kdy⟩ := id pk
      unfold prP at q
      simp (disch := first | omega | decide | assumption | exact st_ne s0 (by decide) (by decide) (by decide) | exact dyn_ne (by assumption) (by decide) | fail) only [Int.reduceAdd, Int.reduceSub, Int.reduceNeg, ii_add, ii_sub, ii_mul, ii_lt, ii_le, ii_eq, ixn_ii, ixo_ii, rem_ii, nb_1, nb_0, nb_bb, bb_0, hI_gv, Int.toNat_of_nonneg, Int.cast_ofNat_Int, ht_sI, ht_sJ, ht_sR, hn_sI, hn_sJ, hn_sR, hR_sI, hR_sJ, kI_v, kV_v, kJ_v, true_and, and_true, forall_eq, tg, ln, rf, ne_eq, not_false_eq_true, forall_const, not_true_eq_false, false_implies, k0, kh, i64_ii, jj_mul, jj_add]
      refine k_print_42 ok c v h1 h2 (fd m p 6 + 1).toNat _ 0 (by omega) (by omega) ?_
      exact k_print_4 ok c v n _ (p + 1) (by omega) (by omega) q
    · obtain rfl : n = 0 := by omega
      exact q
theorem K_print (ok : tr_ok E) (c : kst ad h m one two H L) (v : vok m one two H L) (q : Q (.inl (some (.inr (.inl (jj (prP m two 0 0 (m 106).toNat)))))) h) : tr_C E 101 [.inr (.inr (ad 1))] h Q := by
  refine T_X7_print ok ?_
  have vm := v_m v
  exact k_print_4 ok c v (m 106).toNat 0 0 (by omega) (by omega) q
theorem c_print_37 (ok : tr_ok E) (s : mst ad h m one two H L) (v : vok m one two H L) {p : Int} (h1 : 0 ≤ p) (h2 : p < m 106) : ∀ (n : Nat) (x k : Int), k + n = fd m p 6 + 1 → 0 ≤ k → tr_G E 204 Q 9 [some (.inr (.inr (ad 23))), some (.inr (.inl (jj (prK m two p x k n)))), none, some (.inl (ii (p + 1))), none] [] h 0 0 → tr_G E 204 Q 37 [some (.inr (.inr (ad 23))), some (.inr (.inl (jj x))), none, some (.inl (ii p)), some (.inl (ii k))] [] h 0 0
  | n, x, k, hk, g0', q => by
    refine T_X8_print_37 ok ?_
    have vm := v_m v
    have vH := v_H v
    obtain ⟨q0, q1, q2, q3, q4, q5, q6, q7⟩ := v_p v h1 h2
    simp (disch := first | omega | decide | assumption | exact st_ne s0 (by decide) (by decide) (by decide) | exact dyn_ne (by assumption) (by decide) | fail) only [Int.reduceAdd, Int.reduceSub, Int.reduceNeg, ii_add, ii_sub, ii_mul, ii_lt, ii_le, ii_eq, ixn_ii, ixo_ii, rem_ii, nb_1, nb_0, nb_bb, bb_0, hI_gv, Int.toNat_of_nonneg, Int.cast_ofNat_Int, ht_sI, ht_sJ, ht_sR, hn_sI, hn_sJ, hn_sR, hR_sI, hR_sJ, kI_v, kV_v, kJ_v, true_and, and_true, forall_eq, tg, ln, rf, ne_eq, not_false_eq_true, forall_const, not_true_eq_false, false_implies, W_X8_print_37, st_t s.1]
    refine c_of ok s h1 (by omega) (by omega) (by omega) ?_
    simp (disch := first | omega | decide | assumption | exact st_ne s0 (by decide) (by decide) (by decide) | exact dyn_ne (by assumption) (by decide) | fail) only [Int.reduceAdd, Int.reduceSub, Int.reduceNeg, ii_add, ii_sub, ii_mul, ii_lt, ii_le, ii_eq, ixn_ii, ixo_ii, rem_ii, nb_1, nb_0, nb_bb, bb_0, hI_gv, Int.toNat_of_nonneg, Int.cast_ofNat_Int, ht_sI, ht_sJ, ht_sR, hn_sI, hn_sJ, hn_sR, hR_sI, hR_sJ, kI_v, kV_v, kJ_v, true_and, and_true, forall_eq, tg, ln, rf, ne_eq, not_false_eq_true, forall_const, not_true_eq_false, false_implies, st_t s.1]
    refine ⟨fun g => ?_, fun g => ?_⟩
    · obtain ⟨n, rfl⟩ : ∃ n', n = n' + 1 := ⟨n - 1, by omega⟩
      have hh := hop_rg (k := k) v h1 h2 g0' (by omega)
      unfold prK at q
      refine c_hopAt ok s v h1 h2 g0' (by omega) ?_
      simp (disch := first | omega | decide | assumption | exact st_ne s0 (by decide) (by decide) (by decide) | exact dyn_ne (by assumption) (by decide) | fail) only [Int.reduceAdd, Int.reduceSub, Int.reduceNeg, ii_add, ii_sub, ii_mul, ii_lt, ii_le, ii_eq, ixn_ii, ixo_ii, rem_ii, nb_1, nb_0, nb_bb, bb_0, hI_gv, Int.toNat_of_nonneg, Int.cast_ofNat_Int, ht_sI, ht_sJ, ht_sR, hn_sI, hn_sJ, hn_sR, hR_sI, hR_sJ, kI_v, kV_v, kJ_v, true_and, and_true, forall_eq, tg, ln, rf, ne_eq, not_false_eq_true, forall_const, not_true_eq_false, false_implies, st_t s.1]
      refine c_isChosen ok s v h1 h2 g0' (by omega) ?_
      simp (disch := first | omega | decide | assumption | exact st_ne s0 (by decide) (by decide) (by decide) | exact dyn_ne (by assumption) (by decide) | fail) only [Int.reduceAdd, Int.reduceSub, Int.reduceNeg, ii_add, ii_sub, ii_mul, ii_lt, ii_le, ii_eq, ixn_ii, ixo_ii, rem_ii, nb_1, nb_0, nb_bb, bb_0, hI_gv, Int.toNat_of_nonneg, Int.cast_ofNat_Int, ht_sI, ht_sJ, ht_sR, hn_sI, hn_sJ, hn_sR, hR_sI, hR_sJ, kI_v, kV_v, kJ_v, true_and, and_true, forall_eq, tg, ln, rf, ne_eq, not_false_eq_true, forall_const, not_true_eq_false, false_implies, i64_ii, jj_mul, jj_add]
      refine ⟨fun g2 => ?_, fun g2 => ?_⟩
      · rw [g2] at q
        exact c_print_37 ok s v h1 h2 n _ (k + 1) (by omega) (by omega) q
      · rw [Bool.not_eq_false] at g2
        rw [g2] at q
        exact c_print_37 ok s v h1 h2 n _ (k + 1) (by omega) (by omega) q
    · obtain rfl : n = 0 := by omega
      exact q
theorem c_print_9 (ok : tr_ok E) (s : mst ad h m one two H L) (v : vok m one two H L) : ∀ (n : Nat) (x p : Int), p + n = m 106 → 0 ≤ p → Q (.inl (some (.inr (.inl (jj (prP m two x p n)))))) h → tr_G E 204 Q 9 [some (.inr (.inr (ad 23))), some (.inr (.inl (jj x))), none, some (.inl (ii p)), none] [] h 0 0
  | n, x, p, hk, h1, q => by
    refine T_X8_print_9 ok ?_
    have vm := v_m v
    simp (disch := first | omega | decide | assumption | exact st_ne s0 (by decide) (by decide) (by decide) | exact dyn_ne (by assumption) (by decide) | fail) only [Int.reduceAdd, Int.reduceSub, Int.reduceNeg, ii_add, ii_sub, ii_mul, ii_lt, ii_le, ii_eq, ixn_ii, ixo_ii, rem_ii, nb_1, nb_0, nb_bb, bb_0, hI_gv, Int.toNat_of_nonneg, Int.cast_ofNat_Int, ht_sI, ht_sJ, ht_sR, hn_sI, hn_sJ, hn_sR, hR_sI, hR_sJ, kI_v, kV_v, kJ_v, true_and, and_true, forall_eq, tg, ln, rf, ne_eq, not_false_eq_true, forall_const, not_true_eq_false, false_implies, W_X8_print_9, st_t s.1, st_n s.1, st_r s.1, s.2.1]
    refine ⟨by omega, fun h2 => ?_, fun g => ?_⟩
    · obtain ⟨n, rfl⟩ : ∃ n', n = n' + 1 := ⟨n - 1, by omega⟩
      obtain ⟨q0, q1, q2, q3, q4, q5, q6, q7⟩ := v_p v h1 h2
      unfold prP at q
      refine c_of ok s h1 (by omega) (by omega) (by omega) ?_
      simp (disch := first | omega | decide | assumption | exact st_ne s0 (by decide) (by decide) (by decide) | exact dyn_ne (by assumption) (by decide) | fail) only [Int.reduceAdd, Int.reduceSub, Int.reduceNeg, ii_add, ii_sub, ii_mul, ii_lt, ii_le, ii_eq, ixn_ii, ixo_ii, rem_ii, nb_1, nb_0, nb_bb, bb_0, hI_gv, Int.toNat_of_nonneg, Int.cast_ofNat_Int, ht_sI, ht_sJ, ht_sR, hn_sI, hn_sJ, hn_sR, hR_sI, hR_sJ, kI_v, kV_v, kJ_v, true_and, and_true, forall_eq, tg, ln, rf, ne_eq, not_false_eq_true, forall_const, not_true_eq_false, false_implies, i64_ii, jj_mul, jj_add]
      refine c_print_37 ok s v h1 h2 (fd m p 6 + 1).toNat _ 0 (by omega) (by omega) ?_
      exact c_print_9 ok s v n _ (p + 1) (by omega) (by omega) q
    · obtain rfl : n = 0 := by omega
      exact q
theorem M_print (ok : tr_ok E) (s : mst ad h m one two H L) (v : vok m one two H L) (q : ∀ h', mpo ad h 0 0 h' → Q (.inl (some (.inr (.inl (jj (prP m two 0 0 (m 106).toNat)))))) h') : tr_C E 204 [.inr (.inr (ad 23))] h Q := by
  refine T_X8_print ok ?_
  have ms := m_start s.1
  have s1 := mst_q s ms.1
  have vm := v_m v
  simp (disch := first | omega | decide | assumption | exact st_ne s0 (by decide) (by decide) (by decide) | exact dyn_ne (by assumption) (by decide) | fail) only [Int.reduceAdd, Int.reduceSub, Int.reduceNeg, ii_add, ii_sub, ii_mul, ii_lt, ii_le, ii_eq, ixn_ii, ixo_ii, rem_ii, nb_1, nb_0, nb_bb, bb_0, hI_gv, Int.toNat_of_nonneg, Int.cast_ofNat_Int, ht_sI, ht_sJ, ht_sR, hn_sI, hn_sJ, hn_sR, hR_sI, hR_sJ, kI_v, kV_v, kJ_v, true_and, and_true, forall_eq, tg, ln, rf, ne_eq, not_false_eq_true, forall_const, not_true_eq_false, false_implies, W_X8_print, st_t s.1]
  exact c_print_9 ok s1 v (m 106).toNat 0 0 (by omega) (by omega) (q _ ms)
/-- unlike -/
def unS (l n : Int) (b : Bool) : Int64 := frc (jj (unU l 1 0 n.toNat)) (jj (unD l 1 n.toNat)) b
theorem unD_n0 {l n : Int} (h1 : 2 ≤ l) (h2 : l ≤ 64) (h3 : 0 ≤ n) (h4 : n ≤ 10) : ¬ jj (unD l 1 n.toNat) = jj 0 := by
  have hp : (64 : Int) ^ n.toNat ≤ 64 ^ 10 := by
    have := Nat.pow_le_pow_right (n := 64) (by decide) (by omega : n.toNat ≤ 10)
    have e : ((64 ^ n.toNat : Nat) : Int) ≤ ((64 ^ 10 : Nat) : Int) := Int.ofNat_le.mpr this
    rw [Int.natCast_pow, Int.natCast_pow] at e
    exact e
  obtain ⟨a, b⟩ := unD_rg h1 h2 n.toNat 1 (by omega) (by omega)
  rw [jj_eq (by omega) (by omega) (by omega) (by omega)]
  omega
theorem k_unlike_42 (ok : tr_ok E) {l z : Int} {b : Bool} (h1 : 2 ≤ l) (h2 : l ≤ 64) (z2 : z ≤ 10) : ∀ (n : Nat) (w a i : Int), i + n = z → 0 ≤ i → ¬ jj (unD l a n) = jj 0 → Q (.inl (some (.inr (.inl (frc (jj (unU l w i n)) (jj (unD l a n)) b))))) h → tr_G E 97 Q 42 [none, some (.inl (ii z)), some (.inl (bb b)), some (.inr (.inl (jj l))), none, some (.inr (.inl (jj w))), none, some (.inr (.inl (jj a))), none, some (.inl (ii i))] [] h 0 0
  | n, w, a, i, hk, g0, nz, q => by
    refine T_X7_unlike_42 ok ?_
    simp (disch := first | omega | decide | assumption | exact st_ne s0 (by decide) (by decide) (by decide) | exact dyn_ne (by assumption) (by decide) | fail) only [Int.reduceAdd, Int.reduceSub, Int.reduceNeg, ii_add, ii_sub, ii_mul, ii_lt, ii_le, ii_eq, ixn_ii, ixo_ii, rem_ii, nb_1, nb_0, nb_bb, bb_0, hI_gv, Int.toNat_of_nonneg, Int.cast_ofNat_Int, ht_sI, ht_sJ, ht_sR, hn_sI, hn_sJ, hn_sR, hR_sI, hR_sJ, kI_v, kV_v, kJ_v, true_and, and_true, forall_eq, tg, ln, rf, ne_eq, not_false_eq_true, forall_const, not_true_eq_false, false_implies, W_X7_unlike_42, i64_ii, jj_mul, jj_sub]
    refine ⟨fun g => ?_, fun g => ?_⟩
    · obtain ⟨n, rfl⟩ : ∃ n', n = n' + 1 := ⟨n - 1, by omega⟩
      exact k_unlike_42 ok h1 h2 z2 n _ _ (i + 1) (by omega) (by omega) nz q
    · obtain rfl : n = 0 := by omega
      refine k_reduced ok nz ?_
      simp (disch := first | omega | decide | assumption | exact st_ne s0 (by decide) (by decide) (by decide) | exact dyn_ne (by assumption) (by decide) | fail) only [Int.reduceAdd, Int.reduceSub, Int.reduceNeg, ii_add, ii_sub, ii_mul, ii_lt, ii_le, ii_eq, ixn_ii, ixo_ii, rem_ii, nb_1, nb_0, nb_bb, bb_0, hI_gv, Int.toNat_of_nonneg, Int.cast_ofNat_Int, ht_sI, ht_sJ, ht_sR, hn_sI, hn_sJ, hn_sR, hR_sI, hR_sJ, kI_v, kV_v, kJ_v, true_and, and_true, forall_eq, tg, ln, rf, ne_eq, not_false_eq_true, forall_const, not_true_eq_false, false_implies]
      exact q
theorem K_unlike (ok : tr_ok E) (c : kst ad h m one two H L) (v : vok m one two H L) {z : Int} {b : Bool} (h3 : -2147483648 ≤ z) (h4 : z ≤ 2147483647) (q : 0 ≤ z ∧ z ≤ 10 → Q (.inl (some (.inr (.inl (unS (m 5) z b))))) h) (r : ¬ (0 ≤ z ∧ z ≤ 10) → Q (.inr 1) (rfz ad h 1)) : tr_C E 97 [.inr (.inr (ad 1)), .inl (ii z), .inl (bb b)] h Q := by
  refine T_X7_unlike ok ?_
  have s0 := c.1
  obtain ⟨c0, n, c2, c3, c4, c5⟩ := id c.2
  obtain ⟨n0, n1, n2, ⟨sa, sb, sc⟩, ⟨ea, eb, ec⟩, ⟨ua, ub, uc⟩, ⟨ra, rb, rc⟩, ⟨ga, gb, g0, g1, g2, g3, g4⟩, nd⟩ := id n
  obtain ⟨vH, vL, vl, v0, v1, v2, v3, v4, v5, vr, vm, vp⟩ := id v
  simp (disch := first | omega | decide | assumption | exact st_ne s0 (by decide) (by decide) (by decide) | exact dyn_ne (by assumption) (by decide) | fail) only [Int.reduceAdd, Int.reduceSub, Int.reduceNeg, ii_add, ii_sub, ii_mul, ii_lt, ii_le, ii_eq, ixn_ii, ixo_ii, rem_ii, nb_1, nb_0, nb_bb, bb_0, hI_gv, Int.toNat_of_nonneg, Int.cast_ofNat_Int, ht_sI, ht_sJ, ht_sR, hn_sI, hn_sJ, hn_sR, hR_sI, hR_sJ, kI_v, kV_v, kJ_v, true_and, and_true, forall_eq, tg, ln, rf, ne_eq, not_false_eq_true, forall_const, not_true_eq_false, false_implies, W_X7_unlike, st_t s0]
  refine ⟨fun g => k_req0 ok s0 (r (by omega)), fun g => ⟨fun g2 => k_req1 ok ?_, fun g2 => k_req0 ok s0 (r (by omega))⟩⟩
  simp (disch := first | omega | decide | assumption | exact st_ne s0 (by decide) (by decide) (by decide) | exact dyn_ne (by assumption) (by decide) | fail) only [Int.reduceAdd, Int.reduceSub, Int.reduceNeg, ii_add, ii_sub, ii_mul, ii_lt, ii_le, ii_eq, ixn_ii, ixo_ii, rem_ii, nb_1, nb_0, nb_bb, bb_0, hI_gv, Int.toNat_of_nonneg, Int.cast_ofNat_Int, ht_sI, ht_sJ, ht_sR, hn_sI, hn_sJ, hn_sR, hR_sI, hR_sJ, kI_v, kV_v, kJ_v, true_and, and_true, forall_eq, tg, ln, rf, ne_eq, not_false_eq_true, forall_const, not_true_eq_false, false_implies, st_t s0, c0, n0, ga, gb, g4, i64_ii, jz, jo]
  refine ⟨by omega, ?_⟩
  exact k_unlike_42 ok v5.1 v5.2 g2 z.toNat 1 1 0 (by omega) (by omega) (unD_n0 v5.1 v5.2 (by omega) g2) (q (by omega))
theorem c_unlike_31 (ok : tr_ok E) (s : mst ad h m one two H L) {z : Int} {b : Bool} (h1 : 2 ≤ m 5) (h2 : m 5 ≤ 64) (z2 : z ≤ 10) : ∀ (n : Nat) (w a i : Int), i + n = z → 0 ≤ i → (i ≤ m 5 ∨ w = 0) → ¬ jj (unD (m 5) a n) = jj 0 → Q (.inl (some (.inr (.inl (frc (jj (unU (m 5) w i n)) (jj (unD (m 5) a n)) b))))) h → tr_G E 199 Q 31 [some (.inr (.inr (ad 23))), some (.inl (ii z)), some (.inl (bb b)), some (.inr (.inl (jj w))), none, some (.inr (.inl (jj a))), none, some (.inl (ii i))] [] h 0 0
  | n, w, a, i, hk, g0, iw, nz, q => by
    refine T_X8_unlike_31 ok ?_
    simp (disch := first | omega | decide | assumption | exact st_ne s0 (by decide) (by decide) (by decide) | exact dyn_ne (by assumption) (by decide) | fail) only [Int.reduceAdd, Int.reduceSub, Int.reduceNeg, ii_add, ii_sub, ii_mul, ii_lt, ii_le, ii_eq, ixn_ii, ixo_ii, rem_ii, nb_1, nb_0, nb_bb, bb_0, hI_gv, Int.toNat_of_nonneg, Int.cast_ofNat_Int, ht_sI, ht_sJ, ht_sR, hn_sI, hn_sJ, hn_sR, hR_sI, hR_sJ, kI_v, kV_v, kJ_v, true_and, and_true, forall_eq, tg, ln, rf, ne_eq, not_false_eq_true, forall_const, not_true_eq_false, false_implies, W_X8_unlike_31, st_t s.1, st_n s.1, st_r s.1, s.2.1, i64_ii, jj_mul, jj_sub]
    refine ⟨fun g => ⟨by omega, ?_⟩, fun g => ?_⟩
    · obtain ⟨n, rfl⟩ : ∃ n', n = n' + 1 := ⟨n - 1, by omega⟩
      by_cases g3 : 0 < m 5 - i
      · simp (disch := first | omega | decide | assumption | exact st_ne s0 (by decide) (by decide) (by decide) | exact dyn_ne (by assumption) (by decide) | fail) only [Int.reduceAdd, Int.reduceSub, Int.reduceNeg, ii_add, ii_sub, ii_mul, ii_lt, ii_le, ii_eq, ixn_ii, ixo_ii, rem_ii, nb_1, nb_0, nb_bb, bb_0, hI_gv, Int.toNat_of_nonneg, Int.cast_ofNat_Int, ht_sI, ht_sJ, ht_sR, hn_sI, hn_sJ, hn_sR, hR_sI, hR_sJ, kI_v, kV_v, kJ_v, true_and, and_true, forall_eq, tg, ln, rf, ne_eq, not_false_eq_true, forall_const, not_true_eq_false, false_implies, if_pos g3, i64_ii, jj_mul]
        refine ⟨by omega, ?_⟩
        exact c_unlike_31 ok s h1 h2 z2 n _ _ (i + 1) (by omega) (by omega) (by omega) nz q
      · have e : w * (m 5 - i) = w * 0 := by
          rcases iw with e | e
          · rw [show m 5 - i = 0 by omega]
          · rw [e, Int.zero_mul, Int.zero_mul]
        simp (disch := first | omega | decide | assumption | exact st_ne s0 (by decide) (by decide) (by decide) | exact dyn_ne (by assumption) (by decide) | fail) only [Int.reduceAdd, Int.reduceSub, Int.reduceNeg, ii_add, ii_sub, ii_mul, ii_lt, ii_le, ii_eq, ixn_ii, ixo_ii, rem_ii, nb_1, nb_0, nb_bb, bb_0, hI_gv, Int.toNat_of_nonneg, Int.cast_ofNat_Int, ht_sI, ht_sJ, ht_sR, hn_sI, hn_sJ, hn_sR, hR_sI, hR_sJ, kI_v, kV_v, kJ_v, true_and, and_true, forall_eq, tg, ln, rf, ne_eq, not_false_eq_true, forall_const, not_true_eq_false, false_implies, if_neg g3, i64_ii, jj_mul]
        refine ⟨by omega, ?_⟩
        refine c_unlike_31 ok s h1 h2 z2 n _ _ (i + 1) (by omega) (by omega) (Or.inr (Int.mul_zero w)) nz ?_
        unfold unU at q
        rw [e] at q
        exact q
    · obtain rfl : n = 0 := by omega
      refine c_part ok nz ?_
      simp (disch := first | omega | decide | assumption | exact st_ne s0 (by decide) (by decide) (by decide) | exact dyn_ne (by assumption) (by decide) | fail) only [Int.reduceAdd, Int.reduceSub, Int.reduceNeg, ii_add, ii_sub, ii_mul, ii_lt, ii_le, ii_eq, ixn_ii, ixo_ii, rem_ii, nb_1, nb_0, nb_bb, bb_0, hI_gv, Int.toNat_of_nonneg, Int.cast_ofNat_Int, ht_sI, ht_sJ, ht_sR, hn_sI, hn_sJ, hn_sR, hR_sI, hR_sJ, kI_v, kV_v, kJ_v, true_and, and_true, forall_eq, tg, ln, rf, ne_eq, not_false_eq_true, forall_const, not_true_eq_false, false_implies]
      exact q
theorem M_unlike (ok : tr_ok E) (s : mst ad h m one two H L) (v : vok m one two H L) {z : Int} {b : Bool} (h3 : -2147483648 ≤ z) (h4 : z ≤ 2147483647) (q : 0 ≤ z ∧ z ≤ 10 → ∀ h', mpo ad h 0 0 h' → Q (.inl (some (.inr (.inl (unS (m 5) z b))))) h') (r : ¬ (0 ≤ z ∧ z ≤ 10) → ∀ h', mpo ad h 1 1 h' → Q (.inl (some (.inr (.inl (jj 0))))) h') : tr_C E 199 [.inr (.inr (ad 23)), .inl (ii z), .inl (bb b)] h Q := by
  refine T_X8_unlike ok ?_
  have ms := m_start s.1
  have s1 := mst_q s ms.1
  obtain ⟨vH, vL, vl, v0, v1, v2, v3, v4, v5, vr, vm, vp⟩ := id v
  simp (disch := first | omega | decide | assumption | exact st_ne s0 (by decide) (by decide) (by decide) | exact dyn_ne (by assumption) (by decide) | fail) only [Int.reduceAdd, Int.reduceSub, Int.reduceNeg, ii_add, ii_sub, ii_mul, ii_lt, ii_le, ii_eq, ixn_ii, ixo_ii, rem_ii, nb_1, nb_0, nb_bb, bb_0, hI_gv, Int.toNat_of_nonneg, Int.cast_ofNat_Int, ht_sI, ht_sJ, ht_sR, hn_sI, hn_sJ, hn_sR, hR_sI, hR_sJ, kI_v, kV_v, kJ_v, true_and, and_true, forall_eq, tg, ln, rf, ne_eq, not_false_eq_true, forall_const, not_true_eq_false, false_implies, W_X8_unlike, st_t s.1, jz, jo]
  refine c_within ok h3 h4 (by omega) (by omega) (by omega) (by omega) ?_
  simp (disch := first | omega | decide | assumption | exact st_ne s0 (by decide) (by decide) (by decide) | exact dyn_ne (by assumption) (by decide) | fail) only [Int.reduceAdd, Int.reduceSub, Int.reduceNeg, ii_add, ii_sub, ii_mul, ii_lt, ii_le, ii_eq, ixn_ii, ixo_ii, rem_ii, nb_1, nb_0, nb_bb, bb_0, hI_gv, Int.toNat_of_nonneg, Int.cast_ofNat_Int, ht_sI, ht_sJ, ht_sR, hn_sI, hn_sJ, hn_sR, hR_sI, hR_sJ, kI_v, kV_v, kJ_v, true_and, and_true, forall_eq, tg, ln, rf, ne_eq, not_false_eq_true, forall_const, not_true_eq_false, false_implies, st_t s.1]
  refine c_fineb ok s.1 ms (by omega) (by omega) (by omega) (by omega) (fun g => ?_) (fun g h' p => ?_)
  · rw [decide_eq_true_eq] at g
    simp (disch := first | omega | decide | assumption | exact st_ne s0 (by decide) (by decide) (by decide) | exact dyn_ne (by assumption) (by decide) | fail) only [Int.reduceAdd, Int.reduceSub, Int.reduceNeg, ii_add, ii_sub, ii_mul, ii_lt, ii_le, ii_eq, ixn_ii, ixo_ii, rem_ii, nb_1, nb_0, nb_bb, bb_0, hI_gv, Int.toNat_of_nonneg, Int.cast_ofNat_Int, ht_sI, ht_sJ, ht_sR, hn_sI, hn_sJ, hn_sR, hR_sI, hR_sJ, kI_v, kV_v, kJ_v, true_and, and_true, forall_eq, tg, ln, rf, ne_eq, not_false_eq_true, forall_const, not_true_eq_false, false_implies, Int.reduceEq, Int.reduceLT, Int.reduceLE, implies_true, and_self, reduceCtorEq, false_and,]
    exact c_unlike_31 ok s1 v5.1 v5.2 g.2 z.toNat 1 1 0 (by omega) (by omega) (by omega) (unD_n0 v5.1 v5.2 g.1 g.2) (q g _ ms)
  · rw [decide_eq_false_iff_not] at g
    simp (disch := first | omega | decide | assumption | exact st_ne s0 (by decide) (by decide) (by decide) | exact dyn_ne (by assumption) (by decide) | fail) only [Int.reduceAdd, Int.reduceSub, Int.reduceNeg, ii_add, ii_sub, ii_mul, ii_lt, ii_le, ii_eq, ixn_ii, ixo_ii, rem_ii, nb_1, nb_0, nb_bb, bb_0, hI_gv, Int.toNat_of_nonneg, Int.cast_ofNat_Int, ht_sI, ht_sJ, ht_sR, hn_sI, hn_sJ, hn_sR, hR_sI, hR_sJ, kI_v, kV_v, kJ_v, true_and, and_true, forall_eq, tg, ln, rf, ne_eq, not_false_eq_true, forall_const, not_true_eq_false, false_implies, Int.reduceEq, Int.reduceLT, Int.reduceLE, implies_true, and_self, reduceCtorEq, false_and,]
    exact r g h' p
end ASK5
