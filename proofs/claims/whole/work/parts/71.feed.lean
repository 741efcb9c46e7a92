/-! FEED: the tapes -/
def pb (x j : Int) : Int := (tr_by (tr_by (ii x >>> (ii j &&& 31)))).toInt
def put4 (t : Int → Int) (n x : Int) : Int → Int := ud (ud (ud (ud t n (pb x 24)) (n + 1) (pb x 16)) (n + 1 + 1) (pb x 8)) (n + 1 + 1 + 1) (pb x 0)
def put20 (t : Int → Int) (n a b c d e : Int) : Int → Int := put4 (put4 (put4 (put4 (put4 t n a) (n + 4) b) (n + 8) c) (n + 12) d) (n + 16) e
def pF (i : Nat) : Bool := Nat.beq i 1 || Nat.beq i 5
theorem pF_lt (j : Nat) (h : pF j = true) : j < 42 := by
  unfold pF at h
  simp only [Bool.or_eq_true, Nat.beq_eq] at h
  omega
def pTF (i : Nat) : Bool := Nat.beq i 32
def fTF (z : Int) : Bool := decide (z = 0) || decide (z = 14)
theorem pTF_lt (j : Nat) (h : pTF j = true) : j < 42 := by
  unfold pTF at h
  rw [Nat.beq_eq] at h
  omega
theorem ud_ud (g : Int → Int) (k a b : Int) : ud (ud g k a) k b = ud g k b := by
  funext z
  by_cases e : z = k
  · subst e; rw [ud_eq, ud_eq]
  · rw [ud_ne e, ud_ne e, ud_ne e]
section FE
variable {E : tr_Env} {ad : Nat → Nat} {h h0 : tr_H} {Q : tr_Q} {m one two : Int → Int} {H L n x a b c d e : Int}
theorem k_put1 (ok : tr_ok E) (s : stat ad h) (hn1 : gv h (ad 1) 1 = n) (n0 : 0 ≤ n) (n1 : n < 400) (j : Int) (j0 : 0 ≤ j) (j1 : j ≤ 24) (q : ∀ h', fr ad pF f0 false h h' → gv h' (ad 5) = ud (gv h (ad 5)) n (pb x j) → gv h' (ad 1) = ud (gv h (ad 1)) 1 (n + 1) → tr_G E 106 Q 3 [some (.inr (.inr (ad 1))), some (.inl (ii x)), some (.inl (ii (j - 8)))] [] h' 0 0) : tr_G E 106 Q 3 [some (.inr (.inr (ad 1))), some (.inl (ii x)), some (.inl (ii j))] [] h 0 0 := by
  refine T_X7_putOnTape_3 ok ?_
  simp (disch := first | omega | decide | assumption | exact st_ne s0 (by decide) (by decide) (by decide) | exact dyn_ne (by assumption) (by decide) | fail) only [Int.reduceAdd, Int.reduceSub, Int.reduceNeg, ii_add, ii_sub, ii_mul, ii_lt, ii_le, ii_eq, ixn_ii, ixo_ii, rem_ii, nb_1, nb_0, nb_bb, bb_0, hI_gv, Int.toNat_of_nonneg, Int.cast_ofNat_Int, ht_sI, ht_sJ, ht_sR, hn_sI, hn_sJ, hn_sR, hR_sI, hR_sJ, kI_v, kV_v, kJ_v, true_and, and_true, forall_eq, tg, ln, rf, ne_eq, not_false_eq_true, forall_const, not_true_eq_false, false_implies, W_X7_putOnTape_3, st_t s, st_n s, st_r s, hn1]
  refine ⟨fun k => by omega, fun _ => ⟨fun _ => ⟨⟨n0, n1⟩, ?_⟩, fun k => by omega⟩⟩
  have e5 : gv (hsI h (ad 5) n.toNat (tr_by (tr_by (ii x >>> (ii j &&& 31))))) (ad 1) = gv h (ad 1) := gv_sIn (st_ne s (by decide) (by decide) (by decide))
  rw [e5, hn1, show j + -8 = j - 8 by omega]
  refine q _ (fr_sI (fr_sI fr_rfl rfl) rfl) ?_ ?_
  · rw [gv_sIn (st_ne s (by decide) (by decide) (by decide)), gv_sI, Int.toNat_of_nonneg n0]
    rfl
  · rw [gv_sIi (by omega) (by omega), e5]
    rfl
theorem k_put (ok : tr_ok E) (s : stat ad h) (hn1 : gv h (ad 1) 1 = n) (n0 : 0 ≤ n) (n1 : n + 4 ≤ 400) (q : ∀ h', fr ad pF f0 false h h' → gv h' (ad 5) = put4 (gv h (ad 5)) n x → gv h' (ad 1) = ud (gv h (ad 1)) 1 (n + 4) → Q (.inl none) h') : tr_C E 106 [.inr (.inr (ad 1)), .inl (ii x)] h Q := by
  refine T_X7_putOnTape ok ?_
  simp (disch := first | omega | decide | assumption | exact st_ne s0 (by decide) (by decide) (by decide) | exact dyn_ne (by assumption) (by decide) | fail) only [Int.reduceAdd, Int.reduceSub, Int.reduceNeg, ii_add, ii_sub, ii_mul, ii_lt, ii_le, ii_eq, ixn_ii, ixo_ii, rem_ii, nb_1, nb_0, nb_bb, bb_0, hI_gv, Int.toNat_of_nonneg, Int.cast_ofNat_Int, ht_sI, ht_sJ, ht_sR, hn_sI, hn_sJ, hn_sR, hR_sI, hR_sJ, kI_v, kV_v, kJ_v, true_and, and_true, forall_eq, tg, ln, rf, ne_eq, not_false_eq_true, forall_const, not_true_eq_false, false_implies, W_X7_putOnTape]
  refine k_put1 ok s hn1 n0 (by omega) 24 (by omega) (by omega) (fun h1 f1 t1 g1 => ?_)
  have s1 := st_fr s f1
  refine k_put1 ok s1 (by rw [g1, ud_eq]) (by omega) (by omega) 16 (by omega) (by omega) (fun h2 f2 t2 g2 => ?_)
  have s2 := st_fr s1 f2
  refine k_put1 ok s2 (by rw [g2, ud_eq]) (by omega) (by omega) 8 (by omega) (by omega) (fun h3 f3 t3 g3 => ?_)
  have s3 := st_fr s2 f3
  refine k_put1 ok s3 (by rw [g3, ud_eq]) (by omega) (by omega) 0 (by omega) (by omega) (fun h4 f4 t4 g4 => ?_)
  refine T_X7_putOnTape_3 ok ?_
  simp (disch := first | omega | decide | assumption | exact st_ne s0 (by decide) (by decide) (by decide) | exact dyn_ne (by assumption) (by decide) | fail) only [Int.reduceAdd, Int.reduceSub, Int.reduceNeg, ii_add, ii_sub, ii_mul, ii_lt, ii_le, ii_eq, ixn_ii, ixo_ii, rem_ii, nb_1, nb_0, nb_bb, bb_0, hI_gv, Int.toNat_of_nonneg, Int.cast_ofNat_Int, ht_sI, ht_sJ, ht_sR, hn_sI, hn_sJ, hn_sR, hR_sI, hR_sJ, kI_v, kV_v, kJ_v, true_and, and_true, forall_eq, tg, ln, rf, ne_eq, not_false_eq_true, forall_const, not_true_eq_false, false_implies, W_X7_putOnTape_3]
  refine ⟨fun _ => q h4 (fr_tr f1 (fr_tr f2 (fr_tr f3 f4))) (by rw [t4, t3, t2, t1]; rfl) (by rw [g4, g3, g2, g1, ud_ud, ud_ud, ud_ud]; congr 1; omega), fun k => by omega⟩
theorem c_put1 (ok : tr_ok E) (s : stat ad h) (hn1 : gv h (ad 23) 14 = n) (n0 : 0 ≤ n) (n1 : n < 400) (j : Int) (j0 : 0 ≤ j) (j1 : j ≤ 24) (q : ∀ h', fr ad pTF fTF false h h' → gv h' (ad 32) = ud (gv h (ad 32)) n (pb x j) → gv h' (ad 23) = ud (gv h (ad 23)) 14 (n + 1) → tr_G E 137 Q 3 [some (.inr (.inr (ad 23))), some (.inl (ii x)), some (.inl (ii (j - 8)))] [] h' 0 0) : tr_G E 137 Q 3 [some (.inr (.inr (ad 23))), some (.inl (ii x)), some (.inl (ii j))] [] h 0 0 := by
  refine T_X8_puts_3 ok ?_
  simp (disch := first | omega | decide | assumption | exact st_ne s0 (by decide) (by decide) (by decide) | exact dyn_ne (by assumption) (by decide) | fail) only [Int.reduceAdd, Int.reduceSub, Int.reduceNeg, ii_add, ii_sub, ii_mul, ii_lt, ii_le, ii_eq, ixn_ii, ixo_ii, rem_ii, nb_1, nb_0, nb_bb, bb_0, hI_gv, Int.toNat_of_nonneg, Int.cast_ofNat_Int, ht_sI, ht_sJ, ht_sR, hn_sI, hn_sJ, hn_sR, hR_sI, hR_sJ, kI_v, kV_v, kJ_v, true_and, and_true, forall_eq, tg, ln, rf, ne_eq, not_false_eq_true, forall_const, not_true_eq_false, false_implies, W_X8_puts_3, st_t s, st_n s, st_r s, hn1]
  refine ⟨fun k => by omega, fun _ => ⟨⟨n0, n1⟩, ?_⟩⟩
  have e5 : gv (hsI h (ad 32) n.toNat (tr_by (tr_by (ii x >>> (ii j &&& 31))))) (ad 23) = gv h (ad 23) := gv_sIn (st_ne s (by decide) (by decide) (by decide))
  rw [e5, hn1, show j + -8 = j - 8 by omega]
  refine q _ (fr_sF (fr_sI fr_rfl rfl) rfl) ?_ ?_
  · rw [gv_sIn (st_ne s (by decide) (by decide) (by decide)), gv_sI, Int.toNat_of_nonneg n0]
    rfl
  · rw [gv_sIi (by omega) (by omega), e5]
    rfl
theorem c_put (ok : tr_ok E) (s : stat ad h) (hn1 : gv h (ad 23) 14 = n) (n0 : 0 ≤ n) (n1 : n + 4 ≤ 400) (q : ∀ h', fr ad pTF fTF false h h' → gv h' (ad 32) = put4 (gv h (ad 32)) n x → gv h' (ad 23) = ud (gv h (ad 23)) 14 (n + 4) → Q (.inl none) h') : tr_C E 137 [.inr (.inr (ad 23)), .inl (ii x)] h Q := by
  refine T_X8_puts ok ?_
  simp (disch := first | omega | decide | assumption | exact st_ne s0 (by decide) (by decide) (by decide) | exact dyn_ne (by assumption) (by decide) | fail) only [Int.reduceAdd, Int.reduceSub, Int.reduceNeg, ii_add, ii_sub, ii_mul, ii_lt, ii_le, ii_eq, ixn_ii, ixo_ii, rem_ii, nb_1, nb_0, nb_bb, bb_0, hI_gv, Int.toNat_of_nonneg, Int.cast_ofNat_Int, ht_sI, ht_sJ, ht_sR, hn_sI, hn_sJ, hn_sR, hR_sI, hR_sJ, kI_v, kV_v, kJ_v, true_and, and_true, forall_eq, tg, ln, rf, ne_eq, not_false_eq_true, forall_const, not_true_eq_false, false_implies, W_X8_puts]
  refine c_put1 ok s hn1 n0 (by omega) 24 (by omega) (by omega) (fun h1 f1 t1 g1 => ?_)
  have s1 := st_fr s f1
  refine c_put1 ok s1 (by rw [g1, ud_eq]) (by omega) (by omega) 16 (by omega) (by omega) (fun h2 f2 t2 g2 => ?_)
  have s2 := st_fr s1 f2
  refine c_put1 ok s2 (by rw [g2, ud_eq]) (by omega) (by omega) 8 (by omega) (by omega) (fun h3 f3 t3 g3 => ?_)
  have s3 := st_fr s2 f3
  refine c_put1 ok s3 (by rw [g3, ud_eq]) (by omega) (by omega) 0 (by omega) (by omega) (fun h4 f4 t4 g4 => ?_)
  refine T_X8_puts_3 ok ?_
  simp (disch := first | omega | decide | assumption | exact st_ne s0 (by decide) (by decide) (by decide) | exact dyn_ne (by assumption) (by decide) | fail) only [Int.reduceAdd, Int.reduceSub, Int.reduceNeg, ii_add, ii_sub, ii_mul, ii_lt, ii_le, ii_eq, ixn_ii, ixo_ii, rem_ii, nb_1, nb_0, nb_bb, bb_0, hI_gv, Int.toNat_of_nonneg, Int.cast_ofNat_Int, ht_sI, ht_sJ, ht_sR, hn_sI, hn_sJ, hn_sR, hR_sI, hR_sJ, kI_v, kV_v, kJ_v, true_and, and_true, forall_eq, tg, ln, rf, ne_eq, not_false_eq_true, forall_const, not_true_eq_false, false_implies, W_X8_puts_3]
  refine ⟨fun _ => q h4 (fr_tr f1 (fr_tr f2 (fr_tr f3 f4))) (by rw [t4, t3, t2, t1]; rfl) (by rw [g4, g3, g2, g1, ud_ud, ud_ud, ud_ud]; congr 1; omega), fun k => by omega⟩
def KF (ad : Nat → Nat) (h : tr_H) (n a b c d e : Int) (h' : tr_H) : Prop := fr ad pF f0 false h h' ∧ gv h' (ad 5) = put20 (gv h (ad 5)) n a b c d e ∧ gv h' (ad 1) = ud (gv h (ad 1)) 1 (n + 20)
def MF (ad : Nat → Nat) (h : tr_H) (n a b c d e : Int) (h' : tr_H) : Prop := fr ad pTF fTF false h h' ∧ gv h' (ad 32) = put20 (gv h (ad 32)) n a b c d e ∧ gv h' (ad 23) = ud (ud (gv h (ad 23)) 0 0) 14 (n + 20)
theorem K_feed (ok : tr_ok E) (s : stat ad h) (hn1 : gv h (ad 1) 1 = n) (n0 : 0 ≤ n) (n1 : n ≤ 400) (q : n + 20 ≤ 400 → ∀ h', KF ad h n a b c d e h' → Q (.inl (some (.inl (ii (n + 20))))) h') (r : ¬ n + 20 ≤ 400 → Q (.inl (some (.inl (ii (-1))))) h) : tr_C E 73 [.inr (.inr (ad 1)), .inl (ii a), .inl (ii b), .inl (ii c), .inl (ii d), .inl (ii e)] h Q := by
  refine T_X7_feed ok ?_
  simp (disch := first | omega | decide | assumption | exact st_ne s0 (by decide) (by decide) (by decide) | exact dyn_ne (by assumption) (by decide) | fail) only [Int.reduceAdd, Int.reduceSub, Int.reduceNeg, ii_add, ii_sub, ii_mul, ii_lt, ii_le, ii_eq, ixn_ii, ixo_ii, rem_ii, nb_1, nb_0, nb_bb, bb_0, hI_gv, Int.toNat_of_nonneg, Int.cast_ofNat_Int, ht_sI, ht_sJ, ht_sR, hn_sI, hn_sJ, hn_sR, hR_sI, hR_sJ, kI_v, kV_v, kJ_v, true_and, and_true, forall_eq, tg, ln, rf, ne_eq, not_false_eq_true, forall_const, not_true_eq_false, false_implies, W_X7_feed, st_t s, hn1]
  refine ⟨fun k => ?_, fun k => r k⟩
  refine k_put ok s hn1 n0 (by omega) (fun h1 f1 t1 g1 => ?_)
  have s1 := st_fr s f1
  simp (disch := first | omega | decide | assumption | exact st_ne s0 (by decide) (by decide) (by decide) | exact dyn_ne (by assumption) (by decide) | fail) only [Int.reduceAdd, Int.reduceSub, Int.reduceNeg, ii_add, ii_sub, ii_mul, ii_lt, ii_le, ii_eq, ixn_ii, ixo_ii, rem_ii, nb_1, nb_0, nb_bb, bb_0, hI_gv, Int.toNat_of_nonneg, Int.cast_ofNat_Int, ht_sI, ht_sJ, ht_sR, hn_sI, hn_sJ, hn_sR, hR_sI, hR_sJ, kI_v, kV_v, kJ_v, true_and, and_true, forall_eq, tg, ln, rf, ne_eq, not_false_eq_true, forall_const, not_true_eq_false, false_implies, st_t s1]
  refine k_put ok s1 (by rw [g1, ud_eq]) (by omega) (by omega) (fun h2 f2 t2 g2 => ?_)
  have s2 := st_fr s1 f2
  simp (disch := first | omega | decide | assumption | exact st_ne s0 (by decide) (by decide) (by decide) | exact dyn_ne (by assumption) (by decide) | fail) only [Int.reduceAdd, Int.reduceSub, Int.reduceNeg, ii_add, ii_sub, ii_mul, ii_lt, ii_le, ii_eq, ixn_ii, ixo_ii, rem_ii, nb_1, nb_0, nb_bb, bb_0, hI_gv, Int.toNat_of_nonneg, Int.cast_ofNat_Int, ht_sI, ht_sJ, ht_sR, hn_sI, hn_sJ, hn_sR, hR_sI, hR_sJ, kI_v, kV_v, kJ_v, true_and, and_true, forall_eq, tg, ln, rf, ne_eq, not_false_eq_true, forall_const, not_true_eq_false, false_implies, st_t s2]
  refine k_put ok s2 (by rw [g2, ud_eq]) (by omega) (by omega) (fun h3 f3 t3 g3 => ?_)
  have s3 := st_fr s2 f3
  simp (disch := first | omega | decide | assumption | exact st_ne s0 (by decide) (by decide) (by decide) | exact dyn_ne (by assumption) (by decide) | fail) only [Int.reduceAdd, Int.reduceSub, Int.reduceNeg, ii_add, ii_sub, ii_mul, ii_lt, ii_le, ii_eq, ixn_ii, ixo_ii, rem_ii, nb_1, nb_0, nb_bb, bb_0, hI_gv, Int.toNat_of_nonneg, Int.cast_ofNat_Int, ht_sI, ht_sJ, ht_sR, hn_sI, hn_sJ, hn_sR, hR_sI, hR_sJ, kI_v, kV_v, kJ_v, true_and, and_true, forall_eq, tg, ln, rf, ne_eq, not_false_eq_true, forall_const, not_true_eq_false, false_implies, st_t s3]
  refine k_put ok s3 (by rw [g3, ud_eq]) (by omega) (by omega) (fun h4 f4 t4 g4 => ?_)
  have s4 := st_fr s3 f4
  simp (disch := first | omega | decide | assumption | exact st_ne s0 (by decide) (by decide) (by decide) | exact dyn_ne (by assumption) (by decide) | fail) only [Int.reduceAdd, Int.reduceSub, Int.reduceNeg, ii_add, ii_sub, ii_mul, ii_lt, ii_le, ii_eq, ixn_ii, ixo_ii, rem_ii, nb_1, nb_0, nb_bb, bb_0, hI_gv, Int.toNat_of_nonneg, Int.cast_ofNat_Int, ht_sI, ht_sJ, ht_sR, hn_sI, hn_sJ, hn_sR, hR_sI, hR_sJ, kI_v, kV_v, kJ_v, true_and, and_true, forall_eq, tg, ln, rf, ne_eq, not_false_eq_true, forall_const, not_true_eq_false, false_implies, st_t s4]
  refine k_put ok s4 (by rw [g4, ud_eq]) (by omega) (by omega) (fun h5 f5 t5 g5 => ?_)
  have s5 := st_fr s4 f5
  have e1 : gv h5 (ad 1) = ud (gv h (ad 1)) 1 (n + 20) := by rw [g5, g4, g3, g2, g1, ud_ud, ud_ud, ud_ud, ud_ud]; congr 1; omega
  have e2 : gv h5 (ad 1) 1 = n + 20 := by rw [e1, ud_eq]
  simp (disch := first | omega | decide | assumption | exact st_ne s0 (by decide) (by decide) (by decide) | exact dyn_ne (by assumption) (by decide) | fail) only [Int.reduceAdd, Int.reduceSub, Int.reduceNeg, ii_add, ii_sub, ii_mul, ii_lt, ii_le, ii_eq, ixn_ii, ixo_ii, rem_ii, nb_1, nb_0, nb_bb, bb_0, hI_gv, Int.toNat_of_nonneg, Int.cast_ofNat_Int, ht_sI, ht_sJ, ht_sR, hn_sI, hn_sJ, hn_sR, hR_sI, hR_sJ, kI_v, kV_v, kJ_v, true_and, and_true, forall_eq, tg, ln, rf, ne_eq, not_false_eq_true, forall_const, not_true_eq_false, false_implies, st_t s5, e2]
  refine q k h5 ⟨fr_tr f1 (fr_tr f2 (fr_tr f3 (fr_tr f4 f5))), ?_, e1⟩
  rw [t5, t4, t3, t2, t1]
  unfold put20
  rw [show n + 4 + 4 = n + 8 by omega, show n + 8 + 4 = n + 12 by omega, show n + 12 + 4 = n + 16 by omega]
theorem M_feed (ok : tr_ok E) (s : stat ad h) (hn1 : gv h (ad 23) 14 = n) (n0 : 0 ≤ n) (n1 : n ≤ 400) (q : n + 20 ≤ 400 → ∀ h', MF ad h n a b c d e h' → Q (.inl (some (.inl (ii (n + 20))))) h') (r : ¬ n + 20 ≤ 400 → ∀ h', mpo ad h 0 0 h' → Q (.inl (some (.inl (ii (-1))))) h') : tr_C E 136 [.inr (.inr (ad 23)), .inl (ii a), .inl (ii b), .inl (ii c), .inl (ii d), .inl (ii e)] h Q := by
  refine T_X8_feed ok ?_
  have ms := m_start s
  have e0 : gv (hsI h (ad 23) 0 (ii 0)) (ad 23) = ud (gv h (ad 23)) 0 0 := by rw [gv_sIi (by omega) (by omega)]; rfl
  have e9 : gv (hsI h (ad 23) 0 (ii 0)) (ad 23) 14 = n := by rw [e0, ud_ne (by decide)]; exact hn1
  have e5 : gv (hsI h (ad 23) 0 (ii 0)) (ad 32) = gv h (ad 32) := gv_sIn (st_ne s (by decide) (by decide) (by decide))
  have f9 : fr ad pTF fTF false h (hsI h (ad 23) 0 (ii 0)) := fr_sFs rfl
  have s9 := st_fr s f9
  simp (disch := first | omega | decide | assumption | exact st_ne s0 (by decide) (by decide) (by decide) | exact dyn_ne (by assumption) (by decide) | fail) only [Int.reduceAdd, Int.reduceSub, Int.reduceNeg, ii_add, ii_sub, ii_mul, ii_lt, ii_le, ii_eq, ixn_ii, ixo_ii, rem_ii, nb_1, nb_0, nb_bb, bb_0, hI_gv, Int.toNat_of_nonneg, Int.cast_ofNat_Int, ht_sI, ht_sJ, ht_sR, hn_sI, hn_sJ, hn_sR, hR_sI, hR_sJ, kI_v, kV_v, kJ_v, true_and, and_true, forall_eq, tg, ln, rf, ne_eq, not_false_eq_true, forall_const, not_true_eq_false, false_implies, W_X8_feed, st_t s, e9]
  refine ⟨fun k => ?_, fun k => r k _ ms⟩
  refine c_put ok s9 e9 n0 (by omega) (fun h1 f1 t1 g1 => ?_)
  have s1 := st_fr s9 f1
  simp (disch := first | omega | decide | assumption | exact st_ne s0 (by decide) (by decide) (by decide) | exact dyn_ne (by assumption) (by decide) | fail) only [Int.reduceAdd, Int.reduceSub, Int.reduceNeg, ii_add, ii_sub, ii_mul, ii_lt, ii_le, ii_eq, ixn_ii, ixo_ii, rem_ii, nb_1, nb_0, nb_bb, bb_0, hI_gv, Int.toNat_of_nonneg, Int.cast_ofNat_Int, ht_sI, ht_sJ, ht_sR, hn_sI, hn_sJ, hn_sR, hR_sI, hR_sJ, kI_v, kV_v, kJ_v, true_and, and_true, forall_eq, tg, ln, rf, ne_eq, not_false_eq_true, forall_const, not_true_eq_false, false_implies, st_t s1]
  refine c_put ok s1 (by rw [g1, ud_eq]) (by omega) (by omega) (fun h2 f2 t2 g2 => ?_)
  have s2 := st_fr s1 f2
  simp (disch := first | omega | decide | assumption | exact st_ne s0 (by decide) (by decide) (by decide) | exact dyn_ne (by assumption) (by decide) | fail) only [Int.reduceAdd, Int.reduceSub, Int.reduceNeg, ii_add, ii_sub, ii_mul, ii_lt, ii_le, ii_eq, ixn_ii, ixo_ii, rem_ii, nb_1, nb_0, nb_bb, bb_0, hI_gv, Int.toNat_of_nonneg, Int.cast_ofNat_Int, ht_sI, ht_sJ, ht_sR, hn_sI, hn_sJ, hn_sR, hR_sI, hR_sJ, kI_v, kV_v, kJ_v, true_and, and_true, forall_eq, tg, ln, rf, ne_eq, not_false_eq_true, forall_const, not_true_eq_false, false_implies, st_t s2]
  refine c_put ok s2 (by rw [g2, ud_eq]) (by omega) (by omega) (fun h3 f3 t3 g3 => ?_)
  have s3 := st_fr s2 f3
  simp (disch := first | omega | decide | assumption | exact st_ne s0 (by decide) (by decide) (by decide) | exact dyn_ne (by assumption) (by decide) | fail) only [Int.reduceAdd, Int.reduceSub, Int.reduceNeg, ii_add, ii_sub, ii_mul, ii_lt, ii_le, ii_eq, ixn_ii, ixo_ii, rem_ii, nb_1, nb_0, nb_bb, bb_0, hI_gv, Int.toNat_of_nonneg, Int.cast_ofNat_Int, ht_sI, ht_sJ, ht_sR, hn_sI, hn_sJ, hn_sR, hR_sI, hR_sJ, kI_v, kV_v, kJ_v, true_and, and_true, forall_eq, tg, ln, rf, ne_eq, not_false_eq_true, forall_const, not_true_eq_false, false_implies, st_t s3]
  refine c_put ok s3 (by rw [g3, ud_eq]) (by omega) (by omega) (fun h4 f4 t4 g4 => ?_)
  have s4 := st_fr s3 f4
  simp (disch := first | omega | decide | assumption | exact st_ne s0 (by decide) (by decide) (by decide) | exact dyn_ne (by assumption) (by decide) | fail) only [Int.reduceAdd, Int.reduceSub, Int.reduceNeg, ii_add, ii_sub, ii_mul, ii_lt, ii_le, ii_eq, ixn_ii, ixo_ii, rem_ii, nb_1, nb_0, nb_bb, bb_0, hI_gv, Int.toNat_of_nonneg, Int.cast_ofNat_Int, ht_sI, ht_sJ, ht_sR, hn_sI, hn_sJ, hn_sR, hR_sI, hR_sJ, kI_v, kV_v, kJ_v, true_and, and_true, forall_eq, tg, ln, rf, ne_eq, not_false_eq_true, forall_const, not_true_eq_false, false_implies, st_t s4]
  refine c_put ok s4 (by rw [g4, ud_eq]) (by omega) (by omega) (fun h5 f5 t5 g5 => ?_)
  have s5 := st_fr s4 f5
  have e1 : gv h5 (ad 23) = ud (ud (gv h (ad 23)) 0 0) 14 (n + 20) := by rw [g5, g4, g3, g2, g1, e0, ud_ud, ud_ud, ud_ud, ud_ud]; congr 1; omega
  have e2 : gv h5 (ad 23) 14 = n + 20 := by rw [e1, ud_eq]
  simp (disch := first | omega | decide | assumption | exact st_ne s0 (by decide) (by decide) (by decide) | exact dyn_ne (by assumption) (by decide) | fail) only [Int.reduceAdd, Int.reduceSub, Int.reduceNeg, ii_add, ii_sub, ii_mul, ii_lt, ii_le, ii_eq, ixn_ii, ixo_ii, rem_ii, nb_1, nb_0, nb_bb, bb_0, hI_gv, Int.toNat_of_nonneg, Int.cast_ofNat_Int, ht_sI, ht_sJ, ht_sR, hn_sI, hn_sJ, hn_sR, hR_sI, hR_sJ, kI_v, kV_v, kJ_v, true_and, and_true, forall_eq, tg, ln, rf, ne_eq, not_false_eq_true, forall_const, not_true_eq_false, false_implies, st_t s5, e2]
  refine q k h5 ⟨fr_tr f9 (fr_tr f1 (fr_tr f2 (fr_tr f3 (fr_tr f4 f5)))), ?_, e1⟩
  rw [t5, t4, t3, t2, t1, e5]
  unfold put20
  rw [show n + 4 + 4 = n + 8 by omega, show n + 8 + 4 = n + 12 by omega, show n + 12 + 4 = n + 16 by omega]
end FE
