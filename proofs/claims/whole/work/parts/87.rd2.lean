/-! TEXT: the class's reader, words and numbers -/
section RD2
variable {E : tr_Env} {ad : Nat → Nat} {h h0 h1 : tr_H} {Q : tr_Q} {t : Int → Int} {n p : Int} {q w : Nat} {x : List Nat}
theorem wr_st (s : stat ad h) (a : wr q h h1) : stat ad h1 := ⟨s.1, fun i hi => by
  obtain ⟨a1, a2, a3, -, -⟩ := a (ad i)
  rw [a1, a2, a3]; exact s.2 i hi⟩
theorem rRd_w (r : rRd ad h q t n p) (a : wr q h h1) (e1 : gv h1 q 1 = gv h q 1) {p2 : Int} (e2 : gv h1 q 2 = p2) (p0 : 0 ≤ p2) (p1 : p2 ≤ n) : rRd ad h1 q t n p2 := by
  obtain ⟨s, c0, c1, c2, c3, c4, c5, c6, c7⟩ := r
  have d : ad 5 ≠ q := ne_tg (h := h) (by rw [c0, st_t s (by decide)]; decide)
  obtain ⟨a1, a2, a3, -, -⟩ := a q
  exact ⟨wr_st s a, a1.trans c0, by rw [a3]; exact c1, e1.trans c2, e2, fun z z0 z1 => by rw [(a (ad 5)).2.2.2.2 d]; exact c4 z z0 z1, p0, p1, c7⟩
theorem k_refuse (ok : tr_ok E) (t5 : ht h q = 5) {k w : Int} (k0 : -2147483648 ≤ k) (k1 : k ≤ 2147483647) (w0 : -2147483648 ≤ w) (w1 : w ≤ 2147483647) (f : ∀ h', wr q h h' → gv h' q = ud (ud (gv h q) 8 k) 9 w → Q (.inl (some (.inl (ii 0)))) h') : tr_C E 58 [.inr (.inr q), .inl (ii k), .inl (ii w)] h Q := by
  refine T_X4_refuse ok ?_
  have fin := f _ (wr_tr (wr_sI 8 (ii k)) (wr_sI 9 (ii w))) (by rw [gv_sIi (by omega) (by omega), gv_sIi (by omega) (by omega)]; rfl)
  simp (disch := first | omega | decide | assumption | exact st_ne s0 (by decide) (by decide) (by decide) | exact dyn_ne (by assumption) (by decide) | fail) only [Int.reduceAdd, Int.reduceSub, Int.reduceNeg, ii_add, ii_sub, ii_mul, ii_lt, ii_le, ii_eq, ixn_ii, ixo_ii, rem_ii, nb_1, nb_0, nb_bb, bb_0, hI_gv, Int.toNat_of_nonneg, Int.cast_ofNat_Int, ht_sI, ht_sJ, ht_sR, hn_sI, hn_sJ, hn_sR, hR_sI, hR_sJ, kI_v, kV_v, kJ_v, true_and, and_true, forall_eq, tg, ln, rf, ne_eq, not_false_eq_true, forall_const, not_true_eq_false, false_implies, W_X4_refuse, t5]
  exact fin
theorem k_skipL_0 (ok : tr_ok E) : ∀ (k : Nat) (h : tr_H) (p : Int), n - p ≤ k → rRd ad h q t n p → (∀ h', wr q h h' → gv h' q = ud (gv h q) 2 (skp (cL t) n p) → rRd ad h' q t n (skp (cL t) n p) → Q (.inl none) h') → tr_G E 56 Q 0 [some (.inr (.inr q))] [] h 0 0 := by
  intro k
  induction k with
  | zero =>
    intro h p hk r f
    refine T_X4_skipLetters_0 ok ?_
    obtain ⟨s, c0, c1, c2, c3, c4, c5, c6, c7⟩ := id r
    have z : skp (cL t) n p = p := skp_z (fun e => by have := e.1; omega)
    rw [z] at f
    have fin := f h wr_rfl (by rw [← c3, ud_self]) r
    simp (disch := first | omega | decide | assumption | exact st_ne s0 (by decide) (by decide) (by decide) | exact dyn_ne (by assumption) (by decide) | fail) only [Int.reduceAdd, Int.reduceSub, Int.reduceNeg, ii_add, ii_sub, ii_mul, ii_lt, ii_le, ii_eq, ixn_ii, ixo_ii, rem_ii, nb_1, nb_0, nb_bb, bb_0, hI_gv, Int.toNat_of_nonneg, Int.cast_ofNat_Int, ht_sI, ht_sJ, ht_sR, hn_sI, hn_sJ, hn_sR, hR_sI, hR_sJ, kI_v, kV_v, kJ_v, true_and, and_true, forall_eq, tg, ln, rf, ne_eq, not_false_eq_true, forall_const, not_true_eq_false, false_implies, W_X4_skipLetters_0, c0, c1, c2, c3]
    exact ⟨fun g => by omega, fun _ => fin⟩
  | succ k ih =>
    intro h p hk r f
    refine T_X4_skipLetters_0 ok ?_
    obtain ⟨s, c0, c1, c2, c3, c4, c5, c6, c7⟩ := id r
    have tb := gv_rg h (ad 5) p
    have self : ¬ (p < n ∧ cL t p = true) → Q (.inl none) h := fun g => by
      have z : skp (cL t) n p = p := skp_z g
      rw [z] at f
      exact f h wr_rfl (by rw [← c3, ud_self]) r
    simp (disch := first | omega | decide | assumption | exact st_ne s0 (by decide) (by decide) (by decide) | exact dyn_ne (by assumption) (by decide) | fail) only [Int.reduceAdd, Int.reduceSub, Int.reduceNeg, ii_add, ii_sub, ii_mul, ii_lt, ii_le, ii_eq, ixn_ii, ixo_ii, rem_ii, nb_1, nb_0, nb_bb, bb_0, hI_gv, Int.toNat_of_nonneg, Int.cast_ofNat_Int, ht_sI, ht_sJ, ht_sR, hn_sI, hn_sJ, hn_sR, hR_sI, hR_sJ, kI_v, kV_v, kJ_v, true_and, and_true, forall_eq, tg, ln, rf, ne_eq, not_false_eq_true, forall_const, not_true_eq_false, false_implies, W_X4_skipLetters_0, st_t s, st_n s, c0, c1, c2, c3]
    have cl : p < n → (cL t p = true ↔ 97 ≤ gv h (ad 5) p ∧ gv h (ad 5) p ≤ 122) := fun g => by unfold cL; rw [decide_eq_true_iff, c4 p c5 g]
    refine ⟨fun g => ⟨⟨by omega, by omega⟩, fun g2 => self (fun e => by have := (cl g).1 e.2; omega), fun g2 => ⟨⟨by omega, by omega⟩, fun g3 => ?_, fun g3 => self (fun e => by have := (cl g).1 e.2; omega)⟩⟩, fun g => self (fun e => g e.1)⟩
    have c : cL t p = true := (cl g).2 ⟨by omega, by omega⟩
    have z : skp (cL t) n p = skp (cL t) n (p + 1) := skp_s g c
    rw [z] at f
    have e1 : gv (hsI h q 2 (ii (p + 1))) q = ud (gv h q) 2 (p + 1) := gv_sIi (by omega) (by omega)
    exact ih _ (p + 1) (by omega) (rRd_p r (by omega) (by omega)) (fun h' w' e' r' => f h' (wr_tr (wr_sI _ _) w') (by rw [e', e1, ud_ud]) r')
theorem k_skipL (ok : tr_ok E) (r : rRd ad h q t n p) (f : ∀ h', wr q h h' → gv h' q = ud (gv h q) 2 (skp (cL t) n p) → rRd ad h' q t n (skp (cL t) n p) → Q (.inl none) h') : tr_C E 56 [.inr (.inr q)] h Q := by
  refine T_X4_skipLetters ok ?_
  simp (disch := first | omega | decide | assumption | exact st_ne s0 (by decide) (by decide) (by decide) | exact dyn_ne (by assumption) (by decide) | fail) only [Int.reduceAdd, Int.reduceSub, Int.reduceNeg, ii_add, ii_sub, ii_mul, ii_lt, ii_le, ii_eq, ixn_ii, ixo_ii, rem_ii, nb_1, nb_0, nb_bb, bb_0, hI_gv, Int.toNat_of_nonneg, Int.cast_ofNat_Int, ht_sI, ht_sJ, ht_sR, hn_sI, hn_sJ, hn_sR, hR_sI, hR_sJ, kI_v, kV_v, kJ_v, true_and, and_true, forall_eq, tg, ln, rf, ne_eq, not_false_eq_true, forall_const, not_true_eq_false, false_implies, W_X4_skipLetters]
  exact k_skipL_0 ok (n - p).toNat h p (by omega) r f
theorem sk_many {c : Int → Bool} {s : Int} : ∀ (k : Nat), (∀ i : Nat, i < k → s + i < n ∧ c (s + i) = true) → skp c n s = skp c n (s + k)
  | 0, _ => by rw [show s + ((0 : Nat) : Int) = s by omega]
  | k + 1, g => by
    rw [sk_many k (fun i hi => g i (by omega)), skp_s (g k (by omega)).1 (g k (by omega)).2]
    congr 1
    omega
theorem sk_all {c : Int → Bool} : ∀ (k : Nat) (s : Int), n - s ≤ k → ∀ i, s ≤ i → i < skp c n s → c i = true
  | 0, s, hk, i, h1, h2 => by
    rw [skp_z (fun e => by have := e.1; omega)] at h2; omega
  | k + 1, s, hk, i, h1, h2 => by
    by_cases g : s < n ∧ c s = true
    · by_cases e : i = s
      · rw [e]; exact g.2
      · rw [skp_s g.1 g.2] at h2
        exact sk_all k (s + 1) (by omega) i (by omega) h2
    · rw [skp_z g] at h2; omega
theorem wd_c {s : Int} (xl : ∀ i, i < x.length → 97 ≤ x.getD i 0 ∧ x.getD i 0 ≤ 122) (s1 : s ≤ n) : (skp (cL t) n s - s = x.length ∧ ∀ i : Nat, i < x.length → t (s + i) = ((x.getD i 0 : Nat) : Int)) ↔ wdB t n s x = true := by
  rw [wdB_m]
  unfold wdm
  have rg := skp_rg (cL t) n s
  constructor
  · intro g
    refine ⟨fun i hi => ⟨by omega, g.2 i hi⟩, ?_⟩
    have e : s + (x.length : Int) = skp (cL t) n s := by omega
    rw [e]; exact skp_e _ _ _
  · intro g
    refine ⟨?_, fun i hi => (g.1 i hi).2⟩
    have e := sk_many (c := cL t) (n := n) (s := s) x.length (fun i hi => ⟨(g.1 i hi).1, by
      have := xl i hi
      have := (g.1 i hi).2
      unfold cL; rw [decide_eq_true_iff]; omega⟩)
    rw [e, skp_z g.2]; omega
theorem k_isWord_17 (ok : tr_ok E) (r : rRd ad h q t n p) (b : tr_tx h w x) (x6 : x.length ≤ 6) (xl : ∀ i, i < x.length → 97 ≤ x.getD i 0 ∧ x.getD i 0 ≤ 122) {s : Int} (s0 : 0 ≤ s) (sp : s + x.length = p) (f1 : (∀ i : Nat, i < x.length → t (s + i) = ((x.getD i 0 : Nat) : Int)) → Q (.inl (some (.inl (ii 1)))) h) (f0 : ¬ (∀ i : Nat, i < x.length → t (s + i) = ((x.getD i 0 : Nat) : Int)) → Q (.inl (some (.inl (ii 0)))) h) : ∀ (k i : Nat), x.length - i ≤ k → i ≤ x.length → (∀ j : Nat, j < i → t (s + j) = ((x.getD j 0 : Nat) : Int)) → tr_G E 57 Q 17 [some (.inr (.inr q)), some (.inl (ii s)), some (.inr (.inr w)), some (.inl (ii (i : Int)))] [] h 0 0 := by
  obtain ⟨s', c0, c1, c2, c3, c4, c5, c6, c7⟩ := id r
  obtain ⟨b0, b1, b2⟩ := id b
  intro k
  induction k with
  | zero =>
    intro i hi hi2 hm
    have ei : i = x.length := by omega
    subst ei
    refine T_X4_isWord_17 ok ?_
    have fin := f1 hm
    simp (disch := first | omega | decide | assumption | exact st_ne s0 (by decide) (by decide) (by decide) | exact dyn_ne (by assumption) (by decide) | fail) only [Int.reduceAdd, Int.reduceSub, Int.reduceNeg, ii_add, ii_sub, ii_mul, ii_lt, ii_le, ii_eq, ixn_ii, ixo_ii, rem_ii, nb_1, nb_0, nb_bb, bb_0, hI_gv, Int.toNat_of_nonneg, Int.cast_ofNat_Int, ht_sI, ht_sJ, ht_sR, hn_sI, hn_sJ, hn_sR, hR_sI, hR_sJ, kI_v, kV_v, kJ_v, true_and, and_true, forall_eq, tg, ln, rf, ne_eq, not_false_eq_true, forall_const, not_true_eq_false, false_implies, W_X4_isWord_17, b0, b1, c0, c1]
    exact ⟨fun g => by omega, fun _ => fin⟩
  | succ k ih =>
    intro i hi hi2 hm
    by_cases ei : i = x.length
    · exact ih i (by omega) hi2 hm
    have il : i < x.length := by omega
    refine T_X4_isWord_17 ok ?_
    have xi := xl i il
    have bi : gv h w (i : Int) = ((x.getD i 0 : Nat) : Int) := by rw [gv_nat, b2 i il, ti_ii (by omega) (by omega)]
    have tb := gv_rg h (ad 5) (s + i)
    have tq := c4 (s + i) (by omega) (by omega)
    simp (disch := first | omega | decide | assumption | exact st_ne s0 (by decide) (by decide) (by decide) | exact dyn_ne (by assumption) (by decide) | fail) only [Int.reduceAdd, Int.reduceSub, Int.reduceNeg, ii_add, ii_sub, ii_mul, ii_lt, ii_le, ii_eq, ixn_ii, ixo_ii, rem_ii, nb_1, nb_0, nb_bb, bb_0, hI_gv, Int.toNat_of_nonneg, Int.cast_ofNat_Int, ht_sI, ht_sJ, ht_sR, hn_sI, hn_sJ, hn_sR, hR_sI, hR_sJ, kI_v, kV_v, kJ_v, true_and, and_true, forall_eq, tg, ln, rf, ne_eq, not_false_eq_true, forall_const, not_true_eq_false, false_implies, W_X4_isWord_17, b0, b1, c0, c1, st_t s', st_n s', bi]
    refine ⟨fun _ => ⟨⟨by omega, by omega⟩, ⟨by omega, by omega⟩, fun g => ?_, fun g => f0 (fun e => g (tq.trans (e i il)))⟩, fun g => by omega⟩
    exact ih (i + 1) (by omega) (by omega) (fun j hj => by
      by_cases e : j = i
      · rw [e]; exact tq.symm.trans g
      · exact hm j (by omega))
theorem k_isWord (ok : tr_ok E) {s : Int} (r : rRd ad h q t n (skp (cL t) n s)) (b : tr_tx h w x) (x6 : x.length ≤ 6) (xl : ∀ i, i < x.length → 97 ≤ x.getD i 0 ∧ x.getD i 0 ≤ 122) (s0 : 0 ≤ s) (s1 : s ≤ n) (f : Q (.inl (some (.inl (bb (wdB t n s x))))) h) : tr_C E 57 [.inr (.inr q), .inl (ii s), .inr (.inr w)] h Q := by
  refine T_X4_isWord ok ?_
  obtain ⟨s', c0, c1, c2, c3, c4, c5, c6, c7⟩ := id r
  obtain ⟨b0, b1, b2⟩ := id b
  have rg := skp_rg (cL t) n s
  have wc := wd_c (t := t) (n := n) (x := x) xl s1
  have n0 : ¬ (wdB t n s x = true) → Q (.inl (some (.inl (ii 0)))) h := fun g => by
    rw [eq_false_of_ne_true g] at f; exact f
  simp (disch := first | omega | decide | assumption | exact st_ne s0 (by decide) (by decide) (by decide) | exact dyn_ne (by assumption) (by decide) | fail) only [Int.reduceAdd, Int.reduceSub, Int.reduceNeg, ii_add, ii_sub, ii_mul, ii_lt, ii_le, ii_eq, ixn_ii, ixo_ii, rem_ii, nb_1, nb_0, nb_bb, bb_0, hI_gv, Int.toNat_of_nonneg, Int.cast_ofNat_Int, ht_sI, ht_sJ, ht_sR, hn_sI, hn_sJ, hn_sR, hR_sI, hR_sJ, kI_v, kV_v, kJ_v, true_and, and_true, forall_eq, tg, ln, rf, ne_eq, not_false_eq_true, forall_const, not_true_eq_false, false_implies, W_X4_isWord, b0, b1, c0, c1, c2, c3]
  refine ⟨fun g => ?_, fun g => n0 (fun e => g (wc.2 e).1)⟩
  refine k_isWord_17 ok r b x6 xl s0 (by omega) (fun g2 => ?_) (fun g2 => n0 (fun e => g2 (wc.2 e).2)) x.length 0 (by omega) (by omega) (fun j hj => by omega)
  rw [wc.1 ⟨g, g2⟩] at f; exact f
theorem k_number_14 (ok : tr_ok E) {a : Int} (a0 : 0 ≤ a) : ∀ (k : Nat) (h : tr_H) (p v : Int), n - p ≤ k → rRd ad h q t n p → gv h q 3 = a → a ≤ p → 0 ≤ v → v ≤ 100000 → (skp (cD t) n p ≠ a → ∀ h', wr q h h' → gv h' q = ud (gv h q) 2 (skp (cD t) n p) → Q (.inl (some (.inl (ii (dvp t n p v))))) h') → (skp (cD t) n p = a → ∀ h', wr q h h' → gv h' q 8 = 1 → gv h' q 9 = a → Q (.inl (some (.inl (ii (-1))))) h') → tr_G E 53 Q 14 [some (.inr (.inr q)), some (.inl (ii v))] [] h 0 0 := by
  intro k
  induction k with
  | zero =>
    intro h p v hk r e3 ap v0 v1 f0 f1
    refine T_X4_readNumber_14 ok ?_
    obtain ⟨s, c0, c1, c2, c3, c4, c5, c6, c7⟩ := id r
    have z : skp (cD t) n p = p := skp_z (fun e => by have := e.1; omega)
    have z2 : dvp t n p v = v := dvp_z (fun e => by have := e.1; omega)
    rw [z] at f0 f1
    rw [z2] at f0
    simp (disch := first | omega | decide | assumption | exact st_ne s0 (by decide) (by decide) (by decide) | exact dyn_ne (by assumption) (by decide) | fail) only [Int.reduceAdd, Int.reduceSub, Int.reduceNeg, ii_add, ii_sub, ii_mul, ii_lt, ii_le, ii_eq, ixn_ii, ixo_ii, rem_ii, nb_1, nb_0, nb_bb, bb_0, hI_gv, Int.toNat_of_nonneg, Int.cast_ofNat_Int, ht_sI, ht_sJ, ht_sR, hn_sI, hn_sJ, hn_sR, hR_sI, hR_sJ, kI_v, kV_v, kJ_v, true_and, and_true, forall_eq, tg, ln, rf, ne_eq, not_false_eq_true, forall_const, not_true_eq_false, false_implies, W_X4_readNumber_14, c0, c1, c2, c3, e3]
    refine ⟨fun g => by omega, fun _ => ⟨fun g => ?_, fun g => f0 g h wr_rfl (by rw [← c3, ud_self])⟩⟩
    refine k_refuse ok c0 (by omega) (by omega) (by omega) (by omega) (fun h' w' e' => ?_)
    exact f1 g h' w' (by rw [e', ud_ne (by decide)]; exact ud_eq _ _ _) (by rw [e', ud_eq]; exact g)
  | succ k ih =>
    intro h p v hk r e3 ap v0 v1 f0 f1
    refine T_X4_readNumber_14 ok ?_
    obtain ⟨s, c0, c1, c2, c3, c4, c5, c6, c7⟩ := id r
    have tb := gv_rg h (ad 5) p
    have self0 : ¬ (p < n ∧ cD t p = true) → ¬ p = a → Q (.inl (some (.inl (ii v)))) h := fun g ge => by
      have z : skp (cD t) n p = p := skp_z g
      have z2 : dvp t n p v = v := dvp_z g
      rw [z, z2] at f0
      exact f0 ge h wr_rfl (by rw [← c3, ud_self])
    have self1 : ¬ (p < n ∧ cD t p = true) → p = a → tr_C E 58 [.inr (.inr q), .inl (ii 1), .inl (ii p)] h (kI (fun v2 h1 => Q (.inl (some (.inl (ii (-1))))) h1) (fun E h' => Q (.inr E) h')) := fun g ge => by
      have z : skp (cD t) n p = p := skp_z g
      rw [z] at f1
      refine k_refuse ok c0 (by omega) (by omega) (by omega) (by omega) (fun h' w' e' => ?_)
      exact f1 ge h' w' (by rw [e', ud_ne (by decide)]; exact ud_eq _ _ _) (by rw [e', ud_eq]; exact ge)
    simp (disch := first | omega | decide | assumption | exact st_ne s0 (by decide) (by decide) (by decide) | exact dyn_ne (by assumption) (by decide) | fail) only [Int.reduceAdd, Int.reduceSub, Int.reduceNeg, ii_add, ii_sub, ii_mul, ii_lt, ii_le, ii_eq, ixn_ii, ixo_ii, rem_ii, nb_1, nb_0, nb_bb, bb_0, hI_gv, Int.toNat_of_nonneg, Int.cast_ofNat_Int, ht_sI, ht_sJ, ht_sR, hn_sI, hn_sJ, hn_sR, hR_sI, hR_sJ, kI_v, kV_v, kJ_v, true_and, and_true, forall_eq, tg, ln, rf, ne_eq, not_false_eq_true, forall_const, not_true_eq_false, false_implies, W_X4_readNumber_14, st_t s, st_n s, c0, c1, c2, c3, e3]
    have cl : p < n → (cD t p = true ↔ 48 ≤ gv h (ad 5) p ∧ gv h (ad 5) p ≤ 57) := fun g => by unfold cD; rw [decide_eq_true_iff, c4 p c5 g]
    refine ⟨fun g => ⟨⟨by omega, by omega⟩, fun g2 => ?_, fun g2 => ⟨⟨by omega, by omega⟩, fun g3 => ?_, fun g3 => ?_⟩⟩, fun g => ?_⟩
    · have nc : ¬ (p < n ∧ cD t p = true) := fun e => by have := (cl g).1 e.2; omega
      exact ⟨fun ge => self1 nc ge, fun ge => self0 nc ge⟩
    · have c : cD t p = true := (cl g).2 ⟨by omega, by omega⟩
      have tp := c4 p c5 g
      rw [tp] at g2 g3 tb ⊢
      refine ⟨⟨by omega, by omega⟩, ?_⟩
      have ev : (if ii 100000 < ii (10 * v + t p - 48) then ii 100000 else ii (10 * v + t p - 48)) = ii (if 100000 < 10 * v + t p - 48 then 100000 else 10 * v + t p - 48) := by
        have eq := ii_lt (a := 100000) (b := 10 * v + t p - 48) (by omega) (by omega) (by omega) (by omega)
        by_cases e : 100000 < 10 * v + t p - 48
        · rw [if_pos (eq.mpr e), if_pos e]
        · rw [if_neg (fun k => e (eq.mp k)), if_neg e]
      rw [ev]
      rw [skp_s g c] at f0 f1
      rw [dvp_s g c] at f0
      have e1 : gv (hsI h q 2 (ii (p + 1))) q = ud (gv h q) 2 (p + 1) := gv_sIi (by omega) (by omega)
      exact ih _ (p + 1) _ (by omega) (rRd_p r (by omega) (by omega)) (by rw [e1, ud_ne (by decide)]; exact e3) (by omega) (by split <;> omega) (by split <;> omega) (fun gg h' w' e' => f0 gg h' (wr_tr (wr_sI _ _) w') (by rw [e', e1, ud_ud])) (fun gg h' w' e' e'' => f1 gg h' (wr_tr (wr_sI _ _) w') e' e'')
    · have nc : ¬ (p < n ∧ cD t p = true) := fun e => by have := (cl g).1 e.2; omega
      exact ⟨fun ge => self1 nc ge, fun ge => self0 nc ge⟩
    · have nc : ¬ (p < n ∧ cD t p = true) := fun e => g e.1
      exact ⟨fun ge => self1 nc ge, fun ge => self0 nc ge⟩
theorem k_number (ok : tr_ok E) (r : rRd ad h q t n p) (f0 : nD t n p → ∀ h', wr q h h' → gv h' q = ud (ud (gv h q) 3 (bl t n p)) 2 (nE t n p) → Q (.inl (some (.inl (ii (nV t n p))))) h') (f1 : ¬ nD t n p → ∀ h', wr q h h' → gv h' q 8 = 1 → gv h' q 9 = bl t n p → Q (.inl (some (.inl (ii (-1))))) h') : tr_C E 53 [.inr (.inr q)] h Q := by
  refine T_X4_readNumber ok ?_
  obtain ⟨s, c0, c1, c2, c3, c4, c5, c6, c7⟩ := id r
  refine ⟨c0, k_skipB ok r (fun h1 w1 e1 r1 => ?_)⟩
  obtain ⟨s1, d0, d1, d2, d3, d4, d5, d6, d7⟩ := id r1
  have w2 := wr_tr w1 (wr_sI (h := h1) 3 (ii (bl t n p)))
  have e2 : gv (hsI h1 q 3 (ii (bl t n p))) q = ud (ud (gv h q) 2 (bl t n p)) 3 (bl t n p) := by rw [gv_sIi (by omega) (by omega), e1]; rfl
  have r2 : rRd ad (hsI h1 q 3 (ii (bl t n p))) q t n (bl t n p) := rRd_w r w2 (by rw [e2, ud_ne (by decide), ud_ne (by decide)]) (by rw [e2, ud_ne (by decide), ud_eq]) d5 d6
  simp (disch := first | omega | decide | assumption | exact st_ne s0 (by decide) (by decide) (by decide) | exact dyn_ne (by assumption) (by decide) | fail) only [Int.reduceAdd, Int.reduceSub, Int.reduceNeg, ii_add, ii_sub, ii_mul, ii_lt, ii_le, ii_eq, ixn_ii, ixo_ii, rem_ii, nb_1, nb_0, nb_bb, bb_0, hI_gv, Int.toNat_of_nonneg, Int.cast_ofNat_Int, ht_sI, ht_sJ, ht_sR, hn_sI, hn_sJ, hn_sR, hR_sI, hR_sJ, kI_v, kV_v, kJ_v, true_and, and_true, forall_eq, tg, ln, rf, ne_eq, not_false_eq_true, forall_const, not_true_eq_false, false_implies, d0, d3]
  refine k_number_14 ok d5 (n - bl t n p).toNat _ (bl t n p) 0 (by omega) r2 (by rw [e2, ud_eq]) (by omega) (by omega) (by omega) (fun g h' w' e' => ?_) (fun g h' w' e8 e9 => ?_)
  · have nd : nD t n p := by
      by_cases c : nD t n p
      · exact c
      · exact absurd (skp_z c) g
    refine f0 nd h' (wr_tr w2 w') ?_
    rw [e', e2]
    unfold nE
    funext z
    unfold ud
    by_cases z2 : z = 2
    · rw [if_pos z2, if_pos z2]
    · rw [if_neg z2, if_neg z2]
      by_cases z3 : z = 3
      · rw [if_pos z3, if_neg z2]
      · rw [if_neg z3, if_neg z2]
  · have nd : ¬ nD t n p := fun c => by
      have := skp_s c.1 c.2
      have := (skp_rg (cD t) n (bl t n p + 1)).1
      omega
    exact f1 nd h' (wr_tr w2 w') e8 e9
end RD2
