/-! TEXT: words and numbers, the reference -/
def wdm (t : Int → Int) (n s : Int) (x : List Nat) : Prop := (∀ i : Nat, i < x.length → s + i < n ∧ t (s + i) = ((x.getD i 0 : Nat) : Int)) ∧ ¬ (s + (x.length : Int) < n ∧ cL t (s + (x.length : Int)) = true)
def rS (ad : Nat → Nat) (h : tr_H) (t : Int → Int) (n p : Int) : Prop := rB ad h t n p ∧ gv h (ad 23) 18 = 0
def rX (ad : Nat → Nat) (h : tr_H) (t : Int → Int) (n k w : Int) : Prop := (∃ p, rB ad h t n p) ∧ gv h (ad 23) 18 = k ∧ gv h (ad 23) 19 = w ∧ 0 < k
def rY (ad : Nat → Nat) (h : tr_H) (k w : Int) : Prop := stat ad h ∧ gv h (ad 23) 18 = k ∧ gv h (ad 23) 19 = w ∧ 0 < k
def bl (t : Int → Int) (n p : Int) : Int := skp (cB t) n p
abbrev nD (t : Int → Int) (n p : Int) : Prop := bl t n p < n ∧ cD t (bl t n p) = true
def nE (t : Int → Int) (n p : Int) : Int := skp (cD t) n (bl t n p)
def nV (t : Int → Int) (n p : Int) : Int := dvp t n (bl t n p) 0
section TX2
variable {E : tr_Env} {ad : Nat → Nat} {h h0 h1 : tr_H} {Q : tr_Q} {t : Int → Int} {n p : Int} {w : Nat} {x : List Nat}
theorem tx_fr (s : stat ad h) (f : fr ad p00 fR false h h1) (b : tr_tx h w x) : tr_tx h1 w x := by
  obtain ⟨b0, b1, b2⟩ := b
  obtain ⟨f1, f2, f3, -⟩ := f w (by rw [b0]; decide)
  have g := (f3 (fun i hi => by cases hi)).1
  refine ⟨f1.trans b0, f2.trans b1, fun k hk => ?_⟩
  rw [hI_gv, g _ (fun _ e => by rw [e, st_t s (by decide)] at b0; exact absurd b0 (by decide)), ← hI_gv]
  exact b2 k hk
theorem rB_fr (r : rB ad h t n p) (f : fr ad p00 fR false h h1) {p2 : Int} (e : gv h1 (ad 23) 16 = p2) (e0 : 0 ≤ p2) (e1 : p2 ≤ n) : rB ad h1 t n p2 := by
  obtain ⟨s, e33, e15, e16, p0, p1, n0, n1⟩ := r
  exact ⟨st_fr s f, by rw [fr_gv s f (by decide) (by decide) rfl p00_lt]; exact e33, by rw [fr_gf s f rfl p00_lt rfl]; exact e15, e, e0, e1, n0, n1⟩
theorem c_passes_7 (ok : tr_ok E) (r : rB ad h t n p) (b : tr_tx h w x) (xl : ∀ i, i < x.length → 97 ≤ x.getD i 0 ∧ x.getD i 0 ≤ 122) (x6 : x.length ≤ 6) (q : wdm t n p x → ∀ h', fr ad p00 fR false h h' → gv h' (ad 23) = ud (ud (gv h (ad 23)) 17 p) 16 (p + x.length) → Q (.inl (some (.inl (ii 1)))) h') (rr : ¬ wdm t n p x → Q (.inl (some (.inl (ii 0)))) h) : ∀ (k i : Nat), x.length - i ≤ k → i ≤ x.length → (∀ j : Nat, j < i → p + j < n ∧ t (p + j) = ((x.getD j 0 : Nat) : Int)) → tr_G E 141 Q 7 [some (.inr (.inr (ad 23))), some (.inr (.inr w)), some (.inl (ii (i : Int)))] [] h 0 0 := by
  obtain ⟨s, e33, e15, e16, p0, p1, n0, n1⟩ := id r
  obtain ⟨b0, b1, b2⟩ := id b
  intro k
  induction k with
  | zero =>
    intro i hi hi2 hm
    have ei : i = x.length := by omega
    subst ei
    refine T_X8_passes_7 ok ?_
    have f : fr ad p00 fR false h (hsI (hsI h (ad 23) 17 (ii p)) (ad 23) 16 (ii (p + x.length))) := fr_sF (fr_sFs rfl) rfl
    have e6 : gv (hsI h (ad 23) 17 (ii p)) (ad 23) 16 = p := by rw [gv_sIi (by omega) (by omega), ud_ne (by decide)]; exact e16
    simp (disch := first | omega | decide | assumption | exact st_ne s0 (by decide) (by decide) (by decide) | exact dyn_ne (by assumption) (by decide) | fail) only [Int.reduceAdd, Int.reduceSub, Int.reduceNeg, ii_add, ii_sub, ii_mul, ii_lt, ii_le, ii_eq, ixn_ii, ixo_ii, rem_ii, nb_1, nb_0, nb_bb, bb_0, hI_gv, Int.toNat_of_nonneg, Int.cast_ofNat_Int, ht_sI, ht_sJ, ht_sR, hn_sI, hn_sJ, hn_sR, hR_sI, hR_sJ, kI_v, kV_v, kJ_v, true_and, and_true, forall_eq, tg, ln, rf, ne_eq, not_false_eq_true, forall_const, not_true_eq_false, false_implies, W_X8_passes_7, st_t s, st_n s, st_r s, e33, e15, e16, b0, b1, e6]
    refine ⟨fun g => by omega, fun _ => c_isSmall ok r (by omega) (by omega) ?_⟩
    by_cases c : p + (x.length : Int) < n ∧ cL t (p + (x.length : Int)) = true
    · rw [decide_eq_true c]
      simp (disch := first | omega | decide | assumption | exact st_ne s0 (by decide) (by decide) (by decide) | exact dyn_ne (by assumption) (by decide) | fail) only [Int.reduceAdd, Int.reduceSub, Int.reduceNeg, ii_add, ii_sub, ii_mul, ii_lt, ii_le, ii_eq, ixn_ii, ixo_ii, rem_ii, nb_1, nb_0, nb_bb, bb_0, hI_gv, Int.toNat_of_nonneg, Int.cast_ofNat_Int, ht_sI, ht_sJ, ht_sR, hn_sI, hn_sJ, hn_sR, hR_sI, hR_sJ, kI_v, kV_v, kJ_v, true_and, and_true, forall_eq, tg, ln, rf, ne_eq, not_false_eq_true, forall_const, not_true_eq_false, false_implies, Int.reduceEq, Int.reduceLT, Int.reduceLE, implies_true, and_self, reduceCtorEq, false_and,]
      exact rr (fun e => e.2 c)
    · rw [decide_eq_false c]
      have fin := q ⟨hm, c⟩ _ f (by rw [gv_sIi (by omega) (by omega), gv_sIi (by omega) (by omega)]; rfl)
      simp (disch := first | omega | decide | assumption | exact st_ne s0 (by decide) (by decide) (by decide) | exact dyn_ne (by assumption) (by decide) | fail) only [Int.reduceAdd, Int.reduceSub, Int.reduceNeg, ii_add, ii_sub, ii_mul, ii_lt, ii_le, ii_eq, ixn_ii, ixo_ii, rem_ii, nb_1, nb_0, nb_bb, bb_0, hI_gv, Int.toNat_of_nonneg, Int.cast_ofNat_Int, ht_sI, ht_sJ, ht_sR, hn_sI, hn_sJ, hn_sR, hR_sI, hR_sJ, kI_v, kV_v, kJ_v, true_and, and_true, forall_eq, tg, ln, rf, ne_eq, not_false_eq_true, forall_const, not_true_eq_false, false_implies, Int.reduceEq, Int.reduceLT, Int.reduceLE, implies_true, and_self, reduceCtorEq, false_and, st_t s, e16, b0, b1, e6]
      exact fin
  | succ k ih =>
    intro i hi hi2 hm
    by_cases ei : i = x.length
    · exact ih i (by omega) hi2 hm
    have il : i < x.length := by omega
    refine T_X8_passes_7 ok ?_
    have xi := xl i il
    have bi : gv h w (i : Int) = ((x.getD i 0 : Nat) : Int) := by rw [gv_nat, b2 i il, ti_ii (by omega) (by omega)]
    have tb := gv_rg h (ad 33) (p + i)
    rw [e33] at tb
    simp (disch := first | omega | decide | assumption | exact st_ne s0 (by decide) (by decide) (by decide) | exact dyn_ne (by assumption) (by decide) | fail) only [Int.reduceAdd, Int.reduceSub, Int.reduceNeg, ii_add, ii_sub, ii_mul, ii_lt, ii_le, ii_eq, ixn_ii, ixo_ii, rem_ii, nb_1, nb_0, nb_bb, bb_0, hI_gv, Int.toNat_of_nonneg, Int.cast_ofNat_Int, ht_sI, ht_sJ, ht_sR, hn_sI, hn_sJ, hn_sR, hR_sI, hR_sJ, kI_v, kV_v, kJ_v, true_and, and_true, forall_eq, tg, ln, rf, ne_eq, not_false_eq_true, forall_const, not_true_eq_false, false_implies, W_X8_passes_7, st_t s, st_n s, st_r s, e33, e15, e16, b0, b1]
    refine ⟨fun _ => c_isSmall ok r (by omega) (by omega) ?_, fun g => by omega⟩
    have clx : ∀ y, t y = ((x.getD i 0 : Nat) : Int) → cL t y = true := fun y e => by unfold cL; rw [decide_eq_true_eq]; omega
    by_cases c : p + (i : Int) < n ∧ cL t (p + (i : Int)) = true
    · rw [decide_eq_true c]
      simp (disch := first | omega | decide | assumption | exact st_ne s0 (by decide) (by decide) (by decide) | exact dyn_ne (by assumption) (by decide) | fail) only [Int.reduceAdd, Int.reduceSub, Int.reduceNeg, ii_add, ii_sub, ii_mul, ii_lt, ii_le, ii_eq, ixn_ii, ixo_ii, rem_ii, nb_1, nb_0, nb_bb, bb_0, hI_gv, Int.toNat_of_nonneg, Int.cast_ofNat_Int, ht_sI, ht_sJ, ht_sR, hn_sI, hn_sJ, hn_sR, hR_sI, hR_sJ, kI_v, kV_v, kJ_v, true_and, and_true, forall_eq, tg, ln, rf, ne_eq, not_false_eq_true, forall_const, not_true_eq_false, false_implies, Int.reduceEq, Int.reduceLT, Int.reduceLE, implies_true, and_self, reduceCtorEq, false_and, st_t s, st_n s, st_r s, e33, e15, e16, b0, b1, bb_1, bi]
      refine ⟨⟨by omega, by omega⟩, ⟨by omega, by omega⟩, fun g => ?_, fun g => rr (fun e => g (e.1 i il).2)⟩
      exact ih (i + 1) (by omega) (by omega) (fun j hj => by
        by_cases ej : j = i
        · subst ej; exact ⟨c.1, g⟩
        · exact hm j (by omega))
    · rw [decide_eq_false c]
      simp (disch := first | omega | decide | assumption | exact st_ne s0 (by decide) (by decide) (by decide) | exact dyn_ne (by assumption) (by decide) | fail) only [Int.reduceAdd, Int.reduceSub, Int.reduceNeg, ii_add, ii_sub, ii_mul, ii_lt, ii_le, ii_eq, ixn_ii, ixo_ii, rem_ii, nb_1, nb_0, nb_bb, bb_0, hI_gv, Int.toNat_of_nonneg, Int.cast_ofNat_Int, ht_sI, ht_sJ, ht_sR, hn_sI, hn_sJ, hn_sR, hR_sI, hR_sJ, kI_v, kV_v, kJ_v, true_and, and_true, forall_eq, tg, ln, rf, ne_eq, not_false_eq_true, forall_const, not_true_eq_false, false_implies, Int.reduceEq, Int.reduceLT, Int.reduceLE, implies_true, and_self, reduceCtorEq, false_and,]
      exact rr (fun e => c ⟨(e.1 i il).1, clx _ (e.1 i il).2⟩)
theorem c_passes (ok : tr_ok E) (r : rB ad h t n p) (b : tr_tx h w x) (xl : ∀ i, i < x.length → 97 ≤ x.getD i 0 ∧ x.getD i 0 ≤ 122) (x6 : x.length ≤ 6) (q : wdm t n (bl t n p) x → ∀ h', fr ad p00 fR false h h' → gv h' (ad 23) = ud (ud (gv h (ad 23)) 17 (bl t n p)) 16 (bl t n p + x.length) → Q (.inl (some (.inl (ii 1)))) h') (rr : ¬ wdm t n (bl t n p) x → ∀ h', fr ad p00 fR false h h' → gv h' (ad 23) = ud (gv h (ad 23)) 16 (bl t n p) → Q (.inl (some (.inl (ii 0)))) h') : tr_C E 141 [.inr (.inr (ad 23)), .inr (.inr w)] h Q := by
  refine T_X8_passes ok ?_
  simp (disch := first | omega | decide | assumption | exact st_ne s0 (by decide) (by decide) (by decide) | exact dyn_ne (by assumption) (by decide) | fail) only [Int.reduceAdd, Int.reduceSub, Int.reduceNeg, ii_add, ii_sub, ii_mul, ii_lt, ii_le, ii_eq, ixn_ii, ixo_ii, rem_ii, nb_1, nb_0, nb_bb, bb_0, hI_gv, Int.toNat_of_nonneg, Int.cast_ofNat_Int, ht_sI, ht_sJ, ht_sR, hn_sI, hn_sJ, hn_sR, hR_sI, hR_sJ, kI_v, kV_v, kJ_v, true_and, and_true, forall_eq, tg, ln, rf, ne_eq, not_false_eq_true, forall_const, not_true_eq_false, false_implies, W_X8_passes, st_t r.1]
  refine c_sign ok r (fun h1 f1 g1 r1 => ?_)
  simp (disch := first | omega | decide | assumption | exact st_ne s0 (by decide) (by decide) (by decide) | exact dyn_ne (by assumption) (by decide) | fail) only [Int.reduceAdd, Int.reduceSub, Int.reduceNeg, ii_add, ii_sub, ii_mul, ii_lt, ii_le, ii_eq, ixn_ii, ixo_ii, rem_ii, nb_1, nb_0, nb_bb, bb_0, hI_gv, Int.toNat_of_nonneg, Int.cast_ofNat_Int, ht_sI, ht_sJ, ht_sR, hn_sI, hn_sJ, hn_sR, hR_sI, hR_sJ, kI_v, kV_v, kJ_v, true_and, and_true, forall_eq, tg, ln, rf, ne_eq, not_false_eq_true, forall_const, not_true_eq_false, false_implies]
  refine c_passes_7 ok r1 (tx_fr r.1 f1 b) xl x6 (fun k h' f' g' => q k h' (fr_tr f1 f') ?_) (fun k => rr k h1 f1 g1) x.length 0 (by omega) (by omega) (fun j hj => by omega)
  rw [g', g1]
  funext y
  by_cases e6 : y = 16
  · rw [e6, ud_eq, ud_eq]; rfl
  · rw [ud_ne e6, ud_ne e6]
    by_cases e7 : y = 17
    · rw [e7, ud_eq, ud_eq]; rfl
    · rw [ud_ne e7, ud_ne e7, ud_ne e6]
theorem c_number_46 (ok : tr_ok E) {lo hi : Int32} : ∀ (k : Nat) (h : tr_H) (p v : Int), n - p ≤ k → rB ad h t n p → gv h (ad 23) 18 = 0 → 0 ≤ v → v ≤ 100000 → (∀ h', fr ad p00 fR false h h' → gv h' (ad 23) = ud (gv h (ad 23)) 16 (skp (cD t) n p) → tr_G E 142 Q 130 [some (.inr (.inr (ad 23))), some (.inl lo), some (.inl hi), none, some (.inl (ii (dvp t n p v)))] [] h' 0 0) → tr_G E 142 Q 46 [some (.inr (.inr (ad 23))), some (.inl lo), some (.inl hi), none, some (.inl (ii v))] [] h 0 0 := by
  intro k
  induction k with
  | zero =>
    intro h p v hk r e18 v0 v1 q
    refine T_X8_number_46 ok ?_
    obtain ⟨s, e33, e15, e16, p0, p1, n0, n1⟩ := id r
    have z : ¬ (p < n ∧ cD t p = true) := fun e => by have := e.1; omega
    rw [skp_z z, dvp_z z] at q
    have e := q h fr_rfl (by rw [← e16, ud_self])
    simp (disch := first | omega | decide | assumption | exact st_ne s0 (by decide) (by decide) (by decide) | exact dyn_ne (by assumption) (by decide) | fail) only [Int.reduceAdd, Int.reduceSub, Int.reduceNeg, ii_add, ii_sub, ii_mul, ii_lt, ii_le, ii_eq, ixn_ii, ixo_ii, rem_ii, nb_1, nb_0, nb_bb, bb_0, hI_gv, Int.toNat_of_nonneg, Int.cast_ofNat_Int, ht_sI, ht_sJ, ht_sR, hn_sI, hn_sJ, hn_sR, hR_sI, hR_sJ, kI_v, kV_v, kJ_v, true_and, and_true, forall_eq, tg, ln, rf, ne_eq, not_false_eq_true, forall_const, not_true_eq_false, false_implies, W_X8_number_46, st_t s, st_n s, st_r s, e33, e15, e16, e18]
    exact ⟨fun g => by omega, fun g => e⟩
  | succ k ih =>
    intro h p v hk r e18 v0 v1 q
    refine T_X8_number_46 ok ?_
    obtain ⟨s, e33, e15, e16, p0, p1, n0, n1⟩ := id r
    have tb := gv_rg h (ad 33) p
    rw [e33] at tb
    have cd : cD t p = true ↔ (48 ≤ t p ∧ t p ≤ 57) := by unfold cD; exact decide_eq_true_iff
    have self : ¬ (p < n ∧ cD t p = true) → tr_G E 142 Q 130 [some (.inr (.inr (ad 23))), some (.inl lo), some (.inl hi), none, some (.inl (ii v))] [] h 0 0 := fun g => by
      rw [skp_z g, dvp_z g] at q
      exact q h fr_rfl (by rw [← e16, ud_self])
    simp (disch := first | omega | decide | assumption | exact st_ne s0 (by decide) (by decide) (by decide) | exact dyn_ne (by assumption) (by decide) | fail) only [Int.reduceAdd, Int.reduceSub, Int.reduceNeg, ii_add, ii_sub, ii_mul, ii_lt, ii_le, ii_eq, ixn_ii, ixo_ii, rem_ii, nb_1, nb_0, nb_bb, bb_0, hI_gv, Int.toNat_of_nonneg, Int.cast_ofNat_Int, ht_sI, ht_sJ, ht_sR, hn_sI, hn_sJ, hn_sR, hR_sI, hR_sJ, kI_v, kV_v, kJ_v, true_and, and_true, forall_eq, tg, ln, rf, ne_eq, not_false_eq_true, forall_const, not_true_eq_false, false_implies, W_X8_number_46, st_t s, st_n s, st_r s, e33, e15, e16, e18]
    refine ⟨fun g => ⟨⟨by omega, by omega⟩, fun g2 => self (fun e => by have := cd.1 e.2; omega), fun g2 => ⟨⟨by omega, by omega⟩, fun g3 => ⟨⟨by omega, by omega⟩, ?_⟩, fun g3 => self (fun e => by have := cd.1 e.2; omega)⟩⟩, fun g => self (fun e => g e.1)⟩
    have c : cD t p = true := cd.2 ⟨by omega, g3⟩
    have ev : (if ii 100000 < ii (10 * v + t p - 48) then ii 100000 else ii (10 * v + t p - 48)) = ii (if 100000 < 10 * v + t p - 48 then 100000 else 10 * v + t p - 48) := by
      have eq := ii_lt (a := 100000) (b := 10 * v + t p - 48) (by omega) (by omega) (by omega) (by omega)
      by_cases e : 100000 < 10 * v + t p - 48
      · rw [if_pos (eq.mpr e), if_pos e]
      · rw [if_neg (fun k => e (eq.mp k)), if_neg e]
    rw [ev]
    rw [skp_s g c, dvp_s g c] at q
    have f : fr ad p00 fR false h (hsI h (ad 23) 16 (ii (p + 1))) := fr_sFs rfl
    have e1 : gv (hsI h (ad 23) 16 (ii (p + 1))) (ad 23) = ud (gv h (ad 23)) 16 (p + 1) := gv_sIi (by omega) (by omega)
    exact ih _ (p + 1) _ (by omega) (rB_fr r f (by rw [e1, ud_eq]) (by omega) (by omega)) (by rw [e1, ud_ne (by decide)]; exact e18) (by split <;> omega) (by split <;> omega) (fun h' f' e' => q h' (fr_tr f f') (by rw [e', e1, ud_ud]))
theorem c_numberX (ok : tr_ok E) {k z : Int} {lo hi : Int32} (r : rX ad h t n k z) (q : ∀ h', fr ad p00 fR false h h' → rX ad h' t n k z → Q (.inl (some (.inl (ii 0)))) h') : tr_C E 142 [.inr (.inr (ad 23)), .inl lo, .inl hi] h Q := by
  refine T_X8_number ok ?_
  obtain ⟨⟨p, r⟩, e18, e19, k0⟩ := r
  have kb := gv_rg h (ad 23) 18
  rw [e18] at kb
  simp (disch := first | omega | decide | assumption | exact st_ne s0 (by decide) (by decide) (by decide) | exact dyn_ne (by assumption) (by decide) | fail) only [Int.reduceAdd, Int.reduceSub, Int.reduceNeg, ii_add, ii_sub, ii_mul, ii_lt, ii_le, ii_eq, ixn_ii, ixo_ii, rem_ii, nb_1, nb_0, nb_bb, bb_0, hI_gv, Int.toNat_of_nonneg, Int.cast_ofNat_Int, ht_sI, ht_sJ, ht_sR, hn_sI, hn_sJ, hn_sR, hR_sI, hR_sJ, kI_v, kV_v, kJ_v, true_and, and_true, forall_eq, tg, ln, rf, ne_eq, not_false_eq_true, forall_const, not_true_eq_false, false_implies, W_X8_number, st_t r.1]
  refine c_sign ok r (fun h1 f1 g1 r1 => ?_)
  have a18 : gv h1 (ad 23) 18 = k := by rw [g1, ud_ne (by decide)]; exact e18
  have a19 : gv h1 (ad 23) 19 = z := by rw [g1, ud_ne (by decide)]; exact e19
  simp (disch := first | omega | decide | assumption | exact st_ne s0 (by decide) (by decide) (by decide) | exact dyn_ne (by assumption) (by decide) | fail) only [Int.reduceAdd, Int.reduceSub, Int.reduceNeg, ii_add, ii_sub, ii_mul, ii_lt, ii_le, ii_eq, ixn_ii, ixo_ii, rem_ii, nb_1, nb_0, nb_bb, bb_0, hI_gv, Int.toNat_of_nonneg, Int.cast_ofNat_Int, ht_sI, ht_sJ, ht_sR, hn_sI, hn_sJ, hn_sR, hR_sI, hR_sJ, kI_v, kV_v, kJ_v, true_and, and_true, forall_eq, tg, ln, rf, ne_eq, not_false_eq_true, forall_const, not_true_eq_false, false_implies, st_t r1.1, a18]
  exact ⟨fun g => by omega, fun _ => q h1 f1 ⟨⟨_, r1⟩, a18, a19, k0⟩⟩
theorem c_number (ok : tr_ok E) (r : rS ad h t n p) {lo hi : Int} (l0 : -2147483648 ≤ lo) (l1 : lo ≤ 2147483647) (h0 : -2147483648 ≤ hi) (h1 : hi ≤ 2147483647) (q0 : nD t n p → lo ≤ nV t n p → nV t n p ≤ hi → ∀ h', fr ad p00 fR false h h' → rS ad h' t n (nE t n p) → gv h' (ad 23) 17 = bl t n p → Q (.inl (some (.inl (ii (nV t n p))))) h') (q1 : ¬ nD t n p → ∀ h', fr ad p00 fR false h h' → rX ad h' t n 1 (bl t n p) → Q (.inl (some (.inl (ii 0)))) h') (q2 : nD t n p → ¬ (lo ≤ nV t n p ∧ nV t n p ≤ hi) → ∀ h', fr ad p00 fR false h h' → rX ad h' t n 2 (bl t n p) → Q (.inl (some (.inl (ii 0)))) h') : tr_C E 142 [.inr (.inr (ad 23)), .inl (ii lo), .inl (ii hi)] h Q := by
  refine T_X8_number ok ?_
  obtain ⟨r, e18⟩ := r
  simp (disch := first | omega | decide | assumption | exact st_ne s0 (by decide) (by decide) (by decide) | exact dyn_ne (by assumption) (by decide) | fail) only [Int.reduceAdd, Int.reduceSub, Int.reduceNeg, ii_add, ii_sub, ii_mul, ii_lt, ii_le, ii_eq, ixn_ii, ixo_ii, rem_ii, nb_1, nb_0, nb_bb, bb_0, hI_gv, Int.toNat_of_nonneg, Int.cast_ofNat_Int, ht_sI, ht_sJ, ht_sR, hn_sI, hn_sJ, hn_sR, hR_sI, hR_sJ, kI_v, kV_v, kJ_v, true_and, and_true, forall_eq, tg, ln, rf, ne_eq, not_false_eq_true, forall_const, not_true_eq_false, false_implies, W_X8_number, st_t r.1]
  refine c_sign ok r (fun h1 f1 g1 r1 => ?_)
  change gv h1 (ad 23) = ud (gv h (ad 23)) 16 (bl t n p) at g1
  change rB ad h1 t n (bl t n p) at r1
  show kI _ _ (.inl (some (.inl (ii (if bl t n p < n then t (bl t n p) else 0))))) h1
  obtain ⟨s, e33, e15, e16, p0, p1, n0, n1⟩ := id r1
  have a18 : gv h1 (ad 23) 18 = 0 := by rw [g1, ud_ne (by decide)]; exact e18
  have tb := gv_rg h1 (ad 33) (bl t n p)
  rw [e33] at tb
  have cd : cD t (bl t n p) = true ↔ (48 ≤ t (bl t n p) ∧ t (bl t n p) ≤ 57) := by unfold cD; exact decide_eq_true_iff
  have f2 : fr ad p00 fR false h1 (hsI h1 (ad 23) 17 (ii (bl t n p))) := fr_sFs rfl
  have g2 : gv (hsI h1 (ad 23) 17 (ii (bl t n p))) (ad 23) = ud (gv h1 (ad 23)) 17 (bl t n p) := gv_sIi (by omega) (by omega)
  have r2 : rB ad (hsI h1 (ad 23) 17 (ii (bl t n p))) t n (bl t n p) := rB_fr r1 f2 (by rw [g2, ud_ne (by decide)]; exact e16) p0 p1
  have b18 : gv (hsI h1 (ad 23) 17 (ii (bl t n p))) (ad 23) 18 = 0 := by rw [g2, ud_ne (by decide)]; exact a18
  have b17 : gv (hsI h1 (ad 23) 17 (ii (bl t n p))) (ad 23) 17 = bl t n p := by rw [g2, ud_eq]
  have b16 := r2.2.2.2.1
  have s2 := r2.1
  have form : ¬ nD t n p → tr_C E 138 [.inr (.inr (ad 23)), .inl (ii 1), .inl (ii (bl t n p))] (hsI h1 (ad 23) 17 (ii (bl t n p))) (kV (fun h4 => tr_G E 142 Q 46 [some (.inr (.inr (ad 23))), some (.inl (ii lo)), some (.inl (ii hi)), none, some (.inl (ii 0))] [] h4 0 0) (fun E h' => Q (.inr E) h')) := fun g => by
    refine c_wrong ok s2 (by omega) (by omega) (by omega) (by omega) (fun h3 f3 g3 => ?_)
    rw [if_pos (by omega)] at g3
    have c18 : gv h3 (ad 23) 18 = 1 := by rw [g3, ud_ne (by decide), ud_eq]
    have c19 : gv h3 (ad 23) 19 = bl t n p := by rw [g3, ud_eq]
    have c16 : gv h3 (ad 23) 16 = bl t n p := by rw [g3, ud_ne (by decide), ud_ne (by decide)]; exact b16
    have r3 := rB_fr r2 f3 c16 p0 p1
    have fin := q1 g h3 (fr_tr f1 (fr_tr f2 f3)) ⟨⟨_, r3⟩, c18, c19, by decide⟩
    show tr_G E 142 Q 46 _ [] h3 0 0
    refine T_X8_number_46 ok ?_
    simp (disch := first | omega | decide | assumption | exact st_ne s0 (by decide) (by decide) (by decide) | exact dyn_ne (by assumption) (by decide) | fail) only [Int.reduceAdd, Int.reduceSub, Int.reduceNeg, ii_add, ii_sub, ii_mul, ii_lt, ii_le, ii_eq, ixn_ii, ixo_ii, rem_ii, nb_1, nb_0, nb_bb, bb_0, hI_gv, Int.toNat_of_nonneg, Int.cast_ofNat_Int, ht_sI, ht_sJ, ht_sR, hn_sI, hn_sJ, hn_sR, hR_sI, hR_sJ, kI_v, kV_v, kJ_v, true_and, and_true, forall_eq, tg, ln, rf, ne_eq, not_false_eq_true, forall_const, not_true_eq_false, false_implies, Int.reduceEq, Int.reduceLT, Int.reduceLE, implies_true, and_self, reduceCtorEq, false_and, W_X8_number_46, st_t r3.1, c18]
    refine T_X8_number_130 ok ?_
    simp (disch := first | omega | decide | assumption | exact st_ne s0 (by decide) (by decide) (by decide) | exact dyn_ne (by assumption) (by decide) | fail) only [Int.reduceAdd, Int.reduceSub, Int.reduceNeg, ii_add, ii_sub, ii_mul, ii_lt, ii_le, ii_eq, ixn_ii, ixo_ii, rem_ii, nb_1, nb_0, nb_bb, bb_0, hI_gv, Int.toNat_of_nonneg, Int.cast_ofNat_Int, ht_sI, ht_sJ, ht_sR, hn_sI, hn_sJ, hn_sR, hR_sI, hR_sJ, kI_v, kV_v, kJ_v, true_and, and_true, forall_eq, tg, ln, rf, ne_eq, not_false_eq_true, forall_const, not_true_eq_false, false_implies, Int.reduceEq, Int.reduceLT, Int.reduceLE, implies_true, and_self, reduceCtorEq, false_and, W_X8_number_130, st_t r3.1, c18]
    exact fin
  have good : nD t n p → tr_G E 142 Q 46 [some (.inr (.inr (ad 23))), some (.inl (ii lo)), some (.inl (ii hi)), none, some (.inl (ii 0))] [] (hsI h1 (ad 23) 17 (ii (bl t n p))) 0 0 := fun g => by
    refine c_number_46 ok (n - bl t n p).toNat _ (bl t n p) 0 (by omega) r2 b18 (by decide) (by decide) (fun h3 f3 g3 => ?_)
    have rg := skp_rg (cD t) n (bl t n p)
    change gv h3 (ad 23) = ud _ 16 (nE t n p) at g3
    change bl t n p ≤ nE t n p ∧ (nE t n p ≤ bl t n p ∨ nE t n p ≤ n) at rg
    show tr_G E 142 Q 130 [some (.inr (.inr (ad 23))), some (.inl (ii lo)), some (.inl (ii hi)), none, some (.inl (ii (nV t n p)))] [] h3 0 0
    have vr : 0 ≤ nV t n p ∧ nV t n p ≤ 100000 := dvp_rg t n (bl t n p)
    have r3 := rB_fr r2 f3 (p2 := nE t n p) (by rw [g3, ud_eq]) (by omega) (by omega)
    have c18 : gv h3 (ad 23) 18 = 0 := by rw [g3, ud_ne (by decide)]; exact b18
    have c17 : gv h3 (ad 23) 17 = bl t n p := by rw [g3, ud_ne (by decide)]; exact b17
    have c16 := r3.2.2.2.1
    have f13 := fr_tr f1 (fr_tr f2 f3)
    refine T_X8_number_130 ok ?_
    simp (disch := first | omega | decide | assumption | exact st_ne s0 (by decide) (by decide) (by decide) | exact dyn_ne (by assumption) (by decide) | fail) only [Int.reduceAdd, Int.reduceSub, Int.reduceNeg, ii_add, ii_sub, ii_mul, ii_lt, ii_le, ii_eq, ixn_ii, ixo_ii, rem_ii, nb_1, nb_0, nb_bb, bb_0, hI_gv, Int.toNat_of_nonneg, Int.cast_ofNat_Int, ht_sI, ht_sJ, ht_sR, hn_sI, hn_sJ, hn_sR, hR_sI, hR_sJ, kI_v, kV_v, kJ_v, true_and, and_true, forall_eq, tg, ln, rf, ne_eq, not_false_eq_true, forall_const, not_true_eq_false, false_implies, Int.reduceEq, Int.reduceLT, Int.reduceLE, implies_true, and_self, reduceCtorEq, false_and, W_X8_number_130, st_t r3.1, c18]
    refine c_within ok (by omega) (by omega) l0 l1 h0 (by omega) ?_
    by_cases c : lo ≤ nV t n p ∧ nV t n p ≤ hi
    · rw [decide_eq_true c]
      have fin := q0 g c.1 c.2 h3 f13 ⟨r3, c18⟩ c17
      simp (disch := first | omega | decide | assumption | exact st_ne s0 (by decide) (by decide) (by decide) | exact dyn_ne (by assumption) (by decide) | fail) only [Int.reduceAdd, Int.reduceSub, Int.reduceNeg, ii_add, ii_sub, ii_mul, ii_lt, ii_le, ii_eq, ixn_ii, ixo_ii, rem_ii, nb_1, nb_0, nb_bb, bb_0, hI_gv, Int.toNat_of_nonneg, Int.cast_ofNat_Int, ht_sI, ht_sJ, ht_sR, hn_sI, hn_sJ, hn_sR, hR_sI, hR_sJ, kI_v, kV_v, kJ_v, true_and, and_true, forall_eq, tg, ln, rf, ne_eq, not_false_eq_true, forall_const, not_true_eq_false, false_implies, Int.reduceEq, Int.reduceLT, Int.reduceLE, implies_true, and_self, reduceCtorEq, false_and, st_t r3.1, c18, bb_1]
      exact fin
    · rw [decide_eq_false c]
      simp (disch := first | omega | decide | assumption | exact st_ne s0 (by decide) (by decide) (by decide) | exact dyn_ne (by assumption) (by decide) | fail) only [Int.reduceAdd, Int.reduceSub, Int.reduceNeg, ii_add, ii_sub, ii_mul, ii_lt, ii_le, ii_eq, ixn_ii, ixo_ii, rem_ii, nb_1, nb_0, nb_bb, bb_0, hI_gv, Int.toNat_of_nonneg, Int.cast_ofNat_Int, ht_sI, ht_sJ, ht_sR, hn_sI, hn_sJ, hn_sR, hR_sI, hR_sJ, kI_v, kV_v, kJ_v, true_and, and_true, forall_eq, tg, ln, rf, ne_eq, not_false_eq_true, forall_const, not_true_eq_false, false_implies, Int.reduceEq, Int.reduceLT, Int.reduceLE, implies_true, and_self, reduceCtorEq, false_and, st_t r3.1, c18, c17]
      refine c_wrong ok r3.1 (by omega) (by omega) (by omega) (by omega) (fun h4 f4 g4 => ?_)
      rw [if_pos (by omega)] at g4
      have d18 : gv h4 (ad 23) 18 = 2 := by rw [g4, ud_ne (by decide), ud_eq]
      have d19 : gv h4 (ad 23) 19 = bl t n p := by rw [g4, ud_eq]
      have d16 : gv h4 (ad 23) 16 = nE t n p := by rw [g4, ud_ne (by decide), ud_ne (by decide)]; exact c16
      have r4 := rB_fr r3 f4 d16 (by omega) (by omega)
      have fin := q2 g c h4 (fr_tr f13 f4) ⟨⟨_, r4⟩, d18, d19, by decide⟩
      simp (disch := first | omega | decide | assumption | exact st_ne s0 (by decide) (by decide) (by decide) | exact dyn_ne (by assumption) (by decide) | fail) only [Int.reduceAdd, Int.reduceSub, Int.reduceNeg, ii_add, ii_sub, ii_mul, ii_lt, ii_le, ii_eq, ixn_ii, ixo_ii, rem_ii, nb_1, nb_0, nb_bb, bb_0, hI_gv, Int.toNat_of_nonneg, Int.cast_ofNat_Int, ht_sI, ht_sJ, ht_sR, hn_sI, hn_sJ, hn_sR, hR_sI, hR_sJ, kI_v, kV_v, kJ_v, true_and, and_true, forall_eq, tg, ln, rf, ne_eq, not_false_eq_true, forall_const, not_true_eq_false, false_implies, Int.reduceEq, Int.reduceLT, Int.reduceLE, implies_true, and_self, reduceCtorEq, false_and, st_t r4.1, d18]
      exact fin
  by_cases c : bl t n p < n
  · rw [if_pos c]
    simp (disch := first | omega | decide | assumption | exact st_ne s0 (by decide) (by decide) (by decide) | exact dyn_ne (by assumption) (by decide) | fail) only [Int.reduceAdd, Int.reduceSub, Int.reduceNeg, ii_add, ii_sub, ii_mul, ii_lt, ii_le, ii_eq, ixn_ii, ixo_ii, rem_ii, nb_1, nb_0, nb_bb, bb_0, hI_gv, Int.toNat_of_nonneg, Int.cast_ofNat_Int, ht_sI, ht_sJ, ht_sR, hn_sI, hn_sJ, hn_sR, hR_sI, hR_sJ, kI_v, kV_v, kJ_v, true_and, and_true, forall_eq, tg, ln, rf, ne_eq, not_false_eq_true, forall_const, not_true_eq_false, false_implies, Int.reduceEq, Int.reduceLT, Int.reduceLE, implies_true, and_self, reduceCtorEq, false_and, st_t s, a18, e16, b16]
    refine ⟨fun g => form (fun e => by have := cd.1 e.2; omega), fun g => ⟨fun g3 => good ⟨c, cd.2 ⟨by omega, g3⟩⟩, fun g3 => form (fun e => by have := cd.1 e.2; omega)⟩⟩
  · rw [if_neg c]
    simp (disch := first | omega | decide | assumption | exact st_ne s0 (by decide) (by decide) (by decide) | exact dyn_ne (by assumption) (by decide) | fail) only [Int.reduceAdd, Int.reduceSub, Int.reduceNeg, ii_add, ii_sub, ii_mul, ii_lt, ii_le, ii_eq, ixn_ii, ixo_ii, rem_ii, nb_1, nb_0, nb_bb, bb_0, hI_gv, Int.toNat_of_nonneg, Int.cast_ofNat_Int, ht_sI, ht_sJ, ht_sR, hn_sI, hn_sJ, hn_sR, hR_sI, hR_sJ, kI_v, kV_v, kJ_v, true_and, and_true, forall_eq, tg, ln, rf, ne_eq, not_false_eq_true, forall_const, not_true_eq_false, false_implies, Int.reduceEq, Int.reduceLT, Int.reduceLE, implies_true, and_self, reduceCtorEq, false_and, st_t s, a18, e16, b16]
    exact form (fun e => c e.1)
theorem c_endsX (ok : tr_ok E) {k z : Int} (r : rX ad h t n k z) (q : ∀ h', fr ad p00 fR false h h' → rY ad h' k z → Q (.inl none) h') : tr_C E 143 [.inr (.inr (ad 23))] h Q := by
  refine T_X8_ends ok ?_
  obtain ⟨⟨p, r⟩, e18, e19, k0⟩ := r
  have kb := gv_rg h (ad 23) 18
  rw [e18] at kb
  obtain ⟨s, e33, e15, e16, p0, p1, n0, n1⟩ := id r
  have f : fr ad p00 fR false h (hsI h (ad 23) 16 (ii (p + 1))) := fr_sFs rfl
  have e1 : gv (hsI h (ad 23) 16 (ii (p + 1))) (ad 23) = ud (gv h (ad 23)) 16 (p + 1) := gv_sIi (by omega) (by omega)
  simp (disch := first | omega | decide | assumption | exact st_ne s0 (by decide) (by decide) (by decide) | exact dyn_ne (by assumption) (by decide) | fail) only [Int.reduceAdd, Int.reduceSub, Int.reduceNeg, ii_add, ii_sub, ii_mul, ii_lt, ii_le, ii_eq, ixn_ii, ixo_ii, rem_ii, nb_1, nb_0, nb_bb, bb_0, hI_gv, Int.toNat_of_nonneg, Int.cast_ofNat_Int, ht_sI, ht_sJ, ht_sR, hn_sI, hn_sJ, hn_sR, hR_sI, hR_sJ, kI_v, kV_v, kJ_v, true_and, and_true, forall_eq, tg, ln, rf, ne_eq, not_false_eq_true, forall_const, not_true_eq_false, false_implies, W_X8_ends, st_t s, e18, e16]
  exact ⟨fun g => by omega, fun _ => q _ f ⟨s, by rw [e1, ud_ne (by decide)]; exact e18, by rw [e1, ud_ne (by decide)]; exact e19, k0⟩⟩
theorem c_ends (ok : tr_ok E) (r : rS ad h t n p) (q0 : bl t n p < n ∧ t (bl t n p) = 59 → ∀ h', fr ad p00 fR false h h' → rS ad h' t n (bl t n p + 1) → Q (.inl none) h') (q1 : ¬ (bl t n p < n ∧ t (bl t n p) = 59) → ∀ h', fr ad p00 fR false h h' → rY ad h' 1 (bl t n p) → Q (.inl none) h') : tr_C E 143 [.inr (.inr (ad 23))] h Q := by
  refine T_X8_ends ok ?_
  obtain ⟨r, e18⟩ := r
  simp (disch := first | omega | decide | assumption | exact st_ne s0 (by decide) (by decide) (by decide) | exact dyn_ne (by assumption) (by decide) | fail) only [Int.reduceAdd, Int.reduceSub, Int.reduceNeg, ii_add, ii_sub, ii_mul, ii_lt, ii_le, ii_eq, ixn_ii, ixo_ii, rem_ii, nb_1, nb_0, nb_bb, bb_0, hI_gv, Int.toNat_of_nonneg, Int.cast_ofNat_Int, ht_sI, ht_sJ, ht_sR, hn_sI, hn_sJ, hn_sR, hR_sI, hR_sJ, kI_v, kV_v, kJ_v, true_and, and_true, forall_eq, tg, ln, rf, ne_eq, not_false_eq_true, forall_const, not_true_eq_false, false_implies, Int.reduceEq, Int.reduceLT, Int.reduceLE, implies_true, and_self, reduceCtorEq, false_and, W_X8_ends, st_t r.1, e18]
  refine c_sign ok r (fun h1 f1 g1 r1 => ?_)
  change gv h1 (ad 23) = ud (gv h (ad 23)) 16 (bl t n p) at g1
  change rB ad h1 t n (bl t n p) at r1
  show kI _ _ (.inl (some (.inl (ii (if bl t n p < n then t (bl t n p) else 0))))) h1
  obtain ⟨s, e33, e15, e16, p0, p1, n0, n1⟩ := id r1
  have a18 : gv h1 (ad 23) 18 = 0 := by rw [g1, ud_ne (by decide)]; exact e18
  have tb := gv_rg h1 (ad 33) (bl t n p)
  rw [e33] at tb
  have bad : ¬ (bl t n p < n ∧ t (bl t n p) = 59) → tr_C E 138 [.inr (.inr (ad 23)), .inl (ii 1), .inl (ii (bl t n p))] h1 (kV (fun h6 => ht h6 (ad 23) = 9 ∧ (ht h6 (ad 23) = 9 ∧ ∀ h7 : tr_H, h7 = hsI h6 (ad 23) 16 ((hI h6 (ad 23) 16) + (ii 1)) → (Q (.inl none) h7))) (fun E h' => Q (.inr E) h')) := fun g => by
    refine c_wrong ok s (by omega) (by omega) (by omega) (by omega) (fun h3 f3 g3 => ?_)
    rw [if_pos (by omega)] at g3
    have c18 : gv h3 (ad 23) 18 = 1 := by rw [g3, ud_ne (by decide), ud_eq]
    have c19 : gv h3 (ad 23) 19 = bl t n p := by rw [g3, ud_eq]
    have c16 : gv h3 (ad 23) 16 = bl t n p := by rw [g3, ud_ne (by decide), ud_ne (by decide)]; exact e16
    have s3 := st_fr s f3
    have f4 : fr ad p00 fR false h3 (hsI h3 (ad 23) 16 (ii (bl t n p + 1))) := fr_sFs rfl
    have e1 : gv (hsI h3 (ad 23) 16 (ii (bl t n p + 1))) (ad 23) = ud (gv h3 (ad 23)) 16 (bl t n p + 1) := gv_sIi (by omega) (by omega)
    have fin := q1 g _ (fr_tr f1 (fr_tr f3 f4)) ⟨s3, by rw [e1, ud_ne (by decide)]; exact c18, by rw [e1, ud_ne (by decide)]; exact c19, by decide⟩
    simp (disch := first | omega | decide | assumption | exact st_ne s0 (by decide) (by decide) (by decide) | exact dyn_ne (by assumption) (by decide) | fail) only [Int.reduceAdd, Int.reduceSub, Int.reduceNeg, ii_add, ii_sub, ii_mul, ii_lt, ii_le, ii_eq, ixn_ii, ixo_ii, rem_ii, nb_1, nb_0, nb_bb, bb_0, hI_gv, Int.toNat_of_nonneg, Int.cast_ofNat_Int, ht_sI, ht_sJ, ht_sR, hn_sI, hn_sJ, hn_sR, hR_sI, hR_sJ, kI_v, kV_v, kJ_v, true_and, and_true, forall_eq, tg, ln, rf, ne_eq, not_false_eq_true, forall_const, not_true_eq_false, false_implies, st_t s3, c16]
    exact fin
  by_cases c : bl t n p < n
  · rw [if_pos c]
    have f4 : fr ad p00 fR false h1 (hsI h1 (ad 23) 16 (ii (bl t n p + 1))) := fr_sFs rfl
    have e1 : gv (hsI h1 (ad 23) 16 (ii (bl t n p + 1))) (ad 23) = ud (gv h1 (ad 23)) 16 (bl t n p + 1) := gv_sIi (by omega) (by omega)
    simp (disch := first | omega | decide | assumption | exact st_ne s0 (by decide) (by decide) (by decide) | exact dyn_ne (by assumption) (by decide) | fail) only [Int.reduceAdd, Int.reduceSub, Int.reduceNeg, ii_add, ii_sub, ii_mul, ii_lt, ii_le, ii_eq, ixn_ii, ixo_ii, rem_ii, nb_1, nb_0, nb_bb, bb_0, hI_gv, Int.toNat_of_nonneg, Int.cast_ofNat_Int, ht_sI, ht_sJ, ht_sR, hn_sI, hn_sJ, hn_sR, hR_sI, hR_sJ, kI_v, kV_v, kJ_v, true_and, and_true, forall_eq, tg, ln, rf, ne_eq, not_false_eq_true, forall_const, not_true_eq_false, false_implies, Int.reduceEq, Int.reduceLT, Int.reduceLE, implies_true, and_self, reduceCtorEq, false_and, st_t s, e15, e16]
    refine ⟨fun g => ⟨fun g2 => by omega, fun _ => q0 ⟨c, g⟩ _ (fr_tr f1 f4) ⟨rB_fr r1 f4 (by rw [e1, ud_eq]) (by omega) (by omega), by rw [e1, ud_ne (by decide)]; exact a18⟩⟩, fun g => ?_⟩
    have fin := bad (fun e => g e.2)
    simp (disch := first | omega | decide | assumption | exact st_ne s0 (by decide) (by decide) (by decide) | exact dyn_ne (by assumption) (by decide) | fail) only [Int.reduceAdd, Int.reduceSub, Int.reduceNeg, ii_add, ii_sub, ii_mul, ii_lt, ii_le, ii_eq, ixn_ii, ixo_ii, rem_ii, nb_1, nb_0, nb_bb, bb_0, hI_gv, Int.toNat_of_nonneg, Int.cast_ofNat_Int, ht_sI, ht_sJ, ht_sR, hn_sI, hn_sJ, hn_sR, hR_sI, hR_sJ, kI_v, kV_v, kJ_v, true_and, and_true, forall_eq, tg, ln, rf, ne_eq, not_false_eq_true, forall_const, not_true_eq_false, false_implies] at fin
    exact fin
  · rw [if_neg c]
    simp (disch := first | omega | decide | assumption | exact st_ne s0 (by decide) (by decide) (by decide) | exact dyn_ne (by assumption) (by decide) | fail) only [Int.reduceAdd, Int.reduceSub, Int.reduceNeg, ii_add, ii_sub, ii_mul, ii_lt, ii_le, ii_eq, ixn_ii, ixo_ii, rem_ii, nb_1, nb_0, nb_bb, bb_0, hI_gv, Int.toNat_of_nonneg, Int.cast_ofNat_Int, ht_sI, ht_sJ, ht_sR, hn_sI, hn_sJ, hn_sR, hR_sI, hR_sJ, kI_v, kV_v, kJ_v, true_and, and_true, forall_eq, tg, ln, rf, ne_eq, not_false_eq_true, forall_const, not_true_eq_false, false_implies, Int.reduceEq, Int.reduceLT, Int.reduceLE, implies_true, and_self, reduceCtorEq, false_and, st_t s, e15, e16]
    have fin := bad (fun e => c e.1)
    simp (disch := first | omega | decide | assumption | exact st_ne s0 (by decide) (by decide) (by decide) | exact dyn_ne (by assumption) (by decide) | fail) only [Int.reduceAdd, Int.reduceSub, Int.reduceNeg, ii_add, ii_sub, ii_mul, ii_lt, ii_le, ii_eq, ixn_ii, ixo_ii, rem_ii, nb_1, nb_0, nb_bb, bb_0, hI_gv, Int.toNat_of_nonneg, Int.cast_ofNat_Int, ht_sI, ht_sJ, ht_sR, hn_sI, hn_sJ, hn_sR, hR_sI, hR_sJ, kI_v, kV_v, kJ_v, true_and, and_true, forall_eq, tg, ln, rf, ne_eq, not_false_eq_true, forall_const, not_true_eq_false, false_implies] at fin
    exact fin
end TX2
