/-! TEXT: what is skipped, pure -/
theorem ud_self (g : Int → Int) (k : Int) : ud g k (g k) = g := by
  funext y
  by_cases e : y = k
  · rw [e, ud_eq]
  · rw [ud_ne e]
def sk (c : Int → Bool) (n : Int) : Nat → Int → Int
  | 0, p => p
  | k + 1, p => if p < n ∧ c p = true then sk c n k (p + 1) else p
def skp (c : Int → Bool) (n p : Int) : Int := sk c n (n - p).toNat p
def cB (t : Int → Int) (p : Int) : Bool := decide (t p = 32)
def cL (t : Int → Int) (p : Int) : Bool := decide (97 ≤ t p ∧ t p ≤ 122)
def cD (t : Int → Int) (p : Int) : Bool := decide (48 ≤ t p ∧ t p ≤ 57)
theorem skp_s {c : Int → Bool} {n p : Int} (h1 : p < n) (h2 : c p = true) : skp c n p = skp c n (p + 1) := by
  unfold skp
  rw [show (n - p).toNat = (n - (p + 1)).toNat + 1 by omega]
  exact if_pos ⟨h1, h2⟩
theorem skp_z {c : Int → Bool} {n p : Int} (h : ¬ (p < n ∧ c p = true)) : skp c n p = p := by
  unfold skp
  cases (n - p).toNat with
  | zero => rfl
  | succ k => exact if_neg h
theorem sk_rg {c : Int → Bool} {n : Int} : ∀ (k : Nat) (p : Int), p ≤ sk c n k p ∧ (sk c n k p ≤ p ∨ sk c n k p ≤ n)
  | 0, p => ⟨Int.le_refl p, Or.inl (Int.le_refl p)⟩
  | k + 1, p => by
    by_cases e : p < n ∧ c p = true
    · have := sk_rg (c := c) (n := n) k (p + 1)
      rw [show sk c n (k + 1) p = sk c n k (p + 1) from if_pos e]
      omega
    · rw [show sk c n (k + 1) p = p from if_neg e]
      omega
theorem skp_rg (c : Int → Bool) (n p : Int) : p ≤ skp c n p ∧ (skp c n p ≤ p ∨ skp c n p ≤ n) := sk_rg _ _
theorem sk_e {c : Int → Bool} {n : Int} : ∀ (k : Nat) (p : Int), n - p ≤ k → ¬ (sk c n k p < n ∧ c (sk c n k p) = true)
  | 0, p, hk => fun e => by
    have e1 : p < n := e.1
    omega
  | k + 1, p, hk => by
    by_cases e : p < n ∧ c p = true
    · rw [show sk c n (k + 1) p = sk c n k (p + 1) from if_pos e]
      exact sk_e k (p + 1) (by omega)
    · rw [show sk c n (k + 1) p = p from if_neg e]
      exact e
theorem skp_e (c : Int → Bool) (n p : Int) : ¬ (skp c n p < n ∧ c (skp c n p) = true) := sk_e _ _ (by omega)
theorem skp_i (c : Int → Bool) (n p : Int) : skp c n (skp c n p) = skp c n p := skp_z (skp_e c n p)
/-- the value of the digits -/
def dv (t : Int → Int) (n : Int) : Nat → Int → Int → Int
  | 0, _, v => v
  | k + 1, p, v => if p < n ∧ cD t p = true then dv t n k (p + 1) (if 100000 < 10 * v + t p - 48 then 100000 else 10 * v + t p - 48) else v
def dvp (t : Int → Int) (n p v : Int) : Int := dv t n (n - p).toNat p v
theorem dvp_s {t : Int → Int} {n p v : Int} (h1 : p < n) (h2 : cD t p = true) : dvp t n p v = dvp t n (p + 1) (if 100000 < 10 * v + t p - 48 then 100000 else 10 * v + t p - 48) := by
  unfold dvp
  rw [show (n - p).toNat = (n - (p + 1)).toNat + 1 by omega]
  exact if_pos ⟨h1, h2⟩
theorem dvp_z {t : Int → Int} {n p v : Int} (h : ¬ (p < n ∧ cD t p = true)) : dvp t n p v = v := by
  unfold dvp
  cases (n - p).toNat with
  | zero => rfl
  | succ k => exact if_neg h
theorem dv_rg {t : Int → Int} {n : Int} : ∀ (k : Nat) (p v : Int), 0 ≤ v → v ≤ 100000 → 0 ≤ dv t n k p v ∧ dv t n k p v ≤ 100000
  | 0, p, v, h1, h2 => ⟨h1, h2⟩
  | k + 1, p, v, h1, h2 => by
    by_cases e : p < n ∧ cD t p = true
    · rw [show dv t n (k + 1) p v = dv t n k (p + 1) (if 100000 < 10 * v + t p - 48 then 100000 else 10 * v + t p - 48) from if_pos e]
      have ed := e.2
      unfold cD at ed
      rw [decide_eq_true_eq] at ed
      exact dv_rg k (p + 1) _ (by split <;> omega) (by split <;> omega)
    · rw [show dv t n (k + 1) p v = v from if_neg e]
      exact ⟨h1, h2⟩
theorem dvp_rg (t : Int → Int) (n p : Int) : 0 ≤ dvp t n p 0 ∧ dvp t n p 0 ≤ 100000 := dv_rg _ _ _ (by decide) (by decide)
/-! TEXT: the reference's small parts -/
def fR (z : Int) : Bool := decide (16 ≤ z ∧ z ≤ 19)
def rB (ad : Nat → Nat) (h : tr_H) (t : Int → Int) (n p : Int) : Prop := stat ad h ∧ gv h (ad 33) = t ∧ gv h (ad 23) 15 = n ∧ gv h (ad 23) 16 = p ∧ 0 ≤ p ∧ p ≤ n ∧ 0 ≤ n ∧ n ≤ 400
section TX
variable {E : tr_Env} {ad : Nat → Nat} {h h0 : tr_H} {Q : tr_Q} {t : Int → Int} {n p : Int}
theorem c_sign_0 (ok : tr_ok E) : ∀ (k : Nat) (h : tr_H) (p : Int), n - p ≤ k → rB ad h t n p → (∀ h', fr ad p00 fR false h h' → gv h' (ad 23) = ud (gv h (ad 23)) 16 (skp (cB t) n p) → Q (.inl (some (.inl (ii (if skp (cB t) n p < n then t (skp (cB t) n p) else 0))))) h') → tr_G E 139 Q 0 [some (.inr (.inr (ad 23)))] [] h 0 0 := by
  intro k
  induction k with
  | zero =>
    intro h p hk r q
    refine T_X8_sign_0 ok ?_
    obtain ⟨s, e33, e15, e16, p0, p1, n0, n1⟩ := id r
    have z : skp (cB t) n p = p := skp_z (fun e => by have := e.1; omega)
    rw [z, if_neg (by omega)] at q
    have e := q h fr_rfl (by rw [← e16, ud_self])
    simp (disch := first | omega | decide | assumption | exact st_ne s0 (by decide) (by decide) (by decide) | exact dyn_ne (by assumption) (by decide) | fail) only [Int.reduceAdd, Int.reduceSub, Int.reduceNeg, ii_add, ii_sub, ii_mul, ii_lt, ii_le, ii_eq, ixn_ii, ixo_ii, rem_ii, nb_1, nb_0, nb_bb, bb_0, hI_gv, Int.toNat_of_nonneg, Int.cast_ofNat_Int, ht_sI, ht_sJ, ht_sR, hn_sI, hn_sJ, hn_sR, hR_sI, hR_sJ, kI_v, kV_v, kJ_v, true_and, and_true, forall_eq, tg, ln, rf, ne_eq, not_false_eq_true, forall_const, not_true_eq_false, false_implies, W_X8_sign_0, st_t s, st_n s, st_r s, e33, e15, e16]
    exact ⟨fun g => by omega, fun g => ⟨fun g3 => absurd g3 g, fun _ => e⟩⟩
  | succ k ih =>
    intro h p hk r q
    refine T_X8_sign_0 ok ?_
    obtain ⟨s, e33, e15, e16, p0, p1, n0, n1⟩ := id r
    have tb := gv_rg h (ad 33) p
    rw [e33] at tb
    have self : ¬ (p < n ∧ cB t p = true) → Q (.inl (some (.inl (ii (if p < n then t p else 0))))) h := fun g => by
      rw [skp_z g] at q
      exact q h fr_rfl (by rw [← e16, ud_self])
    simp (disch := first | omega | decide | assumption | exact st_ne s0 (by decide) (by decide) (by decide) | exact dyn_ne (by assumption) (by decide) | fail) only [Int.reduceAdd, Int.reduceSub, Int.reduceNeg, ii_add, ii_sub, ii_mul, ii_lt, ii_le, ii_eq, ixn_ii, ixo_ii, rem_ii, nb_1, nb_0, nb_bb, bb_0, hI_gv, Int.toNat_of_nonneg, Int.cast_ofNat_Int, ht_sI, ht_sJ, ht_sR, hn_sI, hn_sJ, hn_sR, hR_sI, hR_sJ, kI_v, kV_v, kJ_v, true_and, and_true, forall_eq, tg, ln, rf, ne_eq, not_false_eq_true, forall_const, not_true_eq_false, false_implies, W_X8_sign_0, st_t s, st_n s, st_r s, e33, e15, e16]
    refine ⟨fun g => ⟨⟨by omega, by omega⟩, fun g2 => ?_, fun g2 => ?_⟩, fun g => ?_⟩
    · have c : cB t p = true := decide_eq_true g2
      rw [skp_s g c] at q
      have f : fr ad p00 fR false h (hsI h (ad 23) 16 (ii (p + 1))) := fr_sFs rfl
      have e1 : gv (hsI h (ad 23) 16 (ii (p + 1))) (ad 23) = ud (gv h (ad 23)) 16 (p + 1) := gv_sIi (by omega) (by omega)
      refine ih _ (p + 1) (by omega) ⟨s, by rw [fr_gv s f (by decide) (by decide) rfl p00_lt]; exact e33, by rw [e1, ud_ne (by decide)]; exact e15, by rw [e1, ud_eq], by omega, by omega, n0, n1⟩ (fun h' f' e' => q h' (fr_tr f f') (by rw [e', e1, ud_ud]))
    · have e := self (fun e => g2 (of_decide_eq_true e.2))
      rw [if_pos g] at e
      exact ⟨fun _ => ⟨⟨by omega, by omega⟩, e⟩, fun g3 => absurd g g3⟩
    · have e := self (fun e => g e.1)
      rw [if_neg g] at e
      exact ⟨fun g3 => absurd g3 g, fun _ => e⟩
theorem c_sign (ok : tr_ok E) (r : rB ad h t n p) (q : ∀ h', fr ad p00 fR false h h' → gv h' (ad 23) = ud (gv h (ad 23)) 16 (skp (cB t) n p) → rB ad h' t n (skp (cB t) n p) → Q (.inl (some (.inl (ii (if skp (cB t) n p < n then t (skp (cB t) n p) else 0))))) h') : tr_C E 139 [.inr (.inr (ad 23))] h Q := by
  refine T_X8_sign ok ?_
  simp (disch := first | omega | decide | assumption | exact st_ne s0 (by decide) (by decide) (by decide) | exact dyn_ne (by assumption) (by decide) | fail) only [Int.reduceAdd, Int.reduceSub, Int.reduceNeg, ii_add, ii_sub, ii_mul, ii_lt, ii_le, ii_eq, ixn_ii, ixo_ii, rem_ii, nb_1, nb_0, nb_bb, bb_0, hI_gv, Int.toNat_of_nonneg, Int.cast_ofNat_Int, ht_sI, ht_sJ, ht_sR, hn_sI, hn_sJ, hn_sR, hR_sI, hR_sJ, kI_v, kV_v, kJ_v, true_and, and_true, forall_eq, tg, ln, rf, ne_eq, not_false_eq_true, forall_const, not_true_eq_false, false_implies, W_X8_sign]
  refine c_sign_0 ok (n - p).toNat h p (by omega) r (fun h' f e => q h' f e ?_)
  obtain ⟨s, e33, e15, e16, p0, p1, n0, n1⟩ := id r
  have rg := skp_rg (cB t) n p
  exact ⟨st_fr s f, by rw [fr_gv s f (by decide) (by decide) rfl p00_lt]; exact e33, by rw [e, ud_ne (by decide)]; exact e15, by rw [e, ud_eq], by omega, by omega, n0, n1⟩
theorem c_wrong (ok : tr_ok E) (s : stat ad h) {k w : Int} (k0 : -2147483648 ≤ k) (k1 : k ≤ 2147483647) (w0 : -2147483648 ≤ w) (w1 : w ≤ 2147483647) (q : ∀ h', fr ad p00 fR false h h' → gv h' (ad 23) = (if gv h (ad 23) 18 ≤ 0 then ud (ud (gv h (ad 23)) 18 k) 19 w else gv h (ad 23)) → Q (.inl none) h') : tr_C E 138 [.inr (.inr (ad 23)), .inl (ii k), .inl (ii w)] h Q := by
  refine T_X8_wrong ok ?_
  have b := gv_rg h (ad 23) 18
  simp (disch := first | omega | decide | assumption | exact st_ne s0 (by decide) (by decide) (by decide) | exact dyn_ne (by assumption) (by decide) | fail) only [Int.reduceAdd, Int.reduceSub, Int.reduceNeg, ii_add, ii_sub, ii_mul, ii_lt, ii_le, ii_eq, ixn_ii, ixo_ii, rem_ii, nb_1, nb_0, nb_bb, bb_0, hI_gv, Int.toNat_of_nonneg, Int.cast_ofNat_Int, ht_sI, ht_sJ, ht_sR, hn_sI, hn_sJ, hn_sR, hR_sI, hR_sJ, kI_v, kV_v, kJ_v, true_and, and_true, forall_eq, tg, ln, rf, ne_eq, not_false_eq_true, forall_const, not_true_eq_false, false_implies, W_X8_wrong, st_t s]
  refine ⟨fun g => ?_, fun g => ?_⟩
  · refine q _ (fr_sF (fr_sFs rfl) rfl) ?_
    rw [if_pos g, gv_sIi w0 w1, gv_sIi k0 k1]
    rfl
  · exact q h fr_rfl (by rw [if_neg g])
theorem c_isSmall (ok : tr_ok E) (r : rB ad h t n p) {x : Int} (x0 : 0 ≤ x) (x1 : x ≤ 500) (q : Q (.inl (some (.inl (bb (decide (x < n ∧ cL t x = true)))))) h) : tr_C E 140 [.inr (.inr (ad 23)), .inl (ii x)] h Q := by
  refine T_X8_isSmall ok ?_
  obtain ⟨s, e33, e15, e16, p0, p1, n0, n1⟩ := id r
  have tb := gv_rg h (ad 33) x
  rw [e33] at tb
  simp (disch := first | omega | decide | assumption | exact st_ne s0 (by decide) (by decide) (by decide) | exact dyn_ne (by assumption) (by decide) | fail) only [Int.reduceAdd, Int.reduceSub, Int.reduceNeg, ii_add, ii_sub, ii_mul, ii_lt, ii_le, ii_eq, ixn_ii, ixo_ii, rem_ii, nb_1, nb_0, nb_bb, bb_0, hI_gv, Int.toNat_of_nonneg, Int.cast_ofNat_Int, ht_sI, ht_sJ, ht_sR, hn_sI, hn_sJ, hn_sR, hR_sI, hR_sJ, kI_v, kV_v, kJ_v, true_and, and_true, forall_eq, tg, ln, rf, ne_eq, not_false_eq_true, forall_const, not_true_eq_false, false_implies, W_X8_isSmall, st_t s, st_n s, st_r s, e33, e15, e16]
  have no : ¬ (x < n ∧ cL t x = true) → Q (.inl (some (.inl (ii 0)))) h := fun g => by rw [decide_eq_false g] at q; exact q
  have ya : (x < n ∧ cL t x = true) → Q (.inl (some (.inl (ii 1)))) h := fun g => by rw [decide_eq_true g] at q; exact q
  have cl : cL t x = true ↔ (97 ≤ t x ∧ t x ≤ 122) := by unfold cL; exact decide_eq_true_iff
  refine ⟨fun g => ⟨⟨by omega, by omega⟩, fun g2 => no (fun e => by have := cl.1 e.2; omega), fun g2 => ⟨⟨by omega, by omega⟩, fun g3 => ya ⟨g, cl.2 ⟨by omega, g3⟩⟩, fun g3 => no (fun e => by have := cl.1 e.2; omega)⟩⟩, fun g => no (fun e => g e.1)⟩
end TX
