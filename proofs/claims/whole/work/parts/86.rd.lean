/-! TEXT: the class's reader, small parts -/
def rRd (ad : Nat → Nat) (h : tr_H) (q : Nat) (t : Int → Int) (n p : Int) : Prop := stat ad h ∧ ht h q = 5 ∧ hR h q 0 = ad 5 ∧ gv h q 1 = n ∧ gv h q 2 = p ∧ (∀ z, 0 ≤ z → z < n → gv h (ad 5) z = t z) ∧ 0 ≤ p ∧ p ≤ n ∧ n ≤ 400
section RD
variable {E : tr_Env} {ad : Nat → Nat} {h h0 h1 : tr_H} {Q : tr_Q} {t : Int → Int} {n p : Int} {q : Nat}
theorem rRd_p (r : rRd ad h q t n p) {p2 : Int} (p0 : 0 ≤ p2) (p1 : p2 ≤ n) : rRd ad (hsI h q 2 (ii p2)) q t n p2 := by
  obtain ⟨s, c0, c1, c2, c3, c4, c5, c6, c7⟩ := r
  have d : ad 5 ≠ q := ne_tg (h := h) (by rw [c0, st_t s (by decide)]; decide)
  refine ⟨s, c0, c1, ?_, ?_, fun z z0 z1 => ?_, p0, p1, c7⟩
  · rw [gv_sIi (by omega) (by omega)]; exact (ud_ne (by decide)).trans c2
  · rw [gv_sIi (by omega) (by omega)]; exact ud_eq _ _ _
  · rw [gv_sIn d]; exact c4 z z0 z1
theorem k_skipB_0 (ok : tr_ok E) : ∀ (k : Nat) (h : tr_H) (p : Int), n - p ≤ k → rRd ad h q t n p → (∀ h', wr q h h' → gv h' q = ud (gv h q) 2 (bl t n p) → rRd ad h' q t n (bl t n p) → Q (.inl none) h') → tr_G E 55 Q 0 [some (.inr (.inr q))] [] h 0 0 := by
  intro k
  induction k with
  | zero =>
    intro h p hk r f
    refine T_X4_skipBlanks_0 ok ?_
    obtain ⟨s, c0, c1, c2, c3, c4, c5, c6, c7⟩ := id r
    have z : bl t n p = p := skp_z (fun e => by have := e.1; omega)
    rw [z] at f
    have fin := f h wr_rfl (by rw [← c3, ud_self]) r
    simp (disch := first | omega | decide | assumption | exact st_ne s0 (by decide) (by decide) (by decide) | exact dyn_ne (by assumption) (by decide) | fail) only [Int.reduceAdd, Int.reduceSub, Int.reduceNeg, ii_add, ii_sub, ii_mul, ii_lt, ii_le, ii_eq, ixn_ii, ixo_ii, rem_ii, nb_1, nb_0, nb_bb, bb_0, hI_gv, Int.toNat_of_nonneg, Int.cast_ofNat_Int, ht_sI, ht_sJ, ht_sR, hn_sI, hn_sJ, hn_sR, hR_sI, hR_sJ, kI_v, kV_v, kJ_v, true_and, and_true, forall_eq, tg, ln, rf, ne_eq, not_false_eq_true, forall_const, not_true_eq_false, false_implies, W_X4_skipBlanks_0, c0, c1, c2, c3]
    exact ⟨fun g => by omega, fun _ => fin⟩
  | succ k ih =>
    intro h p hk r f
    refine T_X4_skipBlanks_0 ok ?_
    obtain ⟨s, c0, c1, c2, c3, c4, c5, c6, c7⟩ := id r
    have tb := gv_rg h (ad 5) p
    have self : ¬ (p < n ∧ cB t p = true) → Q (.inl none) h := fun g => by
      have z : bl t n p = p := skp_z g
      rw [z] at f
      exact f h wr_rfl (by rw [← c3, ud_self]) r
    simp (disch := first | omega | decide | assumption | exact st_ne s0 (by decide) (by decide) (by decide) | exact dyn_ne (by assumption) (by decide) | fail) only [Int.reduceAdd, Int.reduceSub, Int.reduceNeg, ii_add, ii_sub, ii_mul, ii_lt, ii_le, ii_eq, ixn_ii, ixo_ii, rem_ii, nb_1, nb_0, nb_bb, bb_0, hI_gv, Int.toNat_of_nonneg, Int.cast_ofNat_Int, ht_sI, ht_sJ, ht_sR, hn_sI, hn_sJ, hn_sR, hR_sI, hR_sJ, kI_v, kV_v, kJ_v, true_and, and_true, forall_eq, tg, ln, rf, ne_eq, not_false_eq_true, forall_const, not_true_eq_false, false_implies, W_X4_skipBlanks_0, st_t s, st_n s, c0, c1, c2, c3]
    refine ⟨fun g => ⟨⟨by omega, by omega⟩, fun g2 => ?_, fun g2 => self (fun e => g2 ((c4 p c5 g).trans (of_decide_eq_true e.2)))⟩, fun g => self (fun e => g e.1)⟩
    have c : cB t p = true := decide_eq_true ((c4 p c5 g).symm.trans g2)
    have z : bl t n p = bl t n (p + 1) := skp_s g c
    rw [z] at f
    have e1 : gv (hsI h q 2 (ii (p + 1))) q = ud (gv h q) 2 (p + 1) := gv_sIi (by omega) (by omega)
    exact ih _ (p + 1) (by omega) (rRd_p r (by omega) (by omega)) (fun h' w' e' r' => f h' (wr_tr (wr_sI _ _) w') (by rw [e', e1, ud_ud]) r')
theorem k_skipB (ok : tr_ok E) (r : rRd ad h q t n p) (f : ∀ h', wr q h h' → gv h' q = ud (gv h q) 2 (bl t n p) → rRd ad h' q t n (bl t n p) → Q (.inl none) h') : tr_C E 55 [.inr (.inr q)] h Q := by
  refine T_X4_skipBlanks ok ?_
  simp (disch := first | omega | decide | assumption | exact st_ne s0 (by decide) (by decide) (by decide) | exact dyn_ne (by assumption) (by decide) | fail) only [Int.reduceAdd, Int.reduceSub, Int.reduceNeg, ii_add, ii_sub, ii_mul, ii_lt, ii_le, ii_eq, ixn_ii, ixo_ii, rem_ii, nb_1, nb_0, nb_bb, bb_0, hI_gv, Int.toNat_of_nonneg, Int.cast_ofNat_Int, ht_sI, ht_sJ, ht_sR, hn_sI, hn_sJ, hn_sR, hR_sI, hR_sJ, kI_v, kV_v, kJ_v, true_and, and_true, forall_eq, tg, ln, rf, ne_eq, not_false_eq_true, forall_const, not_true_eq_false, false_implies, W_X4_skipBlanks]
  exact k_skipB_0 ok (n - p).toNat h p (by omega) r f
end RD
