/-! TEXT: the copy of the tape, the head; the reference -/
def byx (x : Int) : Int := (tr_by (ii x)).toInt
def p33 (i : Nat) : Bool := Nat.beq i 33
theorem p33_lt (j : Nat) (h : p33 j = true) : j < 42 := by
  unfold p33 at h
  rw [Nat.beq_eq] at h
  omega
section TXB
variable {E : tr_Env} {ad : Nat → Nat} {h h0 h1 : tr_H} {Q : tr_Q} {t m one two : Int → Int} {n s p H L a b z : Int}
theorem c_text_27 (ok : tr_ok E) (n0 : 0 ≤ n) (n1 : n ≤ 400) : ∀ (k : Nat) (i : Int) (h : tr_H), 0 ≤ i → i + k = n → stat ad h → (∀ h', fr ad p33 f0 false h h' → (∀ z, gv h' (ad 33) z = if i ≤ z ∧ z < n then byx (gv h (ad 32) z) else gv h (ad 33) z) → tr_G E 151 Q 27 [some (.inr (.inr (ad 23))), some (.inl (ii n)), some (.inl (ii n))] [] h' 0 0) → tr_G E 151 Q 27 [some (.inr (.inr (ad 23))), some (.inl (ii n)), some (.inl (ii i))] [] h 0 0 := by
  intro k
  induction k with
  | zero =>
    intro i h i0 i1 s q
    have e : i = n := by omega
    subst e
    exact q h fr_rfl (fun z => by rw [if_neg (by omega)])
  | succ k ih =>
    intro i h i0 i1 s q
    refine T_X8_text_27 ok ?_
    simp (disch := first | omega | decide | assumption | exact st_ne s0 (by decide) (by decide) (by decide) | exact dyn_ne (by assumption) (by decide) | fail) only [Int.reduceAdd, Int.reduceSub, Int.reduceNeg, ii_add, ii_sub, ii_mul, ii_lt, ii_le, ii_eq, ixn_ii, ixo_ii, rem_ii, nb_1, nb_0, nb_bb, bb_0, hI_gv, Int.toNat_of_nonneg, Int.cast_ofNat_Int, ht_sI, ht_sJ, ht_sR, hn_sI, hn_sJ, hn_sR, hR_sI, hR_sJ, kI_v, kV_v, kJ_v, true_and, and_true, forall_eq, tg, ln, rf, ne_eq, not_false_eq_true, forall_const, not_true_eq_false, false_implies, W_X8_text_27, st_t s, st_n s, st_r s]
    refine ⟨fun _ => ⟨⟨by omega, by omega⟩, ⟨by omega, by omega⟩, ?_⟩, fun g => by omega⟩
    have f1 : fr ad p33 f0 false h (hsI h (ad 33) i.toNat (tr_by (ii (gv h (ad 32) i)))) := fr_sIs rfl
    have e6 : gv (hsI h (ad 33) i.toNat (tr_by (ii (gv h (ad 32) i)))) (ad 32) = gv h (ad 32) := gv_sIn (st_ne s (by decide) (by decide) (by decide))
    refine ih (i + 1) _ (by omega) (by omega) (st_fr s f1) (fun h' f' e' => q h' (fr_tr f1 f') (fun z => ?_))
    rw [e', e6, gv_sI, Int.toNat_of_nonneg i0]
    by_cases c : z = i
    · rw [if_neg (by omega), if_pos (by omega), c, ud_eq]; rfl
    · rw [ud_ne c]
      by_cases c2 : i ≤ z ∧ z < n
      · rw [if_pos c2, if_pos (by omega)]
      · rw [if_neg c2, if_neg (by omega)]
end TXB
