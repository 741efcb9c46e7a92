/-! CLEARS; the reference -/
def wr (r : Nat) (h h' : tr_H) : Prop := ∀ x, ht h' x = ht h x ∧ hn h' x = hn h x ∧ hR h' x = hR h x ∧ hJ h' x = hJ h x ∧ (x ≠ r → gv h' x = gv h x)
def clf (g : Int → Int) (z : Int) : Int := if z < 0 ∨ 867 ≤ z then g z else if z = 1 then 7 else if z = 2 then 101 else if z = 3 then 20 else if z = 5 then 16 else if 6 ≤ z ∧ z < 106 then -1 else 0
section CLR
variable {E : tr_Env} {ad : Nat → Nat} {h h1 h2 : tr_H} {Q : tr_Q} {r : Nat} {P : Nat → Bool} {F : Int → Bool} {R : Bool}
theorem wr_rfl : wr r h h := fun _ => ⟨rfl, rfl, rfl, rfl, fun _ => rfl⟩
theorem wr_tr (a : wr r h h1) (b : wr r h1 h2) : wr r h h2 := fun x => by
  obtain ⟨a1, a2, a3, a4, a5⟩ := a x
  obtain ⟨b1, b2, b3, b4, b5⟩ := b x
  exact ⟨b1.trans a1, b2.trans a2, b3.trans a3, b4.trans a4, fun e => (b5 e).trans (a5 e)⟩
theorem wr_sI (k : Nat) (v : Int32) : wr r h (hsI h r k v) := fun _ => ⟨rfl, rfl, rfl, rfl, fun e => gv_sIn e⟩
theorem wr_fr {i : Nat} (w : wr (ad i) h h1) (hi : P i = true) : fr ad P F R h h1 := fun x _ => by
  obtain ⟨a1, a2, a3, a4, a5⟩ := w x
  exact ⟨a1, a2, fun q => ⟨fun z _ => by rw [a5 (q i hi)], a4⟩, fun k _ => by rw [a3]⟩
theorem c_clears_41 (ok : tr_ok E) : ∀ (k : Nat) (i : Int) (h : tr_H), 0 ≤ i → i + k = 100 → ht h r = 11 → hn h r = 867 → (∀ h', wr r h h' → (∀ z, gv h' r z = if 6 + i ≤ z ∧ z < 106 then -1 else gv h r z) → Q (.inl none) h') → tr_G E 123 Q 41 [some (.inr (.inr r)), some (.inl (ii i))] [] h 0 0 := by
  intro k
  induction k with
  | zero =>
    intro i h i0 i1 t n q
    refine T_X8_clears_41 ok ?_
    simp (disch := first | omega | decide | assumption | exact st_ne s0 (by decide) (by decide) (by decide) | exact dyn_ne (by assumption) (by decide) | fail) only [Int.reduceAdd, Int.reduceSub, Int.reduceNeg, ii_add, ii_sub, ii_mul, ii_lt, ii_le, ii_eq, ixn_ii, ixo_ii, rem_ii, nb_1, nb_0, nb_bb, bb_0, hI_gv, Int.toNat_of_nonneg, Int.cast_ofNat_Int, ht_sI, ht_sJ, ht_sR, hn_sI, hn_sJ, hn_sR, hR_sI, hR_sJ, kI_v, kV_v, kJ_v, true_and, and_true, forall_eq, tg, ln, rf, ne_eq, not_false_eq_true, forall_const, not_true_eq_false, false_implies, W_X8_clears_41, t, n]
    exact ⟨fun g => by omega, fun _ => q h wr_rfl (fun z => by rw [if_neg (by omega)])⟩
  | succ k ih =>
    intro i h i0 i1 t n q
    refine T_X8_clears_41 ok ?_
    simp (disch := first | omega | decide | assumption | exact st_ne s0 (by decide) (by decide) (by decide) | exact dyn_ne (by assumption) (by decide) | fail) only [Int.reduceAdd, Int.reduceSub, Int.reduceNeg, ii_add, ii_sub, ii_mul, ii_lt, ii_le, ii_eq, ixn_ii, ixo_ii, rem_ii, nb_1, nb_0, nb_bb, bb_0, hI_gv, Int.toNat_of_nonneg, Int.cast_ofNat_Int, ht_sI, ht_sJ, ht_sR, hn_sI, hn_sJ, hn_sR, hR_sI, hR_sJ, kI_v, kV_v, kJ_v, true_and, and_true, forall_eq, tg, ln, rf, ne_eq, not_false_eq_true, forall_const, not_true_eq_false, false_implies, W_X8_clears_41, t, n]
    refine ⟨fun _ => ⟨⟨by omega, by omega⟩, ?_⟩, fun g => by omega⟩
    refine ih (i + 1) _ (by omega) (by omega) t n (fun h' w' e' => q h' (wr_tr (wr_sI _ _) w') (fun z => ?_))
    rw [e', gv_sIi (by omega) (by omega), Int.toNat_of_nonneg (by omega)]
    by_cases c : z = 6 + i
    · rw [if_neg (by omega), if_pos (by omega), c, ud_eq]
    · rw [ud_ne c]
      by_cases c2 : 6 + i ≤ z ∧ z < 106
      · rw [if_pos c2, if_pos (by omega)]
      · rw [if_neg c2, if_neg (by omega)]
theorem c_clears_2 (ok : tr_ok E) : ∀ (k : Nat) (i : Int) (h : tr_H), 0 ≤ i → i + k = 867 → ht h r = 11 → hn h r = 867 → (∀ h', wr r h h' → (∀ z, gv h' r z = if i ≤ z ∧ z < 867 then 0 else gv h r z) → tr_G E 123 Q 2 [some (.inr (.inr r)), some (.inl (ii 867))] [] h' 0 0) → tr_G E 123 Q 2 [some (.inr (.inr r)), some (.inl (ii i))] [] h 0 0 := by
  intro k
  induction k with
  | zero =>
    intro i h i0 i1 t n q
    have e : i = 867 := by omega
    subst e
    exact q h wr_rfl (fun z => by rw [if_neg (by omega)])
  | succ k ih =>
    intro i h i0 i1 t n q
    refine T_X8_clears_2 ok ?_
    simp (disch := first | omega | decide | assumption | exact st_ne s0 (by decide) (by decide) (by decide) | exact dyn_ne (by assumption) (by decide) | fail) only [Int.reduceAdd, Int.reduceSub, Int.reduceNeg, ii_add, ii_sub, ii_mul, ii_lt, ii_le, ii_eq, ixn_ii, ixo_ii, rem_ii, nb_1, nb_0, nb_bb, bb_0, hI_gv, Int.toNat_of_nonneg, Int.cast_ofNat_Int, ht_sI, ht_sJ, ht_sR, hn_sI, hn_sJ, hn_sR, hR_sI, hR_sJ, kI_v, kV_v, kJ_v, true_and, and_true, forall_eq, tg, ln, rf, ne_eq, not_false_eq_true, forall_const, not_true_eq_false, false_implies, W_X8_clears_2, t, n]
    refine ⟨fun _ => ⟨⟨by omega, by omega⟩, ?_⟩, fun g => by omega⟩
    refine ih (i + 1) _ (by omega) (by omega) t n (fun h' w' e' => q h' (wr_tr (wr_sI _ _) w') (fun z => ?_))
    rw [e', gv_sIi (by omega) (by omega), Int.toNat_of_nonneg (by omega)]
    by_cases c : z = i
    · rw [if_neg (by omega), if_pos (by omega), c, ud_eq]
    · rw [ud_ne c]
      by_cases c2 : i ≤ z ∧ z < 867
      · rw [if_pos c2, if_pos (by omega)]
      · rw [if_neg c2, if_neg (by omega)]
theorem c_clears (ok : tr_ok E) (t : ht h r = 11) (n : hn h r = 867) (q : ∀ h', wr r h h' → gv h' r = clf (gv h r) → Q (.inl none) h') : tr_C E 123 [.inr (.inr r)] h Q := by
  refine T_X8_clears ok ?_
  simp (disch := first | omega | decide | assumption | exact st_ne s0 (by decide) (by decide) (by decide) | exact dyn_ne (by assumption) (by decide) | fail) only [Int.reduceAdd, Int.reduceSub, Int.reduceNeg, ii_add, ii_sub, ii_mul, ii_lt, ii_le, ii_eq, ixn_ii, ixo_ii, rem_ii, nb_1, nb_0, nb_bb, bb_0, hI_gv, Int.toNat_of_nonneg, Int.cast_ofNat_Int, ht_sI, ht_sJ, ht_sR, hn_sI, hn_sJ, hn_sR, hR_sI, hR_sJ, kI_v, kV_v, kJ_v, true_and, and_true, forall_eq, tg, ln, rf, ne_eq, not_false_eq_true, forall_const, not_true_eq_false, false_implies, W_X8_clears]
  refine c_clears_2 ok 867 0 h (by decide) (by decide) t n (fun h1 w1 e1 => ?_)
  refine T_X8_clears_2 ok ?_
  obtain ⟨a1, a2, -, -, -⟩ := w1 r
  rw [t] at a1
  rw [n] at a2
  simp (disch := first | omega | decide | assumption | exact st_ne s0 (by decide) (by decide) (by decide) | exact dyn_ne (by assumption) (by decide) | fail) only [Int.reduceAdd, Int.reduceSub, Int.reduceNeg, ii_add, ii_sub, ii_mul, ii_lt, ii_le, ii_eq, ixn_ii, ixo_ii, rem_ii, nb_1, nb_0, nb_bb, bb_0, hI_gv, Int.toNat_of_nonneg, Int.cast_ofNat_Int, ht_sI, ht_sJ, ht_sR, hn_sI, hn_sJ, hn_sR, hR_sI, hR_sJ, kI_v, kV_v, kJ_v, true_and, and_true, forall_eq, tg, ln, rf, ne_eq, not_false_eq_true, forall_const, not_true_eq_false, false_implies, Int.reduceEq, Int.reduceLT, Int.reduceLE, implies_true, and_self, reduceCtorEq, false_and, W_X8_clears_2, a1, a2]
  refine c_clears_41 ok 100 0 _ (by decide) (by decide) a1 a2 (fun h2 w2 e2 => q h2 (wr_tr w1 (wr_tr (wr_tr (wr_tr (wr_tr (wr_sI _ _) (wr_sI _ _)) (wr_sI _ _)) (wr_sI _ _)) w2)) ?_)
  funext z
  rw [e2, gv_sIi (by omega) (by omega), gv_sIi (by omega) (by omega), gv_sIi (by omega) (by omega), gv_sIi (by omega) (by omega)]
  unfold clf ud
  rw [e1]
  show (if 6 + 0 ≤ z ∧ z < 106 then -1 else if z = 5 then 16 else if z = 3 then 20 else if z = 2 then 101 else if z = 1 then 7 else if 0 ≤ z ∧ z < 867 then 0 else gv h r z) = _
  by_cases c : z < 0 ∨ 867 ≤ z
  · rw [if_pos c, if_neg (by omega), if_neg (by omega), if_neg (by omega), if_neg (by omega), if_neg (by omega), if_neg (by omega)]
  · rw [if_neg c]
    by_cases c1 : z = 1
    · subst c1; rfl
    by_cases c2 : z = 2
    · subst c2; rfl
    by_cases c3 : z = 3
    · subst c3; rfl
    by_cases c5 : z = 5
    · subst c5; rfl
    have c0 : 0 ≤ z ∧ z < 867 := by omega
    by_cases c6 : 6 ≤ z ∧ z < 106
    · have c7 : 6 + 0 ≤ z ∧ z < 106 := c6
      simp only [if_pos c7, if_pos c6, if_neg c1, if_neg c2, if_neg c3, if_neg c5]
    · have c7 : ¬ (6 + 0 ≤ z ∧ z < 106) := c6
      simp only [if_neg c7, if_neg c6, if_neg c1, if_neg c2, if_neg c3, if_neg c5, if_pos c0]
end CLR
