/-! TEXT of the reference -/
def pTX (i : Nat) : Bool := pN i || (p33 i || pO i)
def fTX (z : Int) : Bool := decide (z = 0) || (fQx z || fO z)
def pTY (i : Nat) : Bool := pN i || p33 i
def fTY (z : Int) : Bool := decide (z = 0) || fQx z
section TXD
variable {E : tr_Env} {ad : Nat → Nat} {h h0 h1 : tr_H} {Q : tr_Q} {x N : Int}
theorem M_text (ok : tr_ok E) (s : stat ad h) (hN : gv h (ad 23) 14 = N) (N0 : 0 ≤ N) (N1 : N ≤ 400) (x0 : -2147483648 ≤ x) (x1 : x ≤ 2147483647) (r : ¬ (0 ≤ x ∧ x ≤ N) → ∀ h', mpo ad h 1 1 h' → Q (.inl (some (.inl (ii 0)))) h') (qX : 0 ≤ x ∧ x ≤ N → ∀ t, (∀ z, 0 ≤ z → z < x → t z = byx (gv h (ad 32) z)) → ∀ kd wh, txAll t (clf (gv h (ad 26))) (gv h (ad 30)) (gv h (ad 31)) x = .inl (kd, wh) → ∀ h', fr ad pTY fTY false h h' → gv h' (ad 23) 0 = 0 → gv h' (ad 23) 14 = 0 → gv h' (ad 23) 20 = wh → Q (.inl (some (.inl (ii (kd - 10))))) h') (qY : 0 ≤ x ∧ x ≤ N → ∀ t, (∀ z, 0 ≤ z → z < x → t z = byx (gv h (ad 32) z)) → ∀ H' m' o' w' L', txAll t (clf (gv h (ad 26))) (gv h (ad 30)) (gv h (ad 31)) x = .inr (H', m', o', w', L') → vk m' o' w' H' L' → ∀ h', tr_G E 151 Q 183 [some (.inr (.inr (ad 23))), none, some (.inl (ii 0))] [] h' 0 0 ∨ (fr ad pTY fTY false h h' ∧ gv h' (ad 23) 0 = 0 ∧ gv h' (ad 23) 14 = 0 ∧ rN ad h' m' o' w' H' L' ∧ gv h' (ad 23) 20 = -1) → tr_G E 151 Q 183 [some (.inr (.inr (ad 23))), none, some (.inl (ii 0))] [] h' 0 0) : tr_C E 151 [.inr (.inr (ad 23)), .inl (ii x)] h Q := by
  refine T_X8_text ok ?_
  have ms := m_start s
  have e0 : gv (hsI h (ad 23) 0 (ii 0)) (ad 23) = ud (gv h (ad 23)) 0 0 := by rw [gv_sIi (by omega) (by omega)]; rfl
  have e14 : gv (hsI h (ad 23) 0 (ii 0)) (ad 23) 14 = N := by rw [e0, ud_ne (by decide)]; exact hN
  have fa : fr ad pTY fTY false h (hsI h (ad 23) 0 (ii 0)) := fr_sFs rfl
  have f00 : fr ad p00 fTY false h (hsI h (ad 23) 0 (ii 0)) := fr_sFs rfl
  have s1 := st_fr s fa
  simp (disch := first | omega | decide | assumption | exact st_ne s0 (by decide) (by decide) (by decide) | exact dyn_ne (by assumption) (by decide) | fail) only [Int.reduceAdd, Int.reduceSub, Int.reduceNeg, ii_add, ii_sub, ii_mul, ii_lt, ii_le, ii_eq, ixn_ii, ixo_ii, rem_ii, nb_1, nb_0, nb_bb, bb_0, hI_gv, Int.toNat_of_nonneg, Int.cast_ofNat_Int, ht_sI, ht_sJ, ht_sR, hn_sI, hn_sJ, hn_sR, hR_sI, hR_sJ, kI_v, kV_v, kJ_v, true_and, and_true, forall_eq, tg, ln, rf, ne_eq, not_false_eq_true, forall_const, not_true_eq_false, false_implies, W_X8_text, st_t s, e14]
  refine c_within ok x0 x1 (by omega) (by omega) (by omega) (by omega) ?_
  simp (disch := first | omega | decide | assumption | exact st_ne s0 (by decide) (by decide) (by decide) | exact dyn_ne (by assumption) (by decide) | fail) only [Int.reduceAdd, Int.reduceSub, Int.reduceNeg, ii_add, ii_sub, ii_mul, ii_lt, ii_le, ii_eq, ixn_ii, ixo_ii, rem_ii, nb_1, nb_0, nb_bb, bb_0, hI_gv, Int.toNat_of_nonneg, Int.cast_ofNat_Int, ht_sI, ht_sJ, ht_sR, hn_sI, hn_sJ, hn_sR, hR_sI, hR_sJ, kI_v, kV_v, kJ_v, true_and, and_true, forall_eq, tg, ln, rf, ne_eq, not_false_eq_true, forall_const, not_true_eq_false, false_implies, st_t s]
  refine c_fineb ok s ms (by omega) (by omega) (by omega) (by omega) (fun g => ?_) (fun g h' p => ?_)
  · rw [decide_eq_true_eq] at g
    have a26 : gv (hsI h (ad 23) 0 (ii 0)) (ad 26) = gv h (ad 26) := gv_sIn (st_ne s (by decide) (by decide) (by decide))
    have a30 : gv (hsI h (ad 23) 0 (ii 0)) (ad 30) = gv h (ad 30) := gv_sIn (st_ne s (by decide) (by decide) (by decide))
    have a31 : gv (hsI h (ad 23) 0 (ii 0)) (ad 31) = gv h (ad 31) := gv_sIn (st_ne s (by decide) (by decide) (by decide))
    have a32 : gv (hsI h (ad 23) 0 (ii 0)) (ad 32) = gv h (ad 32) := gv_sIn (st_ne s (by decide) (by decide) (by decide))
    have z0 : gv (hsI h (ad 23) 0 (ii 0)) (ad 23) 0 = 0 := by rw [e0, ud_eq]
    simp (disch := first | omega | decide | assumption | exact st_ne s0 (by decide) (by decide) (by decide) | exact dyn_ne (by assumption) (by decide) | fail) only [Int.reduceAdd, Int.reduceSub, Int.reduceNeg, ii_add, ii_sub, ii_mul, ii_lt, ii_le, ii_eq, ixn_ii, ixo_ii, rem_ii, nb_1, nb_0, nb_bb, bb_0, hI_gv, Int.toNat_of_nonneg, Int.cast_ofNat_Int, ht_sI, ht_sJ, ht_sR, hn_sI, hn_sJ, hn_sR, hR_sI, hR_sJ, kI_v, kV_v, kJ_v, true_and, and_true, forall_eq, tg, ln, rf, ne_eq, not_false_eq_true, forall_const, not_true_eq_false, false_implies, Int.reduceEq, Int.reduceLT, Int.reduceLE, implies_true, and_self, reduceCtorEq, false_and,]
    generalize hsI h (ad 23) 0 (ii 0) = h1 at *
    refine c_text_27 ok g.1 (by omega) x.toNat 0 h1 (by decide) (by omega) s1 (fun h2 f2 e2 => ?_)
    have s2 := st_fr s1 f2
    have b26 : gv h2 (ad 26) = gv h (ad 26) := (fr_gv s1 f2 (by decide) (by decide) rfl p33_lt).trans a26
    have b30 : gv h2 (ad 30) = gv h (ad 30) := (fr_gv s1 f2 (by decide) (by decide) rfl p33_lt).trans a30
    have b31 : gv h2 (ad 31) = gv h (ad 31) := (fr_gv s1 f2 (by decide) (by decide) rfl p33_lt).trans a31
    have y0 : gv h2 (ad 23) 0 = 0 := (fr_gf s1 f2 rfl p33_lt rfl).trans z0
    have tt : ∀ z, 0 ≤ z → z < x → gv h2 (ad 33) z = byx (gv h (ad 32) z) := fun z z1 z2 => by rw [e2, if_pos ⟨z1, z2⟩, a32]
    have f12 : fr ad pTY fTY false h h2 := fr_tr fa (fr_mono (fun j e => by unfold pTY; rw [e, Bool.or_true]) (fun z e => by cases e) (fun e => e) f2)
    have mo : ∀ h', fr ad pN fQx false h2 h' → fr ad pTY fTY false h2 h' := fun h' f' => fr_mono (fun j e => by unfold pTY; rw [e, Bool.true_or]) (fun z e => by unfold fTY; rw [e, Bool.or_true]) (fun e => e) f'
    refine c_text_hd ok s2 rfl g.1 (by omega) (fun kd wh e h3 f3 g3 g4 => ?_) (fun H' m' o' w' L' e v3 h3 f3 g3 n3 g4 => ?_)
    · rw [b26, b30, b31] at e
      exact qX g _ tt kd wh e h3 (fr_tr f12 (mo _ f3)) ((fr_gf s2 f3 rfl pN_lt rfl).trans y0) g3 g4
    · rw [b26, b30, b31] at e
      exact qY g _ tt H' m' o' w' L' e v3 h3 (Or.inr ⟨fr_tr f12 (mo _ f3), (fr_gf s2 f3 rfl pN_lt rfl).trans y0, g3, n3, g4⟩)
  · rw [decide_eq_false_iff_not] at g
    simp (disch := first | omega | decide | assumption | exact st_ne s0 (by decide) (by decide) (by decide) | exact dyn_ne (by assumption) (by decide) | fail) only [Int.reduceAdd, Int.reduceSub, Int.reduceNeg, ii_add, ii_sub, ii_mul, ii_lt, ii_le, ii_eq, ixn_ii, ixo_ii, rem_ii, nb_1, nb_0, nb_bb, bb_0, hI_gv, Int.toNat_of_nonneg, Int.cast_ofNat_Int, ht_sI, ht_sJ, ht_sR, hn_sI, hn_sJ, hn_sR, hR_sI, hR_sJ, kI_v, kV_v, kJ_v, true_and, and_true, forall_eq, tg, ln, rf, ne_eq, not_false_eq_true, forall_const, not_true_eq_false, false_implies, Int.reduceEq, Int.reduceLT, Int.reduceLE, implies_true, and_self, reduceCtorEq, false_and,]
    exact r g h' p
end TXD
