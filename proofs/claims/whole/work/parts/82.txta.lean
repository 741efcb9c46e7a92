/-! TEXT: what was read is taken over; the reference -/
def cpy (N : Int) (a b : Int → Int) (z : Int) : Int := if 0 ≤ z ∧ z < N then a z else b z
def pO (i : Nat) : Bool := Nat.beq i 25 || (Nat.beq i 28 || Nat.beq i 29)
def fO (z : Int) : Bool := decide (9 ≤ z ∧ z ≤ 11)
section TXA
variable {E : tr_Env} {ad : Nat → Nat} {h h0 h1 : tr_H} {Q : tr_Q} {t m one two : Int → Int} {n s p H L a b z : Int}
theorem c_text_183 (ok : tr_ok E) : ∀ (k : Nat) (i : Int) (h : tr_H), 0 ≤ i → i + k = 867 → stat ad h → (∀ h', fr ad pO fO false h h' → gv h' (ad 28) = gv h (ad 28) → gv h' (ad 29) = gv h (ad 29) → (∀ z, gv h' (ad 25) z = if i ≤ z ∧ z < 867 then gv h (ad 26) z else gv h (ad 25) z) → tr_G E 151 Q 210 [some (.inr (.inr (ad 23))), none, some (.inl (ii 0))] [] h' 0 0) → tr_G E 151 Q 183 [some (.inr (.inr (ad 23))), none, some (.inl (ii i))] [] h 0 0 := by
  intro k
  induction k with
  | zero =>
    intro i h i0 i1 s q
    refine T_X8_text_183 ok ?_
    simp (disch := first | omega | decide | assumption | exact st_ne s0 (by decide) (by decide) (by decide) | exact dyn_ne (by assumption) (by decide) | fail) only [Int.reduceAdd, Int.reduceSub, Int.reduceNeg, ii_add, ii_sub, ii_mul, ii_lt, ii_le, ii_eq, ixn_ii, ixo_ii, rem_ii, nb_1, nb_0, nb_bb, bb_0, hI_gv, Int.toNat_of_nonneg, Int.cast_ofNat_Int, ht_sI, ht_sJ, ht_sR, hn_sI, hn_sJ, hn_sR, hR_sI, hR_sJ, kI_v, kV_v, kJ_v, true_and, and_true, forall_eq, tg, ln, rf, ne_eq, not_false_eq_true, forall_const, not_true_eq_false, false_implies, W_X8_text_183]
    exact ⟨fun g => by omega, fun _ => q h fr_rfl rfl rfl (fun z => by rw [if_neg (by omega)])⟩
  | succ k ih =>
    intro i h i0 i1 s q
    refine T_X8_text_183 ok ?_
    have b := gv_rg h (ad 26) i
    simp (disch := first | omega | decide | assumption | exact st_ne s0 (by decide) (by decide) (by decide) | exact dyn_ne (by assumption) (by decide) | fail) only [Int.reduceAdd, Int.reduceSub, Int.reduceNeg, ii_add, ii_sub, ii_mul, ii_lt, ii_le, ii_eq, ixn_ii, ixo_ii, rem_ii, nb_1, nb_0, nb_bb, bb_0, hI_gv, Int.toNat_of_nonneg, Int.cast_ofNat_Int, ht_sI, ht_sJ, ht_sR, hn_sI, hn_sJ, hn_sR, hR_sI, hR_sJ, kI_v, kV_v, kJ_v, true_and, and_true, forall_eq, tg, ln, rf, ne_eq, not_false_eq_true, forall_const, not_true_eq_false, false_implies, W_X8_text_183, st_t s, st_n s, st_r s]
    refine ⟨fun _ => ⟨⟨by omega, by omega⟩, ⟨by omega, by omega⟩, ?_⟩, fun g => by omega⟩
    have f1 : fr ad pO fO false h (hsI h (ad 25) i.toNat (ii (gv h (ad 26) i))) := fr_sIs rfl
    have e6 : gv (hsI h (ad 25) i.toNat (ii (gv h (ad 26) i))) (ad 26) = gv h (ad 26) := gv_sIn (st_ne s (by decide) (by decide) (by decide))
    refine ih (i + 1) _ (by omega) (by omega) (st_fr s f1) (fun h' f' e1 e2 e' => q h' (fr_tr f1 f') (e1.trans (gv_sIn (st_ne s (by decide) (by decide) (by decide)))) (e2.trans (gv_sIn (st_ne s (by decide) (by decide) (by decide)))) (fun z => ?_))
    rw [e', e6, gv_sIi b.1 b.2, Int.toNat_of_nonneg i0]
    by_cases c : z = i
    · rw [if_neg (by omega), if_pos (by omega), c, ud_eq]
    · rw [ud_ne c]
      by_cases c2 : i ≤ z ∧ z < 867
      · rw [if_pos c2, if_pos (by omega)]
      · rw [if_neg c2, if_neg (by omega)]
theorem c_text_210 (ok : tr_ok E) : ∀ (k : Nat) (i : Int) (h : tr_H), 0 ≤ i → i + k = 24 → stat ad h → gv h (ad 23) 21 = H → gv h (ad 23) 22 = L → (∀ h', fr ad pO fO false h h' → gv h' (ad 25) = gv h (ad 25) → (∀ z, gv h' (ad 28) z = if i ≤ z ∧ z < 24 then gv h (ad 30) z else gv h (ad 28) z) → (∀ z, gv h' (ad 29) z = if i ≤ z ∧ z < 24 then gv h (ad 31) z else gv h (ad 29) z) → gv h' (ad 23) = ud (ud (ud (gv h (ad 23)) 10 H) 11 L) 9 0 → Q (.inl (some (.inl (ii L)))) h') → tr_G E 151 Q 210 [some (.inr (.inr (ad 23))), none, some (.inl (ii i))] [] h 0 0 := by
  intro k
  induction k with
  | zero =>
    intro i h i0 i1 s eH eL q
    refine T_X8_text_210 ok ?_
    have bH := gv_rg h (ad 23) 21
    have bL := gv_rg h (ad 23) 22
    rw [eH] at bH
    rw [eL] at bL
    have y1 : gv (hsI h (ad 23) 10 (ii H)) (ad 23) = ud (gv h (ad 23)) 10 H := gv_sIi bH.1 bH.2
    have y22 : gv (hsI h (ad 23) 10 (ii H)) (ad 23) 22 = L := by rw [y1, ud_ne (by decide)]; exact eL
    have y2 : gv (hsI (hsI h (ad 23) 10 (ii H)) (ad 23) 11 (ii L)) (ad 23) = ud (ud (gv h (ad 23)) 10 H) 11 L := by rw [gv_sIi bL.1 bL.2, y1]; rfl
    have y3 : gv (hsI (hsI (hsI h (ad 23) 10 (ii H)) (ad 23) 11 (ii L)) (ad 23) 9 (ii 0)) (ad 23) = ud (ud (ud (gv h (ad 23)) 10 H) 11 L) 9 0 := by rw [gv_sIi (by omega) (by omega), y2]; rfl
    have y311 : gv (hsI (hsI (hsI h (ad 23) 10 (ii H)) (ad 23) 11 (ii L)) (ad 23) 9 (ii 0)) (ad 23) 11 = L := by rw [y3, ud_ne (by decide), ud_eq]
    have fin := q (hsI (hsI (hsI h (ad 23) 10 (ii H)) (ad 23) 11 (ii L)) (ad 23) 9 (ii 0)) (fr_sF (fr_sF (fr_sFs rfl) rfl) rfl) (by rw [gv_sIn (st_ne s (by decide) (by decide) (by decide)), gv_sIn (st_ne s (by decide) (by decide) (by decide)), gv_sIn (st_ne s (by decide) (by decide) (by decide))]) (fun z => by rw [if_neg (by omega), gv_sIn (st_ne s (by decide) (by decide) (by decide)), gv_sIn (st_ne s (by decide) (by decide) (by decide)), gv_sIn (st_ne s (by decide) (by decide) (by decide))]) (fun z => by rw [if_neg (by omega), gv_sIn (st_ne s (by decide) (by decide) (by decide)), gv_sIn (st_ne s (by decide) (by decide) (by decide)), gv_sIn (st_ne s (by decide) (by decide) (by decide))]) y3
    simp (disch := first | omega | decide | assumption | exact st_ne s0 (by decide) (by decide) (by decide) | exact dyn_ne (by assumption) (by decide) | fail) only [Int.reduceAdd, Int.reduceSub, Int.reduceNeg, ii_add, ii_sub, ii_mul, ii_lt, ii_le, ii_eq, ixn_ii, ixo_ii, rem_ii, nb_1, nb_0, nb_bb, bb_0, hI_gv, Int.toNat_of_nonneg, Int.cast_ofNat_Int, ht_sI, ht_sJ, ht_sR, hn_sI, hn_sJ, hn_sR, hR_sI, hR_sJ, kI_v, kV_v, kJ_v, true_and, and_true, forall_eq, tg, ln, rf, ne_eq, not_false_eq_true, forall_const, not_true_eq_false, false_implies, W_X8_text_210, st_t s, eH, y22, y311]
    exact ⟨fun g => by omega, fun _ => fin⟩
  | succ k ih =>
    intro i h i0 i1 s eH eL q
    refine T_X8_text_210 ok ?_
    have b0 := gv_rg h (ad 30) i
    have b1 := gv_rg h (ad 31) i
    have z31 : gv (hsI h (ad 28) i.toNat (ii (gv h (ad 30) i))) (ad 31) = gv h (ad 31) := gv_sIn (st_ne s (by decide) (by decide) (by decide))
    simp (disch := first | omega | decide | assumption | exact st_ne s0 (by decide) (by decide) (by decide) | exact dyn_ne (by assumption) (by decide) | fail) only [Int.reduceAdd, Int.reduceSub, Int.reduceNeg, ii_add, ii_sub, ii_mul, ii_lt, ii_le, ii_eq, ixn_ii, ixo_ii, rem_ii, nb_1, nb_0, nb_bb, bb_0, hI_gv, Int.toNat_of_nonneg, Int.cast_ofNat_Int, ht_sI, ht_sJ, ht_sR, hn_sI, hn_sJ, hn_sR, hR_sI, hR_sJ, kI_v, kV_v, kJ_v, true_and, and_true, forall_eq, tg, ln, rf, ne_eq, not_false_eq_true, forall_const, not_true_eq_false, false_implies, W_X8_text_210, st_t s, st_n s, st_r s, z31]
    refine ⟨fun _ => ⟨⟨by omega, by omega⟩, ⟨by omega, by omega⟩, ⟨by omega, by omega⟩, ⟨by omega, by omega⟩, ?_⟩, fun g => by omega⟩
    have f1 : fr ad pO fO false h (hsI (hsI h (ad 28) i.toNat (ii (gv h (ad 30) i))) (ad 29) i.toNat (ii (gv h (ad 31) i))) := fr_sI (fr_sIs rfl) rfl
    have w23 : gv (hsI (hsI h (ad 28) i.toNat (ii (gv h (ad 30) i))) (ad 29) i.toNat (ii (gv h (ad 31) i))) (ad 23) = gv h (ad 23) := by rw [gv_sIn (st_ne s (by decide) (by decide) (by decide)), gv_sIn (st_ne s (by decide) (by decide) (by decide))]
    have w30 : gv (hsI (hsI h (ad 28) i.toNat (ii (gv h (ad 30) i))) (ad 29) i.toNat (ii (gv h (ad 31) i))) (ad 30) = gv h (ad 30) := by rw [gv_sIn (st_ne s (by decide) (by decide) (by decide)), gv_sIn (st_ne s (by decide) (by decide) (by decide))]
    have w31 : gv (hsI (hsI h (ad 28) i.toNat (ii (gv h (ad 30) i))) (ad 29) i.toNat (ii (gv h (ad 31) i))) (ad 31) = gv h (ad 31) := by rw [gv_sIn (st_ne s (by decide) (by decide) (by decide)), gv_sIn (st_ne s (by decide) (by decide) (by decide))]
    have w28 : gv (hsI (hsI h (ad 28) i.toNat (ii (gv h (ad 30) i))) (ad 29) i.toNat (ii (gv h (ad 31) i))) (ad 28) = ud (gv h (ad 28)) i (gv h (ad 30) i) := by rw [gv_sIn (st_ne s (by decide) (by decide) (by decide)), gv_sIi b0.1 b0.2, Int.toNat_of_nonneg i0]
    have w29 : gv (hsI (hsI h (ad 28) i.toNat (ii (gv h (ad 30) i))) (ad 29) i.toNat (ii (gv h (ad 31) i))) (ad 29) = ud (gv h (ad 29)) i (gv h (ad 31) i) := by rw [gv_sIi b1.1 b1.2, gv_sIn (st_ne s (by decide) (by decide) (by decide)), Int.toNat_of_nonneg i0]
    have w25 : gv (hsI (hsI h (ad 28) i.toNat (ii (gv h (ad 30) i))) (ad 29) i.toNat (ii (gv h (ad 31) i))) (ad 25) = gv h (ad 25) := by rw [gv_sIn (st_ne s (by decide) (by decide) (by decide)), gv_sIn (st_ne s (by decide) (by decide) (by decide))]
    have up : ∀ (g f : Int → Int) (z : Int), (if i + 1 ≤ z ∧ z < 24 then g z else ud f i (g i) z) = if i ≤ z ∧ z < 24 then g z else f z := fun g f z => by
      by_cases c : z = i
      · rw [if_neg (by omega), if_pos (by omega), c, ud_eq]
      · rw [ud_ne c]
        by_cases c2 : i ≤ z ∧ z < 24
        · rw [if_pos c2, if_pos (by omega)]
        · rw [if_neg c2, if_neg (by omega)]
    refine ih (i + 1) _ (by omega) (by omega) (st_fr s f1) (by rw [w23]; exact eH) (by rw [w23]; exact eL) (fun h' f' e0 e1 e2 e' => q h' (fr_tr f1 f') (e0.trans w25) (fun z => ?_) (fun z => ?_) (by rw [e', w23]))
    · rw [e1, w28, w30, up]
    · rw [e2, w29, w31, up]
end TXA
