/-! TEXT of the reference -/
def pTX (i : Nat) : Bool := pN i || (p33 i || pO i)
def fTX (z : Int) : Bool := decide (z = 0) || (fQx z || fO z)
def pTY (i : Nat) : Bool := pN i || p33 i
def fTY (z : Int) : Bool := decide (z = 0) || fQx z
section TXD
variable {E : tr_Env} {ad : Nat → Nat} {h h0 h1 : tr_H} {Q : tr_Q} {x N : Int}
theorem c_text1 (ok : tr_ok E) (s : stat ad h) (hN : gv h (ad 23) 14 = N) (N0 : 0 ≤ N) (N1 : N ≤ 400) (x0 : -2147483648 ≤ x) (x1 : x ≤ 2147483647) (r : ¬ (0 ≤ x ∧ x ≤ N) → ∀ h', mpo ad h 1 1 h' → Q (.inl (some (.inl (ii 0)))) h') (qX : 0 ≤ x ∧ x ≤ N → ∀ t, (∀ z, z < x → t z = byx (gv h (ad 32) z)) → ∀ kd wh, txAll t (clf (gv h (ad 26))) (gv h (ad 30)) (gv h (ad 31)) x = .inl (kd, wh) → ∀ h', fr ad pTY fTY false h h' → gv h' (ad 23) 0 = 0 → gv h' (ad 23) 14 = 0 → gv h' (ad 23) 20 = wh → Q (.inl (some (.inl (ii (kd - 10))))) h') (qY : 0 ≤ x ∧ x ≤ N → ∀ t, (∀ z, z < x → t z = byx (gv h (ad 32) z)) → ∀ H' m' o' w' L', txAll t (clf (gv h (ad 26))) (gv h (ad 30)) (gv h (ad 31)) x = .inr (H', m', o', w', L') → vk m' o' w' H' L' → ∀ h', (fr ad pTY fTY false h h' ∧ gv h' (ad 23) 0 = 0 ∧ gv h' (ad 23) 14 = 0 ∧ rN ad h' m' o' w' H' L' ∧ gv h' (ad 23) 20 = -1) → tr_G E 151 Q 183 [some (.inr (.inr (ad 23))), none, some (.inl (ii 0))] [] h' 0 0) : tr_C E 151 [.inr (.inr (ad 23)), .inl (ii x)] h Q := by
  refine T_X8_text ok ?_
  have ms := m_start s
  have e0 : gv (hsI h (ad 23) 0 (ii 0)) (ad 23) = ud (gv h (ad 23)) 0 0 := by rw [gv_sIi (by omega) (by omega)]; rfl
  have e14 : gv (hsI h (ad 23) 0 (ii 0)) (ad 23) 14 = N := by rw [e0, ud_ne (by decide)]; exact hN
  have fa : fr ad pTY fTY false h (hsI h (ad 23) 0 (ii 0)) := fr_sFs rfl
  have f00 : fr ad p00 fTY false h (hsI h (ad 23) 0 (ii 0)) := fr_sFs rfl
  have s1 := st_fr s fa
  simp (disch := first | omega | decide | assumption | exact st_ne s0 (by decide) (by decide) (by decide) | exact dyn_ne (by assumption) (by decide) | fail) only [Int.reduceAdd, Int.reduceSub, Int.reduceNeg, ii_add, ii_sub, ii_mul, ii_lt, ii_le, ii_eq, ixn_ii, ixo_ii, rem_ii, nb_1, nb_0, nb_bb, bb_0, hI_gv, Int.toNat_of_nonneg, Int.cast_ofNat_Int, ht_sI, ht_sJ, ht_sR, hn_sI, hn_sJ, hn_sR, hR_sI, hR_sJ, kI_v, kV_v, kJ_v, true_and, and_true, forall_eq, tg, ln, rf, ne_eq, not_false_eq_true, forall_const, not_true_eq_false, false_implies, W_X8_text, st_t s, e14]
  refine c_within ok x0 x1 (by omega) (by omega) (by omega) (by omega) ?_
  simp (disch := first | omega | decide | assumption | exact st_ne s0 (by decide) (by decide) (by decide) | exact dyn_ne (by assumption) (by decide) | fail) only [Int.reduceAdd, Int.reduceSub, Int.reduceNeg, ii_add, ii_sub, ii_mul, ii_lt, ii_le, ii_eq, ixn_ii, ixo_ii, rem_ii, nb_1, nb_0, nb_bb, bb_0, hI_gv, Int.toNat_of_nonneg, Int.cast_ofNat_Int, ht_sI, ht_sJ, ht_sR, hn_sI, hn_sJ, hn_sR, hR_sI, hR_sJ, kI_v, kV_v, kJ_v, true_and, and_true, forall_eq, tg, ln, rf, ne_eq, not_false_eq_true, forall_const, not_true_eq_false, false_implies, st_t s]
  refine c_fineb ok s ms (by omega) (by omega) (by omega) (by omega) (fun g => ?_) (fun g h' p => ?_)
  · rw [decide_eq_true_eq] at g
    have a26 : gv (hsI h (ad 23) 0 (ii 0)) (ad 26) = gv h (ad 26) := gv_sIn (st_ne s (by decide) (by decide) (by decide))
    have a30 : gv (hsI h (ad 23) 0 (ii 0)) (ad 30) = gv h (ad 30) := gv_sIn (st_ne s (by decide) (by decide) (by decide))
    have a31 : gv (hsI h (ad 23) 0 (ii 0)) (ad 31) = gv h (ad 31) := gv_sIn (st_ne s (by decide) (by decide) (by decide))
    have a32 : gv (hsI h (ad 23) 0 (ii 0)) (ad 32) = gv h (ad 32) := gv_sIn (st_ne s (by decide) (by decide) (by decide))
    have z0 : gv (hsI h (ad 23) 0 (ii 0)) (ad 23) 0 = 0 := by rw [e0, ud_eq]
    simp (disch := first | omega | decide | assumption | exact st_ne s0 (by decide) (by decide) (by decide) | exact dyn_ne (by assumption) (by decide) | fail) only [Int.reduceAdd, Int.reduceSub, Int.reduceNeg, ii_add, ii_sub, ii_mul, ii_lt, ii_le, ii_eq, ixn_ii, ixo_ii, rem_ii, nb_1, nb_0, nb_bb, bb_0, hI_gv, Int.toNat_of_nonneg, Int.cast_ofNat_Int, ht_sI, ht_sJ, ht_sR, hn_sI, hn_sJ, hn_sR, hR_sI, hR_sJ, kI_v, kV_v, kJ_v, true_and, and_true, forall_eq, tg, ln, rf, ne_eq, not_false_eq_true, forall_const, not_true_eq_false, false_implies, Int.reduceEq, Int.reduceLT, Int.reduceLE, implies_true, and_self, reduceCtorEq, false_and,]
    generalize hsI h (ad 23) 0 (ii 0) = h1 at *
    refine c_text_27 ok g.1 (by omega) x.toNat 0 h1 (by decide) (by omega) s1 (fun h2 f2 e2 => ?_)
    have s2 := st_fr s1 f2
    have b26 : gv h2 (ad 26) = gv h (ad 26) := (fr_gv s1 f2 (by decide) (by decide) rfl p33_lt).trans a26
    have b30 : gv h2 (ad 30) = gv h (ad 30) := (fr_gv s1 f2 (by decide) (by decide) rfl p33_lt).trans a30
    have b31 : gv h2 (ad 31) = gv h (ad 31) := (fr_gv s1 f2 (by decide) (by decide) rfl p33_lt).trans a31
    have y0 : gv h2 (ad 23) 0 = 0 := (fr_gf s1 f2 rfl p33_lt rfl).trans z0
    have tt : ∀ z, z < x → gv h2 (ad 33) z = byx (gv h (ad 32) z) := fun z z2 => by
      by_cases z1 : 0 ≤ z
      · rw [e2, if_pos ⟨z1, z2⟩, a32]
      · have e : ∀ (a : tr_H) (b : Nat), gv a b z = 0 := fun a b => by unfold gv; rw [if_pos (by omega)]
        rw [e, e]; decide
    have f12 : fr ad pTY fTY false h h2 := fr_tr fa (fr_mono (fun j e => by unfold pTY; rw [e, Bool.or_true]) (fun z e => by cases e) (fun e => e) f2)
    have mo : ∀ h', fr ad pN fQx false h2 h' → fr ad pTY fTY false h2 h' := fun h' f' => fr_mono (fun j e => by unfold pTY; rw [e, Bool.true_or]) (fun z e => by unfold fTY; rw [e, Bool.or_true]) (fun e => e) f'
    refine c_text_hd ok s2 rfl g.1 (by omega) (fun kd wh e h3 f3 g3 g4 => ?_) (fun H' m' o' w' L' e v3 h3 f3 g3 n3 g4 => ?_)
    · rw [b26, b30, b31] at e
      exact qX g _ tt kd wh e h3 (fr_tr f12 (mo _ f3)) ((fr_gf s2 f3 rfl pN_lt rfl).trans y0) g3 g4
    · rw [b26, b30, b31] at e
      exact qY g _ tt H' m' o' w' L' e v3 h3 ⟨fr_tr f12 (mo _ f3), (fr_gf s2 f3 rfl pN_lt rfl).trans y0, g3, n3, g4⟩
  · rw [decide_eq_false_iff_not] at g
    simp (disch := first | omega | decide | assumption | exact st_ne s0 (by decide) (by decide) (by decide) | exact dyn_ne (by assumption) (by decide) | fail) only [Int.reduceAdd, Int.reduceSub, Int.reduceNeg, ii_add, ii_sub, ii_mul, ii_lt, ii_le, ii_eq, ixn_ii, ixo_ii, rem_ii, nb_1, nb_0, nb_bb, bb_0, hI_gv, Int.toNat_of_nonneg, Int.cast_ofNat_Int, ht_sI, ht_sJ, ht_sR, hn_sI, hn_sJ, hn_sR, hR_sI, hR_sJ, kI_v, kV_v, kJ_v, true_and, and_true, forall_eq, tg, ln, rf, ne_eq, not_false_eq_true, forall_const, not_true_eq_false, false_implies, Int.reduceEq, Int.reduceLT, Int.reduceLE, implies_true, and_self, reduceCtorEq, false_and,]
    exact r g h' p
def MTX (ad : Nat → Nat) (h : tr_H) (H' : Int) (m' o' w' : Int → Int) (L' : Int) (h' : tr_H) : Prop := fr ad pTX fTX false h h' ∧ gv h' (ad 23) 0 = 0 ∧ gv h' (ad 23) 14 = 0 ∧ gv h' (ad 23) 20 = -1 ∧ gv h' (ad 23) 9 = 0 ∧ gv h' (ad 23) 10 = H' ∧ gv h' (ad 23) 11 = L' ∧ (∀ z, gv h' (ad 25) z = cpy 867 m' (gv h (ad 25)) z) ∧ (∀ z, gv h' (ad 28) z = cpy 24 o' (gv h (ad 28)) z) ∧ ∀ z, gv h' (ad 29) z = cpy 24 w' (gv h (ad 29)) z
theorem pTY_lt (j : Nat) (h : pTY j = true) : j < 42 := by
  unfold pTY at h
  rw [Bool.or_eq_true] at h
  rcases h with h | h
  · exact pN_lt j h
  · exact p33_lt j h
theorem pO_lt (j : Nat) (h : pO j = true) : j < 42 := by
  unfold pO at h
  simp only [Bool.or_eq_true, Nat.beq_eq] at h
  omega
theorem M_text (ok : tr_ok E) (s : stat ad h) (hN : gv h (ad 23) 14 = N) (N0 : 0 ≤ N) (N1 : N ≤ 400) (x0 : -2147483648 ≤ x) (x1 : x ≤ 2147483647) (r : ¬ (0 ≤ x ∧ x ≤ N) → ∀ h', mpo ad h 1 1 h' → Q (.inl (some (.inl (ii 0)))) h') (qX : 0 ≤ x ∧ x ≤ N → ∀ t, (∀ z, z < x → t z = byx (gv h (ad 32) z)) → ∀ kd wh, txAll t (clf (gv h (ad 26))) (gv h (ad 30)) (gv h (ad 31)) x = .inl (kd, wh) → ∀ h', fr ad pTY fTY false h h' → gv h' (ad 23) 0 = 0 → gv h' (ad 23) 14 = 0 → gv h' (ad 23) 20 = wh → Q (.inl (some (.inl (ii (kd - 10))))) h') (qY : 0 ≤ x ∧ x ≤ N → ∀ t, (∀ z, z < x → t z = byx (gv h (ad 32) z)) → ∀ H' m' o' w' L', txAll t (clf (gv h (ad 26))) (gv h (ad 30)) (gv h (ad 31)) x = .inr (H', m', o', w', L') → vk m' o' w' H' L' → ∀ h', MTX ad h H' m' o' w' L' h' → Q (.inl (some (.inl (ii L')))) h') : tr_C E 151 [.inr (.inr (ad 23)), .inl (ii x)] h Q := by
  refine c_text1 ok s hN N0 N1 x0 x1 r qX (fun g t tt H' m' o' w' L' e v h3 ⟨f3, a0, a14, n3, a20⟩ => ?_)
  have s3 := st_fr s f3
  obtain ⟨j1, j2, j3, j4, j5⟩ := id n3
  refine c_text_183 ok 867 0 h3 (by decide) (by decide) s3 (fun h4 f4 b1 b2 b3 => ?_)
  have s4 := st_fr s3 f4
  refine c_text_210 ok (H := H') (L := L') 24 0 h4 (by decide) (by decide) s4 ((fr_gf s3 f4 rfl pO_lt rfl).trans j4) ((fr_gf s3 f4 rfl pO_lt rfl).trans j5) (fun h5 f5 d0 d1 d2 d3 => ?_)
  have o1 : ∀ a b, fr ad pTY fTY false a b → fr ad pTX fTX false a b := fun a b f => fr_mono (fun j e => by
    unfold pTY at e; unfold pTX
    cases h1 : pN j <;> cases h2 : p33 j <;> simp_all) (fun z e => by
    unfold fTY at e; unfold fTX
    rw [Bool.or_eq_true] at e ⊢
    rcases e with e | e
    · exact Or.inl e
    · rw [e, Bool.true_or]; exact Or.inr rfl) (fun e => e) f
  have o2 : ∀ a b, fr ad pO fO false a b → fr ad pTX fTX false a b := fun a b f => fr_mono (fun j e => by unfold pTX; rw [e, Bool.or_true, Bool.or_true]) (fun z e => by unfold fTX; rw [e, Bool.or_true, Bool.or_true]) (fun e => e) f
  have c0 : ∀ z, fO z = false → gv h5 (ad 23) z = gv h3 (ad 23) z := fun z e => (fr_gf s4 f5 rfl pO_lt e).trans (fr_gf s3 f4 rfl pO_lt e)
  have i30 : gv h4 (ad 30) = o' := (fr_gv s3 f4 (by decide) (by decide) rfl pO_lt).trans j2
  have i31 : gv h4 (ad 31) = w' := (fr_gv s3 f4 (by decide) (by decide) rfl pO_lt).trans j3
  have u25 : gv h3 (ad 25) = gv h (ad 25) := fr_gv s f3 (by decide) (by decide) rfl pTY_lt
  have u28 : gv h3 (ad 28) = gv h (ad 28) := fr_gv s f3 (by decide) (by decide) rfl pTY_lt
  have u29 : gv h3 (ad 29) = gv h (ad 29) := fr_gv s f3 (by decide) (by decide) rfl pTY_lt
  refine qY g t tt H' m' o' w' L' e v h5 ⟨fr_tr (o1 _ _ f3) (fr_tr (o2 _ _ f4) (o2 _ _ f5)), (c0 0 rfl).trans a0, (c0 14 rfl).trans a14, (c0 20 rfl).trans a20, ?_, ?_, ?_, fun z => ?_, fun z => ?_, fun z => ?_⟩
  · rw [d3, ud_eq]
  · rw [d3, ud_ne (by decide), ud_ne (by decide), ud_eq]
  · rw [d3, ud_ne (by decide), ud_eq]
  · rw [d0, b3, j1, u25]; rfl
  · rw [d1, i30, b1, u28]; rfl
  · rw [d2, i31, b2, u29]; rfl
end TXD
