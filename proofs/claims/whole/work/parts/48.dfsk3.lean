/-! JOINING, BY THE CLASS: ends, sets, steps back -/
section DFK3
variable {E : tr_Env} {ad : Nat → Nat} {h h0 h1 h2 : tr_H} {Q : tr_Q} {m one two : Int → Int} {H L : Int} {nd : Nd} {a : Ac} {nn : Nat} {d : Int}
/-- which walk a place belongs to -/
theorem wk_at (n : nok one two H L 0 nd) : ∀ (m : Nat) (j : Int), 0 ≤ j → m ≤ nd.w → j < nd.bg m → ∃ k, 0 ≤ k ∧ k < nd.w ∧ k < m ∧ nd.bg k ≤ j ∧ j < nd.bg (k + 1)
  | 0, j, j0, _, h => by
    have := n.g0
    simp at h
    omega
  | m + 1, j, j0, hm, h => by
    by_cases g : j < nd.bg m
    · obtain ⟨k, k0, k1, k2, k3, k4⟩ := wk_at n m j j0 (by omega) g
      exact ⟨k, k0, k1, by omega, k3, k4⟩
    · refine ⟨m, by omega, by omega, by omega, by omega, ?_⟩
      rw [show ((m : Int) + 1) = ((m + 1 : Nat) : Int) by omega]
      exact h
def pK (i : Nat) : Bool := Nat.beq i 2 || (Nat.ble 14 i && Nat.ble i 17)
theorem pK_lt (j : Nat) (h : pK j = true) : j < 42 := by
  unfold pK at h
  simp only [Bool.or_eq_true, Bool.and_eq_true, Nat.ble_eq, Nat.beq_eq] at h
  omega
theorem pK_pC (j : Nat) (h : pK j = true) : pC j = true := by
  unfold pK at h
  unfold pC
  simp only [Bool.or_eq_true, Bool.and_eq_true, Nat.ble_eq, Nat.beq_eq, Bool.not_eq_true', Bool.and_eq_false_iff, Bool.not_eq_true] at h ⊢
  refine ⟨by omega, by omega, ?_⟩
  rcases h with h | h
  · left
    rw [h]; rfl
  · right
    rw [← Bool.not_eq_true, Nat.ble_eq]
    omega
/-- what is kept so far: i places, k walks -/
def ksF (f2 f3 f8 f9 : Int) (X : tr_H) (ad : Nat → Nat) (nd : Nd) (i k : Int) : Prop := gv X (ad 2) 2 = f2 ∧ gv X (ad 2) 3 = f3 ∧ gv X (ad 2) 8 = f8 ∧ gv X (ad 2) 9 = f9 ∧ gv X (ad 2) 10 = k ∧ (∀ j, 0 ≤ j → j < i → gv X (ad 17) j = nd.M j) ∧ ∀ q, 0 ≤ q → q < k → gv X (ad 14) q = nd.hp q ∧ gv X (ad 15) q = nd.bg (q + 1) - 1 - nd.bg q ∧ gv X (ad 16) q = nd.bg q
theorem k_keepSet_2 (ok : tr_ok E) (t0 : stat ad h0) (v : vok m one two H L) (n : nok one two H L 0 nd) (cp : cpA ad h0 nd) {f2 f3 f8 f9 : Int} (q : ∀ h', fr ad pK f0 false h0 h' → ksF f2 f3 f8 f9 h' ad nd nd.d nd.w → Q (.inl none) h') : ∀ (j : Nat) (i k : Int) (h : tr_H), i + j = nd.d → 0 ≤ i → 0 ≤ k → k ≤ nd.w → nd.bg k ≤ i → (k < nd.w → i < nd.bg (k + 1)) → fr ad pK f0 false h0 h → ksF f2 f3 f8 f9 h ad nd i k → tr_G E 18 Q 2 [some (.inr (.inr (ad 2))), some (.inl (ii nd.d)), some (.inl (ii i))] [] h 0 0
  | j, i, k, h, hj, i0, k0, k1, bi, bi2, f, ks => by
    refine T_X1_keepSet_2 ok ?_
    have s0 := st_fr t0 f
    have vH := v_H v
    have vL := v_L v
    obtain ⟨b1, b2, b3, b4, b5, b6, b7⟩ := n_rg v (by decide) n
    obtain ⟨-, -, -, -, c5, c6, c8⟩ := id cp
    have g3 := n.g3 rfl
    obtain ⟨s1, s2, s3, s4, s5, s6, s7⟩ := id ks
    have e10 : gv h (ad 10) = gv h0 (ad 10) := fr_gv t0 f (by decide) (by decide) rfl pK_lt
    have e11 : gv h (ad 11) = gv h0 (ad 11) := fr_gv t0 f (by decide) (by decide) rfl pK_lt
    have e12 : gv h (ad 12) = gv h0 (ad 12) := fr_gv t0 f (by decide) (by decide) rfl pK_lt
    by_cases g : i < nd.d
    · obtain ⟨j, rfl⟩ : ∃ n', j = n' + 1 := ⟨j - 1, by omega⟩
      have kw : k < nd.w := by
        by_cases g : k < nd.w
        · exact g
        · have : k = nd.w := by omega
          subst this; omega
      have bi3 := bi2 kw
      have en : enN nd k = nd.bg (k + 1) - 1 := by unfold enN; rw [if_neg (by omega)]
      have x1 : gv h (ad 10) i = nd.M i := by rw [e10]; exact c5 i i0 g
      have x2 : gv h (ad 12) i = nd.bg k := by rw [e12]; exact c8 k i k0 kw bi (by omega)
      have x3 : gv h (ad 11) (nd.bg k) = nd.hp k := by rw [e11]; exact c6 k k0 kw
      have x4 := n.p1 k k0 (by omega)
      have x5 := n_b0 n k0 k1
      have f1 : fr ad pK f0 false h0 (hsI h (ad 17) i.toNat (ii (nd.M i))) := fr_sI f rfl
      by_cases g2 : i = nd.bg (k + 1) - 1
      · have m2 := n.m2 k k0 kw
        rw [← g2] at m2
        rw [m2] at x1
        have z2 : ∀ w, ud (gv h (ad 2)) 10 w 2 = gv h (ad 2) 2 := fun w => ud_ne (by decide)
        have z3 : ∀ w, ud (gv h (ad 2)) 10 w 3 = gv h (ad 2) 3 := fun w => ud_ne (by decide)
        have z8 : ∀ w, ud (gv h (ad 2)) 10 w 8 = gv h (ad 2) 8 := fun w => ud_ne (by decide)
        have z9 : ∀ w, ud (gv h (ad 2)) 10 w 9 = gv h (ad 2) 9 := fun w => ud_ne (by decide)
        have z10 : ∀ w, ud (gv h (ad 2)) 10 w 10 = w := fun w => ud_eq _ _ _
        have k40 : k < 40 := by omega
        have x6 := n_le n (k := k + 1) (j := nd.w) (by omega) (by omega) (Int.le_refl _)
        have x7 : k < nd.w → k + 1 < nd.w → nd.bg (k + 1) + 1 ≤ nd.bg (k + 1 + 1) := fun _ g => n.g1 (k + 1) (by omega) g
        have dv : i - nd.bg k ≤ 520 := by omega
        simp (disch := first | omega | decide | assumption | exact st_ne s0 (by decide) (by decide) (by decide) | exact dyn_ne (by assumption) (by decide) | fail) only [Int.reduceAdd, Int.reduceSub, Int.reduceNeg, ii_add, ii_sub, ii_mul, ii_lt, ii_le, ii_eq, ixn_ii, ixo_ii, rem_ii, nb_1, nb_0, nb_bb, bb_0, hI_gv, Int.toNat_of_nonneg, Int.cast_ofNat_Int, ht_sI, ht_sJ, ht_sR, hn_sI, hn_sJ, hn_sR, hR_sI, hR_sJ, kI_v, kV_v, kJ_v, true_and, and_true, forall_eq, tg, ln, rf, ne_eq, not_false_eq_true, forall_const, not_true_eq_false, false_implies, Int.reduceEq, Int.reduceLT, Int.reduceLE, implies_true, and_self, reduceCtorEq, false_and, W_X1_keepSet_2, st_t s0, st_n s0, st_r s0, x1, s5, gv_sIn, x2, x3]
        refine ⟨fun _ => ⟨by omega, by omega, by omega, fun _ => ⟨by omega, by omega, by omega, by omega, by omega, by omega, by omega, ?_⟩, fun g3 => absurd k40 g3⟩, fun g3 => absurd g g3⟩
        refine k_keepSet_2 ok t0 v n cp q j (i + 1) (k + 1) _ (by omega) (by omega) (by omega) (by omega) (by omega) (fun g => by have := x7 kw g; omega) (fr_sI (fr_sI (fr_sI (fr_sI (fr_sI f rfl) rfl) rfl) rfl) rfl) ?_
        unfold ksF
        simp (disch := first | omega | decide | assumption | exact st_ne s0 (by decide) (by decide) (by decide) | exact dyn_ne (by assumption) (by decide) | fail) only [Int.reduceAdd, Int.reduceSub, Int.reduceNeg, ii_add, ii_sub, ii_mul, ii_lt, ii_le, ii_eq, ixn_ii, ixo_ii, rem_ii, nb_1, nb_0, nb_bb, bb_0, hI_gv, Int.toNat_of_nonneg, Int.cast_ofNat_Int, ht_sI, ht_sJ, ht_sR, hn_sI, hn_sJ, hn_sR, hR_sI, hR_sJ, kI_v, kV_v, kJ_v, true_and, and_true, forall_eq, tg, ln, rf, ne_eq, not_false_eq_true, forall_const, not_true_eq_false, false_implies, gv_sIn, gv_sIi, z2, z3, z8, z9, z10]
        refine ⟨s1, s2, s3, s4, fun y y0 y1 => ?_, fun y y0 y1 => ?_⟩
        · by_cases e : y = i
          · subst e; rw [ud_eq]; exact m2.symm
          · rw [ud_ne e]; exact s6 y y0 (by omega)
        · by_cases e : y = k
          · subst e; rw [ud_eq, ud_eq, ud_eq]
            exact ⟨rfl, by omega, rfl⟩
          · rw [ud_ne e, ud_ne e, ud_ne e]; exact s7 y y0 (by omega)
      · have m1 := n.m1 k i k0 k1 bi (by omega)
        have nm : ¬ nd.M i = -1 := by omega
        simp (disch := first | omega | decide | assumption | exact st_ne s0 (by decide) (by decide) (by decide) | exact dyn_ne (by assumption) (by decide) | fail) only [Int.reduceAdd, Int.reduceSub, Int.reduceNeg, ii_add, ii_sub, ii_mul, ii_lt, ii_le, ii_eq, ixn_ii, ixo_ii, rem_ii, nb_1, nb_0, nb_bb, bb_0, hI_gv, Int.toNat_of_nonneg, Int.cast_ofNat_Int, ht_sI, ht_sJ, ht_sR, hn_sI, hn_sJ, hn_sR, hR_sI, hR_sJ, kI_v, kV_v, kJ_v, true_and, and_true, forall_eq, tg, ln, rf, ne_eq, not_false_eq_true, forall_const, not_true_eq_false, false_implies, W_X1_keepSet_2, st_t s0, st_n s0, st_r s0, x1, gv_sIn]
        refine ⟨fun _ => ⟨by omega, by omega, by omega, fun g3 => absurd g3 nm, fun _ => ?_⟩, fun g3 => absurd g g3⟩
        refine k_keepSet_2 ok t0 v n cp q j (i + 1) k _ (by omega) (by omega) k0 k1 (by omega) (fun _ => by omega) f1 ?_
        unfold ksF
        simp (disch := first | omega | decide | assumption | exact st_ne s0 (by decide) (by decide) (by decide) | exact dyn_ne (by assumption) (by decide) | fail) only [Int.reduceAdd, Int.reduceSub, Int.reduceNeg, ii_add, ii_sub, ii_mul, ii_lt, ii_le, ii_eq, ixn_ii, ixo_ii, rem_ii, nb_1, nb_0, nb_bb, bb_0, hI_gv, Int.toNat_of_nonneg, Int.cast_ofNat_Int, ht_sI, ht_sJ, ht_sR, hn_sI, hn_sJ, hn_sR, hR_sI, hR_sJ, kI_v, kV_v, kJ_v, true_and, and_true, forall_eq, tg, ln, rf, ne_eq, not_false_eq_true, forall_const, not_true_eq_false, false_implies, gv_sIn, gv_sIi]
        refine ⟨s1, s2, s3, s4, s5, fun y y0 y1 => ?_, s7⟩
        by_cases e : y = i
        · subst e; rw [ud_eq]
        · rw [ud_ne e]; exact s6 y y0 (by omega)
    · have kw : k = nd.w := by
        by_cases g : k < nd.w
        · have e1 := bi2 g
          have e2 := n_le n (k := k + 1) (j := nd.w) (by omega) (by omega) (Int.le_refl _)
          omega
        · omega
      subst kw
      obtain rfl : j = 0 := by omega
      have : i = nd.d := by omega
      subst this
      simp (disch := first | omega | decide | assumption | exact st_ne s0 (by decide) (by decide) (by decide) | exact dyn_ne (by assumption) (by decide) | fail) only [Int.reduceAdd, Int.reduceSub, Int.reduceNeg, ii_add, ii_sub, ii_mul, ii_lt, ii_le, ii_eq, ixn_ii, ixo_ii, rem_ii, nb_1, nb_0, nb_bb, bb_0, hI_gv, Int.toNat_of_nonneg, Int.cast_ofNat_Int, ht_sI, ht_sJ, ht_sR, hn_sI, hn_sJ, hn_sR, hR_sI, hR_sJ, kI_v, kV_v, kJ_v, true_and, and_true, forall_eq, tg, ln, rf, ne_eq, not_false_eq_true, forall_const, not_true_eq_false, false_implies, W_X1_keepSet_2]
      exact ⟨fun g2 => absurd g2 g, fun _ => q h f ks⟩
theorem k_keepSet (ok : tr_ok E) (t0 : stat ad h) (v : vok m one two H L) (n : nok one two H L 0 nd) (cp : cpA ad h nd) (w1 : 0 < nd.w) (h10 : gv h (ad 2) 10 = 0) (q : ∀ h', fr ad pK f0 false h h' → ksF (gv h (ad 2) 2) (gv h (ad 2) 3) (gv h (ad 2) 8) (gv h (ad 2) 9) h' ad nd nd.d nd.w → Q (.inl none) h') : tr_C E 18 [.inr (.inr (ad 2)), .inl (ii nd.d)] h Q := by
  refine T_X1_keepSet ok ?_
  obtain ⟨b1, b2, b3, b4, b5, b6, b7⟩ := n_rg v (by decide) n
  have e0 := n.g0
  have e1 := n.g1 0 (by omega) w1
  rw [e0] at e1
  refine k_keepSet_2 ok t0 v n cp q nd.d.toNat 0 0 h (by omega) (by omega) (by omega) (by omega) (by omega) (fun _ => by omega) fr_rfl ⟨rfl, rfl, rfl, rfl, h10, fun j j0 j1 => by omega, fun j j0 j1 => by omega⟩
end DFK3
