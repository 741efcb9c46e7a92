/-! JOINING, BY THE REFERENCE: the walk that goes on -/
def fS (z : Int) : Bool := decide (z = 33)
theorem fS_fJ (z : Int) (h : fS z = true) : fJ z = true := by
  unfold fS at h
  unfold fJ
  simp only [Bool.or_eq_true, Bool.and_eq_true, decide_eq_true_eq] at h ⊢
  omega
def p00 (_ : Nat) : Bool := false
theorem p00_lt (j : Nat) (h : p00 j = true) : j < 42 := by cases h
section DFM3
variable {E : tr_Env} {ad : Nat → Nat} {h h0 : tr_H} {Q : tr_Q} {m one two : Int → Int} {H L : Int} {nd : Nd} {a : Ac}
/-- a step more is counted -/
theorem step_up (s0 : stat ad h) {c : Int} (r : rsA ad h nd c) (ra : acR ad h a) (ka : aok H L 1 a) : fr ad pJ fJ false h (hsI h (ad 23) 33 (ii (a.st + 1))) ∧ rsA ad (hsI h (ad 23) 33 (ii (a.st + 1))) nd c ∧ acR ad (hsI h (ad 23) 33 (ii (a.st + 1))) a.up := by
  have f1 : fr ad p00 fS false h (hsI h (ad 23) 33 (ii (a.st + 1))) := fr_sFs rfl
  have k1 := ka.1
  refine ⟨fr_mono (fun i e => by cases e) fS_fJ (fun e => e) f1, rsA_fr s0 f1 p00_lt rfl rfl rfl rfl rfl rfl rfl rfl r, ?_⟩
  obtain ⟨a1, a2, a3⟩ := ra
  have e33 : gv (hsI h (ad 23) 33 (ii (a.st + 1))) (ad 23) 33 = a.st + 1 := by
    rw [gv_sIi (by omega) (by omega)]; exact ud_eq _ _ _
  unfold acR
  rw [fr_gv (i := 39) s0 f1 (by decide) (by decide) rfl p00_lt, fr_gv (i := 40) s0 f1 (by decide) (by decide) rfl p00_lt, fr_gv (i := 41) s0 f1 (by decide) (by decide) rfl p00_lt, fr_gf (z := 34) s0 f1 rfl p00_lt rfl, fr_gf (z := 35) s0 f1 rfl p00_lt rfl]
  exact ⟨e33, a2, a3⟩
theorem c_goes_150 (ok : tr_ok E) (v : vok m one two H L) {n d : Nat} (hd : 2 * n ≤ d) (ih : cGo E ad m one two H L n) (s : mst ad h0 m one two H L) (k : nok one two H L 1 nd) (hr : nd.ea + nd.cb ≤ n) : ∀ (j : Nat) (l : Int) (a : Ac) (h : tr_H), l + j = L → 0 ≤ l → aok H L 1 a → fr ad pJ fJ false h0 h → rsA ad h nd 1 → acR ad h a → (∀ h', fr ad pJ fJ false h0 h' → rsA ad h' nd 1 → acR ad h' (lpP one two (goP one two H L n) nd l j a) → Q (.inl none) h') → tr_Gr E (d + 1) 179 Q 150 [some (.inr (.inr (ad 23))), some (.inl (ii nd.pl)), some (.inl (ii (mn nd))), none, none, some (.inl (bb (gA nd))), some (.inl (ii (lst0 nd))), some (.inl (ii l))] [] h 0 0
  | j, l, a, h, hj, l0, ka, f, r, ra, q => by
    refine T_X8_goesOn_150 ok ?_
    have s1 := mst_j s f
    obtain ⟨s0, em, e1, e2, eH, eL⟩ := id s1
    obtain ⟨b1, b2, b3, b4, b5, b6, b7⟩ := n_rg v (by decide) k
    have vH := v_H v
    have vL := v_L v
    have hl := lst0_rg k vL.1
    have hp := k.p2 rfl
    simp (disch := first | omega | decide | assumption | exact st_ne s0 (by decide) (by decide) (by decide) | exact dyn_ne (by assumption) (by decide) | fail) only [Int.reduceAdd, Int.reduceSub, Int.reduceNeg, ii_add, ii_sub, ii_mul, ii_lt, ii_le, ii_eq, ixn_ii, ixo_ii, rem_ii, nb_1, nb_0, nb_bb, bb_0, hI_gv, Int.toNat_of_nonneg, Int.cast_ofNat_Int, ht_sI, ht_sJ, ht_sR, hn_sI, hn_sJ, hn_sR, hR_sI, hR_sJ, kI_v, kV_v, kJ_v, true_and, and_true, forall_eq, tg, ln, rf, ne_eq, not_false_eq_true, forall_const, not_true_eq_false, false_implies, W_X8_goesOn_150, st_t s0, st_n s0, st_r s0, eL]
    refine ⟨fun g => ?_, fun g => ?_⟩
    · obtain ⟨j, rfl⟩ : ∃ n', j = n' + 1 := ⟨j - 1, by omega⟩
      refine tr_Cr_C rfl (c_isOver ok s0 ra ka ?_)
      obtain ⟨r1, r2, r3, r4, r5, r6, r7⟩ := id r
      have hv := v_l v l0 g
      have x3 := r2 l l0 (by omega)
      have x4 := k.b1 l l0 (by omega)
      have es : lpP one two (goP one two H L n) nd l (j + 1) a = if ovr a then a else if one l = nd.pl ∧ nd.B l ≠ 0 then (if ovr a.up then a.up else lpP one two (goP one two H L n) nd (l + 1) j (goP one two H L n (ndL two nd l) a.up)) else lpP one two (goP one two H L n) nd (l + 1) j a := rfl
      rw [es] at q
      simp (disch := first | omega | decide | assumption | exact st_ne s0 (by decide) (by decide) (by decide) | exact dyn_ne (by assumption) (by decide) | fail) only [Int.reduceAdd, Int.reduceSub, Int.reduceNeg, ii_add, ii_sub, ii_mul, ii_lt, ii_le, ii_eq, ixn_ii, ixo_ii, rem_ii, nb_1, nb_0, nb_bb, bb_0, hI_gv, Int.toNat_of_nonneg, Int.cast_ofNat_Int, ht_sI, ht_sJ, ht_sR, hn_sI, hn_sJ, hn_sR, hR_sI, hR_sJ, kI_v, kV_v, kJ_v, true_and, and_true, forall_eq, tg, ln, rf, ne_eq, not_false_eq_true, forall_const, not_true_eq_false, false_implies, st_t s0, st_n s0, st_r s0, e1, x3, ra.1]
      refine ⟨fun o => ⟨by omega, fun g2 => ⟨by omega, fun g3 => ?_, fun g3 => ?_⟩, fun g2 => ?_⟩, fun o => ?_⟩
      · rw [if_neg (by rw [o]; decide), if_neg (fun e => e.2 g3)] at q
        exact c_goes_150 ok v hd ih s k hr j (l + 1) a h (by omega) (by omega) ka f r ra q
      · rw [if_neg (by rw [o]; decide), if_pos ⟨g2, g3⟩] at q
        obtain ⟨f1, ru, rau⟩ := step_up s0 r ra ka
        have ku := aok_up ka o
        refine tr_Cr_C rfl (c_isOver ok s0 rau (aok_1 ku) ?_)
        have kl := nok_L (two := two) vL.2 k l0 g g3 hv.2.2
        have z36 : gv (hsI h (ad 23) 33 (ii (a.st + 1))) (ad 23) 36 = nd.ea + nd.cb := ru.2.2.1
        have z32 : gv (hsI h (ad 23) 33 (ii (a.st + 1))) (ad 23) 32 = nd.w := ru.2.2.2.1
        have z37 := ru.2.2.2.2.2.1 nd.w b3 (Int.le_refl _)
        have z35 := ru.2.1 l l0 (by omega)
        generalize hsI h (ad 23) 33 (ii (a.st + 1)) = hu at *
        have t1 := mst_j s1 f1
        have t0 := t1.1
        have tw : gv hu (ad 29) l = two l := by rw [t1.2.2.2.1]
        have y1 : ∀ w, ud (gv hu (ad 23)) 36 w 32 = gv hu (ad 23) 32 := fun w => ud_ne (by decide)
        have mnb : nd.bg nd.w - nd.w + mn nd = nd.d - nd.w := by unfold mn; omega
        have mn0 : 0 ≤ mn nd := by unfold mn; omega
        have mn1 : mn nd ≤ 520 := by unfold mn; omega
        have s0 := t0
        simp (disch := first | omega | decide | assumption | exact st_ne s0 (by decide) (by decide) (by decide) | exact dyn_ne (by assumption) (by decide) | fail) only [Int.reduceAdd, Int.reduceSub, Int.reduceNeg, ii_add, ii_sub, ii_mul, ii_lt, ii_le, ii_eq, ixn_ii, ixo_ii, rem_ii, nb_1, nb_0, nb_bb, bb_0, hI_gv, Int.toNat_of_nonneg, Int.cast_ofNat_Int, ht_sI, ht_sJ, ht_sR, hn_sI, hn_sJ, hn_sR, hR_sI, hR_sJ, kI_v, kV_v, kJ_v, true_and, and_true, forall_eq, tg, ln, rf, ne_eq, not_false_eq_true, forall_const, not_true_eq_false, false_implies, st_t t0, st_n t0, st_r t0, z35, z36]
        simp (disch := first | omega | decide | assumption | exact st_ne s0 (by decide) (by decide) (by decide) | exact dyn_ne (by assumption) (by decide) | fail) only [Int.reduceAdd, Int.reduceSub, Int.reduceNeg, ii_add, ii_sub, ii_mul, ii_lt, ii_le, ii_eq, ixn_ii, ixo_ii, rem_ii, nb_1, nb_0, nb_bb, bb_0, hI_gv, Int.toNat_of_nonneg, Int.cast_ofNat_Int, ht_sI, ht_sJ, ht_sR, hn_sI, hn_sJ, hn_sR, hR_sI, hR_sJ, kI_v, kV_v, kJ_v, true_and, and_true, forall_eq, tg, ln, rf, ne_eq, not_false_eq_true, forall_const, not_true_eq_false, false_implies, gv_sIn, gv_sIi, y1, z32, z37, mnb, tw]
        refine ⟨fun o2 => ⟨by omega, by omega, by omega, by omega, by omega, ?_⟩, fun o2 => ?_⟩
        · rw [if_neg (by rw [o2]; decide)] at q
          have key : ∀ b : Bool, b = (ndL two nd l).al → tr_Gr E (d + 1) 179 Q 275 [some (.inr (.inr (ad 23))), some (.inl (ii nd.pl)), some (.inl (ii (mn nd))), none, none, some (.inl (bb (gA nd))), some (.inl (ii (lst0 nd))), some (.inl (ii l))] [.inl (bb b), .inl (ii (mn nd + 1)), .inl (ii (two l)), .inr (.inr (ad 23))] (hsI (hsI (hsI hu (ad 35) l.toNat (ii (nd.B l - 1))) (ad 23) 36 (ii (nd.ea + nd.cb - 1))) (ad 38) (nd.d - nd.w).toNat (ii l)) 0 0 := by
            sorry
          sorry
        · sorry
      · sorry
      · sorry
    · obtain rfl : j = 0 := by omega
      exact q h f r ra
end DFM3
