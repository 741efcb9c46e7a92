/-! JOINING, BY THE REFERENCE: the walk that goes on -/
def fS (z : Int) : Bool := decide (z = 33)
theorem fS_fN (z : Int) (h : fS z = true) : fN z = true := by
  unfold fS at h
  unfold fN
  simp only [Bool.or_eq_true, Bool.and_eq_true, decide_eq_true_eq] at h ⊢
  omega
def p00 (_ : Nat) : Bool := false
theorem p00_lt (j : Nat) (h : p00 j = true) : j < 42 := by cases h
section DFM3
variable {E : tr_Env} {ad : Nat → Nat} {h h0 : tr_H} {Q : tr_Q} {m one two : Int → Int} {H L : Int} {nd : Nd} {a : Ac}
/-- a step more is counted -/
theorem step_up (s0 : stat ad h) {c : Int} (r : rsA ad h nd c) (ra : acR ad h a) (ka : aok H L 1 a) : fr ad pJ fN false h (hsI h (ad 23) 33 (ii (a.st + 1))) ∧ rsA ad (hsI h (ad 23) 33 (ii (a.st + 1))) nd c ∧ acR ad (hsI h (ad 23) 33 (ii (a.st + 1))) a.up := by
  have f1 : fr ad p00 fS false h (hsI h (ad 23) 33 (ii (a.st + 1))) := fr_sFs rfl
  have k1 := ka.1
  refine ⟨fr_mono (fun i e => by cases e) fS_fN (fun e => e) f1, rsA_fr s0 f1 p00_lt rfl rfl rfl rfl rfl rfl rfl rfl r, ?_⟩
  obtain ⟨a1, a2, a3⟩ := ra
  have e33 : gv (hsI h (ad 23) 33 (ii (a.st + 1))) (ad 23) 33 = a.st + 1 := by
    rw [gv_sIi (by omega) (by omega)]; exact ud_eq _ _ _
  unfold acR
  rw [fr_gv (i := 39) s0 f1 (by decide) (by decide) rfl p00_lt, fr_gv (i := 40) s0 f1 (by decide) (by decide) rfl p00_lt, fr_gv (i := 41) s0 f1 (by decide) (by decide) rfl p00_lt, fr_gf (z := 34) s0 f1 rfl p00_lt rfl, fr_gf (z := 35) s0 f1 rfl p00_lt rfl]
  exact ⟨e33, a2, a3⟩
theorem c_goes_150 (ok : tr_ok E) (v : vok m one two H L) {n d : Nat} (hd : 2 * n ≤ d) (ih : cGo E ad m one two H L n) (s : mst ad h0 m one two H L) (k : nok one two H L 1 nd) (hr : nd.ea + nd.cb ≤ n) : ∀ (j : Nat) (l : Int) (a : Ac) (h : tr_H), l + j = L → 0 ≤ l → aok H L 1 a → fr ad pJ fN false h0 h → rsA ad h nd 1 → acR ad h a → (∀ h', fr ad pJ fN false h0 h' → rsA ad h' nd 1 → acR ad h' (lpP one two (goP one two H L n) nd l j a) → Q (.inl none) h') → tr_Gr E (d + 1) 179 Q 150 [some (.inr (.inr (ad 23))), some (.inl (ii nd.pl)), some (.inl (ii (mn nd))), none, none, some (.inl (bb (gA nd))), some (.inl (ii (lst0 nd))), some (.inl (ii l))] [] h 0 0
  | j, l, a, h, hj, l0, ka, f, r, ra, q => by
    refine T_X8_goesOn_150 ok ?_
    have s1 := mst_n s f
    obtain ⟨s0, em, e1, e2, eH, eL⟩ := id s1
    obtain ⟨b1, b2, b3, b4, b5, b6, b7⟩ := n_rg v (by decide) k
    have vH := v_H v
    have vL := v_L v
    have hl := lst0_rg k vL.1
    have hp := k.p2 rfl
    simp (disch := first | omega | decide | assumption | exact st_ne s0 (by decide) (by decide) (by decide) | exact dyn_ne (by assumption) (by decide) | fail) only [Int.reduceAdd, Int.reduceSub, Int.reduceNeg, ii_add, ii_sub, ii_mul, ii_lt, ii_le, ii_eq, ixn_ii, ixo_ii, rem_ii, nb_1, nb_0, nb_bb, bb_0, hI_gv, Int.toNat_of_nonneg, Int.cast_ofNat_Int, ht_sI, ht_sJ, ht_sR, hn_sI, hn_sJ, hn_sR, hR_sI, hR_sJ, kI_v, kV_v, kJ_v, true_and, and_true, forall_eq, tg, ln, rf, ne_eq, not_false_eq_true, forall_const, not_true_eq_false, false_implies, W_X8_goesOn_150, st_t s0, st_n s0, st_r s0, eL]
    refine ⟨fun g => ?_, fun g => ?_⟩
    · obtain ⟨j, rfl⟩ : ∃ n', j = n' + 1 := ⟨j - 1, by omega⟩
      refine tr_Cr_C rfl (c_isOver ok s0 ra ka ?_)
      obtain ⟨r1, r2, r3, r4, r5, r6, r7⟩ := id r
      have hv := v_l v l0 g
      have x3 := r2 l l0 (by omega)
      have x4 := k.b1 l l0 (by omega)
      have es : lpP one two (goP one two H L n) nd l (j + 1) a = if ovr a then a else if one l = nd.pl ∧ nd.B l ≠ 0 then (if ovr a.up then a.up else lpP one two (goP one two H L n) nd (l + 1) j (goP one two H L n (ndL two nd l) a.up)) else lpP one two (goP one two H L n) nd (l + 1) j a := rfl
      rw [es] at q
      simp (disch := first | omega | decide | assumption | exact st_ne s0 (by decide) (by decide) (by decide) | exact dyn_ne (by assumption) (by decide) | fail) only [Int.reduceAdd, Int.reduceSub, Int.reduceNeg, ii_add, ii_sub, ii_mul, ii_lt, ii_le, ii_eq, ixn_ii, ixo_ii, rem_ii, nb_1, nb_0, nb_bb, bb_0, hI_gv, Int.toNat_of_nonneg, Int.cast_ofNat_Int, ht_sI, ht_sJ, ht_sR, hn_sI, hn_sJ, hn_sR, hR_sI, hR_sJ, kI_v, kV_v, kJ_v, true_and, and_true, forall_eq, tg, ln, rf, ne_eq, not_false_eq_true, forall_const, not_true_eq_false, false_implies, st_t s0, st_n s0, st_r s0, e1, x3, ra.1]
      refine ⟨fun o => ⟨by omega, fun g2 => ⟨by omega, fun g3 => ?_, fun g3 => ?_⟩, fun g2 => ?_⟩, fun o => ?_⟩
      · rw [if_neg (by rw [o]; decide), if_neg (fun e => e.2 g3)] at q
        exact c_goes_150 ok v hd ih s k hr j (l + 1) a h (by omega) (by omega) ka f r ra q
      · rw [if_neg (by rw [o]; decide), if_pos ⟨g2, g3⟩] at q
        obtain ⟨f1, ru, rau⟩ := step_up s0 r ra ka
        have ku := aok_up ka o
        refine tr_Cr_C rfl (c_isOver ok s0 rau (aok_1 ku) ?_)
        have kl := nok_L (two := two) vL.2 k l0 g g3 hv.2.2
        have z36 : gv (hsI h (ad 23) 33 (ii (a.st + 1))) (ad 23) 36 = nd.ea + nd.cb := ru.2.2.1
        have z32 : gv (hsI h (ad 23) 33 (ii (a.st + 1))) (ad 23) 32 = nd.w := ru.2.2.2.1
        have z37 := ru.2.2.2.2.2.1 nd.w b3 (Int.le_refl _)
        have z35 := ru.2.1 l l0 (by omega)
        generalize hsI h (ad 23) 33 (ii (a.st + 1)) = hu at *
        have t1 := mst_n s1 f1
        have t0 := t1.1
        have tw : gv hu (ad 29) l = two l := by rw [t1.2.2.2.1]
        have y1 : ∀ w, ud (gv hu (ad 23)) 36 w 32 = gv hu (ad 23) 32 := fun w => ud_ne (by decide)
        have mnb : nd.bg nd.w - nd.w + mn nd = nd.d - nd.w := by unfold mn; omega
        have mn0 : 0 ≤ mn nd := by unfold mn; omega
        have mn1 : mn nd ≤ 520 := by unfold mn; omega
        have s0 := t0
        simp (disch := first | omega | decide | assumption | exact st_ne s0 (by decide) (by decide) (by decide) | exact dyn_ne (by assumption) (by decide) | fail) only [Int.reduceAdd, Int.reduceSub, Int.reduceNeg, ii_add, ii_sub, ii_mul, ii_lt, ii_le, ii_eq, ixn_ii, ixo_ii, rem_ii, nb_1, nb_0, nb_bb, bb_0, hI_gv, Int.toNat_of_nonneg, Int.cast_ofNat_Int, ht_sI, ht_sJ, ht_sR, hn_sI, hn_sJ, hn_sR, hR_sI, hR_sJ, kI_v, kV_v, kJ_v, true_and, and_true, forall_eq, tg, ln, rf, ne_eq, not_false_eq_true, forall_const, not_true_eq_false, false_implies, st_t t0, st_n t0, st_r t0, z35, z36]
        simp (disch := first | omega | decide | assumption | exact st_ne s0 (by decide) (by decide) (by decide) | exact dyn_ne (by assumption) (by decide) | fail) only [Int.reduceAdd, Int.reduceSub, Int.reduceNeg, ii_add, ii_sub, ii_mul, ii_lt, ii_le, ii_eq, ixn_ii, ixo_ii, rem_ii, nb_1, nb_0, nb_bb, bb_0, hI_gv, Int.toNat_of_nonneg, Int.cast_ofNat_Int, ht_sI, ht_sJ, ht_sR, hn_sI, hn_sJ, hn_sR, hR_sI, hR_sJ, kI_v, kV_v, kJ_v, true_and, and_true, forall_eq, tg, ln, rf, ne_eq, not_false_eq_true, forall_const, not_true_eq_false, false_implies, gv_sIn, gv_sIi, y1, z32, z36, z37, mnb, tw]
        refine ⟨fun o2 => ⟨by omega, by omega, by omega, by omega, by omega, ?_⟩, fun o2 => ?_⟩
        · rw [if_neg (by rw [o2]; decide)] at q
          have key : ∀ b : Bool, b = (ndL two nd l).al → tr_Gr E (d + 1) 179 Q 275 [some (.inr (.inr (ad 23))), some (.inl (ii nd.pl)), some (.inl (ii (mn nd))), none, none, some (.inl (bb (gA nd))), some (.inl (ii (lst0 nd))), some (.inl (ii l))] [.inl (bb b), .inl (ii (mn nd + 1)), .inl (ii (two l)), .inr (.inr (ad 23))] (hsI (hsI (hsI hu (ad 35) l.toNat (ii (nd.B l - 1))) (ad 23) 36 (ii (nd.ea + nd.cb - 1))) (ad 38) (nd.d - nd.w).toNat (ii l)) 0 0 := by
            intro b eb
            refine T_X8_goesOn_275 ok ?_
            have fz : fr ad pU fU false hu (hsI (hsI (hsI hu (ad 35) l.toNat (ii (nd.B l - 1))) (ad 23) 36 (ii (nd.ea + nd.cb - 1))) (ad 38) (nd.d - nd.w).toNat (ii l)) := fr_sI (fr_sF (fr_sI fr_rfl rfl) rfl) rfl
            have rz : rsA ad (hsI (hsI (hsI hu (ad 35) l.toNat (ii (nd.B l - 1))) (ad 23) 36 (ii (nd.ea + nd.cb - 1))) (ad 38) (nd.d - nd.w).toNat (ii l)) (ndL two nd l) 1 := by
              have y := rsF_L (two := two) k (l := l) ru
              unfold rsA
              have y2 : ud (gv hu (ad 23)) 36 (nd.ea + nd.cb - 1) 36 = nd.ea + nd.cb - 1 := ud_eq _ _ _
              rw [z36] at y
              simp (disch := first | omega | decide | assumption | exact st_ne s0 (by decide) (by decide) (by decide) | exact dyn_ne (by assumption) (by decide) | fail) only [Int.reduceAdd, Int.reduceSub, Int.reduceNeg, ii_add, ii_sub, ii_mul, ii_lt, ii_le, ii_eq, ixn_ii, ixo_ii, rem_ii, nb_1, nb_0, nb_bb, bb_0, hI_gv, Int.toNat_of_nonneg, Int.cast_ofNat_Int, ht_sI, ht_sJ, ht_sR, hn_sI, hn_sJ, hn_sR, hR_sI, hR_sJ, kI_v, kV_v, kJ_v, true_and, and_true, forall_eq, tg, ln, rf, ne_eq, not_false_eq_true, forall_const, not_true_eq_false, false_implies, gv_sIn, gv_sIi, y1, y2]
              exact y
            generalize hsI (hsI (hsI hu (ad 35) l.toNat (ii (nd.B l - 1))) (ad 23) 36 (ii (nd.ea + nd.cb - 1))) (ad 38) (nd.d - nd.w).toNat (ii l) = hz at *
            have u0 := st_fr t0 fz
            have emn : mn (ndL two nd l) = mn nd + 1 := by
              show nd.d + 1 - nd.bg nd.w = nd.d - nd.bg nd.w + 1
              omega
            have rr : (ndL two nd l).ea + (ndL two nd l).cb < n := by rw [r_L]; omega
            have fj := fr_tr f (fr_tr f1 (fr_UJ fz))
            simp (disch := first | omega | decide | assumption | exact st_ne s0 (by decide) (by decide) (by decide) | exact dyn_ne (by assumption) (by decide) | fail) only [Int.reduceAdd, Int.reduceSub, Int.reduceNeg, ii_add, ii_sub, ii_mul, ii_lt, ii_le, ii_eq, ixn_ii, ixo_ii, rem_ii, nb_1, nb_0, nb_bb, bb_0, hI_gv, Int.toNat_of_nonneg, Int.cast_ofNat_Int, ht_sI, ht_sJ, ht_sR, hn_sI, hn_sJ, hn_sR, hR_sI, hR_sJ, kI_v, kV_v, kJ_v, true_and, and_true, forall_eq, tg, ln, rf, ne_eq, not_false_eq_true, forall_const, not_true_eq_false, false_implies, W_X8_goesOn_275, st_t u0]
            have y := fun Q' hq => ih d (ndL two nd l) a.up hz Q' hd kl rr (aok_1 ku) o2 (mst_n t1 (fr_UJ fz)) rz (acR_fr t0 fz rau) hq
            rw [emn, ← eb] at y
            refine y _ (fun h5 f5 r5 a5 => ?_)
            have w0 := st_fr u0 f5
            have s0 := w0
            simp (disch := first | omega | decide | assumption | exact st_ne s0 (by decide) (by decide) (by decide) | exact dyn_ne (by assumption) (by decide) | fail) only [Int.reduceAdd, Int.reduceSub, Int.reduceNeg, ii_add, ii_sub, ii_mul, ii_lt, ii_le, ii_eq, ixn_ii, ixo_ii, rem_ii, nb_1, nb_0, nb_bb, bb_0, hI_gv, Int.toNat_of_nonneg, Int.cast_ofNat_Int, ht_sI, ht_sJ, ht_sR, hn_sI, hn_sJ, hn_sR, hR_sI, hR_sJ, kI_v, kV_v, kJ_v, true_and, and_true, forall_eq, tg, ln, rf, ne_eq, not_false_eq_true, forall_const, not_true_eq_false, false_implies, st_t w0, st_n w0, st_r w0, gv_sIn]
            refine ⟨by omega, by omega, ?_⟩
            have i1 : gv h5 (ad 35) l = nd.B l - 1 := by
              have i1 : gv h5 (ad 35) l = ud nd.B l (nd.B l - 1) l := r5.2.1 l l0 (by omega)
              rw [ud_eq] at i1; exact i1
            have i2 : gv h5 (ad 23) 36 = nd.ea + (nd.cb - 1) := r5.2.2.1
            have f6 : fr ad pU fU false h5 (hsI (hsI h5 (ad 23) 36 (ii (gv h5 (ad 23) 36 + 1))) (ad 35) l.toNat (ii (gv h5 (ad 35) l + 1))) := fr_sI (fr_sF fr_rfl rfl) rfl
            refine c_goes_150 ok v hd ih s k hr j (l + 1) _ _ (by omega) (by omega) ?_ (fr_tr fj (fr_tr f5 (fr_UJ f6))) ?_ (acR_fr w0 f6 a5) q
            · exact go_aok (by omega) vH.2 vL.1 vL.2 (fun l l0 l1 => (v_l v l0 l1).2.2) n _ _ kl rr (aok_1 ku) o2
            · have y := rsF_Lb k l0 (by omega) r5
              unfold rsA
              have y2 : ∀ w, ud (gv h5 (ad 23)) 36 w 36 = w := fun w => ud_eq _ _ _
              have y3 : ∀ w, ud (gv h5 (ad 23)) 36 w 32 = gv h5 (ad 23) 32 := fun w => ud_ne (by decide)
              rw [i1, i2] at y ⊢
              simp (disch := first | omega | decide | assumption | exact st_ne s0 (by decide) (by decide) (by decide) | exact dyn_ne (by assumption) (by decide) | fail) only [Int.reduceAdd, Int.reduceSub, Int.reduceNeg, ii_add, ii_sub, ii_mul, ii_lt, ii_le, ii_eq, ixn_ii, ixo_ii, rem_ii, nb_1, nb_0, nb_bb, bb_0, hI_gv, Int.toNat_of_nonneg, Int.cast_ofNat_Int, ht_sI, ht_sJ, ht_sR, hn_sI, hn_sJ, hn_sR, hR_sI, hR_sJ, kI_v, kV_v, kJ_v, true_and, and_true, forall_eq, tg, ln, rf, ne_eq, not_false_eq_true, forall_const, not_true_eq_false, false_implies, gv_sIn, gv_sIi, y2, y3]
              exact y
          refine ⟨fun g5 => ?_, fun g5 => ⟨fun g6 => ?_, fun g6 => ?_⟩⟩
          · exact key false (by show false = (gA nd && decide (l = lst0 nd)); rw [g5]; rfl)
          · rw [Bool.not_eq_false] at g5
            exact key true (by show true = (gA nd && decide (l = lst0 nd)); rw [g5, decide_eq_true g6]; rfl)
          · rw [Bool.not_eq_false] at g5
            exact key false (by show false = (gA nd && decide (l = lst0 nd)); rw [g5, decide_eq_false g6]; rfl)
        · rw [Bool.not_eq_false] at o2
          rw [if_pos o2] at q
          exact q _ (fr_tr f f1) ru rau
      · rw [if_neg (by rw [o]; decide), if_neg (fun e => g2 e.1)] at q
        exact c_goes_150 ok v hd ih s k hr j (l + 1) a h (by omega) (by omega) ka f r ra q
      · rw [Bool.not_eq_false] at o
        rw [if_pos o] at q
        exact q h f r ra
    · obtain rfl : j = 0 := by omega
      exact q h f r ra
theorem c_goes_117 (ok : tr_ok E) (v : vok m one two H L) {n d : Nat} (hd : 2 * n ≤ d) (ih : cGo E ad m one two H L n) (s : mst ad h0 m one two H L) (k : nok one two H L 1 nd) (hr : nd.ea + nd.cb ≤ n) (ka : aok H L 1 a) (f : fr ad pJ fN false h0 h) (r : rsA ad h nd 1) (ra : acR ad h a) (q : ∀ h', fr ad pJ fN false h0 h' → rsA ad h' nd 1 → acR ad h' (lpP one two (goP one two H L n) nd (lst0 nd) (L - lst0 nd).toNat a) → Q (.inl none) h') : tr_Gr E (d + 1) 179 Q 117 [some (.inr (.inr (ad 23))), some (.inl (ii nd.pl)), some (.inl (ii (mn nd))), none, none, some (.inl (bb (gA nd))), none, none] [] h 0 0 := by
  refine T_X8_goesOn_117 ok ?_
  have s1 := mst_n s f
  obtain ⟨s0, em, e1, e2, eH, eL⟩ := id s1
  obtain ⟨b1, b2, b3, b4, b5, b6, b7⟩ := n_rg v (by decide) k
  have vL := v_L v
  have hl := lst0_rg k vL.1
  have go := c_goes_150 ok v hd ih s k hr (L - lst0 nd).toNat (lst0 nd) a h (by omega) hl.1 ka f r ra q
  obtain ⟨r1, r2, r3, r4, r5, r6, r7⟩ := id r
  simp (disch := first | omega | decide | assumption | exact st_ne s0 (by decide) (by decide) (by decide) | exact dyn_ne (by assumption) (by decide) | fail) only [Int.reduceAdd, Int.reduceSub, Int.reduceNeg, ii_add, ii_sub, ii_mul, ii_lt, ii_le, ii_eq, ixn_ii, ixo_ii, rem_ii, nb_1, nb_0, nb_bb, bb_0, hI_gv, Int.toNat_of_nonneg, Int.cast_ofNat_Int, ht_sI, ht_sJ, ht_sR, hn_sI, hn_sJ, hn_sR, hR_sI, hR_sJ, kI_v, kV_v, kJ_v, true_and, and_true, forall_eq, tg, ln, rf, ne_eq, not_false_eq_true, forall_const, not_true_eq_false, false_implies, W_X8_goesOn_117, st_t s0, st_n s0, st_r s0, r4]
  refine ⟨fun g => ?_, fun g => ?_⟩
  · have e : lst0 nd = 0 := by unfold lst0; rw [if_neg (by rw [g]; decide)]
    rw [e] at go; exact go
  · rw [Bool.not_eq_false] at g
    have g' := g
    unfold gA at g
    rw [Bool.and_eq_true, decide_eq_true_eq] at g
    have p3 := k.p3 rfl g.1
    have h2 := g.2
    unfold mn ah at h2
    have x1 := r6 (nd.w - 1) (by omega) (by omega)
    have x2 := n_b0 k (k := nd.w - 1) (by omega) (by omega)
    have ix : nd.bg (nd.w - 1) - (nd.w - 1) + mn nd = nd.bg (nd.w - 1) + mn nd - (nd.w - 1) := by omega
    have mn0 : 0 ≤ mn nd := by unfold mn; omega
    have mn1 : mn nd ≤ 520 := by unfold mn; omega
    have en : nd.bg (nd.w - 1) + mn nd < enN nd (nd.w - 1) := by
      unfold enN
      rw [if_neg (by omega), show nd.w - 1 + 1 = nd.w by omega]
      unfold mn; omega
    have x3 := r7 (nd.w - 1) (nd.bg (nd.w - 1) + mn nd) (by omega) (by omega) (by omega) en
    have x4 := n_ix k (by omega) (by omega) (by omega) en
    have e : lst0 nd = nd.M (nd.bg (nd.w - 1) + mn nd) := by unfold lst0; rw [if_pos g']
    rw [e] at go
    simp (disch := first | omega | decide | assumption | exact st_ne s0 (by decide) (by decide) (by decide) | exact dyn_ne (by assumption) (by decide) | fail) only [Int.reduceAdd, Int.reduceSub, Int.reduceNeg, ii_add, ii_sub, ii_mul, ii_lt, ii_le, ii_eq, ixn_ii, ixo_ii, rem_ii, nb_1, nb_0, nb_bb, bb_0, hI_gv, Int.toNat_of_nonneg, Int.cast_ofNat_Int, ht_sI, ht_sJ, ht_sR, hn_sI, hn_sJ, hn_sR, hR_sI, hR_sJ, kI_v, kV_v, kJ_v, true_and, and_true, forall_eq, tg, ln, rf, ne_eq, not_false_eq_true, forall_const, not_true_eq_false, false_implies, x1, ix, x3]
    exact ⟨by omega, by omega, go⟩
theorem c_goes_46 (ok : tr_ok E) (v : vok m one two H L) {n d : Nat} (hd : 2 * n + 1 ≤ d) (ih : cGo E ad m one two H L n) (s : mst ad h m one two H L) (k : nok one two H L 1 nd) (hr : nd.ea + nd.cb ≤ n) (ka : aok H L 1 a) (o : ovr a = false) (r : rsA ad h nd 1) (ra : acR ad h a) (q : ∀ h', fr ad pJ fN false h h' → rsA ad h' nd 1 → acR ad h' (goP one two H L (n + 1) nd a) → Q (.inl none) h') : tr_Gr E (d + 1) 179 Q 46 [some (.inr (.inr (ad 23))), some (.inl (ii nd.pl)), some (.inl (ii (mn nd))), none, none, none, none, none] [.inl (bb (gA nd))] h 0 0 := by
  refine T_X8_goesOn_46 ok ?_
  obtain ⟨s0, em, e1, e2, eH, eL⟩ := id s
  obtain ⟨b1, b2, b3, b4, b5, b6, b7⟩ := n_rg v (by decide) k
  have vH := v_H v
  have vL := v_L v
  have es : goP one two H L (n + 1) nd a = lpP one two (goP one two H L n) nd (lst0 nd) (L - lst0 nd).toNat (if gA nd then a else enP H (goP one two H L n) nd a) := rfl
  rw [es] at q
  have ta : ∀ l l0 l1, 0 ≤ two l ∧ two l < H := fun l l0 l1 => (v_l v (l := l) l0 l1).2.2
  simp (disch := first | omega | decide | assumption | exact st_ne s0 (by decide) (by decide) (by decide) | exact dyn_ne (by assumption) (by decide) | fail) only [Int.reduceAdd, Int.reduceSub, Int.reduceNeg, ii_add, ii_sub, ii_mul, ii_lt, ii_le, ii_eq, ixn_ii, ixo_ii, rem_ii, nb_1, nb_0, nb_bb, bb_0, hI_gv, Int.toNat_of_nonneg, Int.cast_ofNat_Int, ht_sI, ht_sJ, ht_sR, hn_sI, hn_sJ, hn_sR, hR_sI, hR_sJ, kI_v, kV_v, kJ_v, true_and, and_true, forall_eq, tg, ln, rf, ne_eq, not_false_eq_true, forall_const, not_true_eq_false, false_implies, W_X8_goesOn_46, st_t s0, st_n s0, st_r s0, ra.1]
  refine ⟨fun g => ?_, fun g => ?_⟩
  · rw [if_neg (by rw [g]; decide)] at q
    have eg : gA nd = false := g
    unfold enP at q
    obtain ⟨f1, ru, rau⟩ := step_up s0 r ra ka
    have ku := aok_up ka o
    refine tr_Cr_C rfl (c_isOver ok s0 rau (aok_1 ku) ?_)
    have z32 : gv (hsI h (ad 23) 33 (ii (a.st + 1))) (ad 23) 32 = nd.w := ru.2.2.2.1
    have z37 := ru.2.2.2.2.2.1 nd.w b3 (Int.le_refl _)
    generalize hsI h (ad 23) 33 (ii (a.st + 1)) = hu at *
    have t1 := mst_n s f1
    have t0 := t1.1
    have s0 := t0
    have mn0 : 0 ≤ mn nd := by unfold mn; omega
    have mn1 : mn nd ≤ 520 := by unfold mn; omega
    have y1 : ud (gv hu (ad 23)) 32 (nd.w + 1) 32 = nd.w + 1 := ud_eq _ _ _
    have y0 : nd.w + 1 - 1 = nd.w := by omega
    simp (disch := first | omega | decide | assumption | exact st_ne s0 (by decide) (by decide) (by decide) | exact dyn_ne (by assumption) (by decide) | fail) only [Int.reduceAdd, Int.reduceSub, Int.reduceNeg, ii_add, ii_sub, ii_mul, ii_lt, ii_le, ii_eq, ixn_ii, ixo_ii, rem_ii, nb_1, nb_0, nb_bb, bb_0, hI_gv, Int.toNat_of_nonneg, Int.cast_ofNat_Int, ht_sI, ht_sJ, ht_sR, hn_sI, hn_sJ, hn_sR, hR_sI, hR_sJ, kI_v, kV_v, kJ_v, true_and, and_true, forall_eq, tg, ln, rf, ne_eq, not_false_eq_true, forall_const, not_true_eq_false, false_implies, st_t t0, st_n t0, st_r t0, z32]
    simp (disch := first | omega | decide | assumption | exact st_ne s0 (by decide) (by decide) (by decide) | exact dyn_ne (by assumption) (by decide) | fail) only [Int.reduceAdd, Int.reduceSub, Int.reduceNeg, ii_add, ii_sub, ii_mul, ii_lt, ii_le, ii_eq, ixn_ii, ixo_ii, rem_ii, nb_1, nb_0, nb_bb, bb_0, hI_gv, Int.toNat_of_nonneg, Int.cast_ofNat_Int, ht_sI, ht_sJ, ht_sR, hn_sI, hn_sJ, hn_sR, hR_sI, hR_sJ, kI_v, kV_v, kJ_v, true_and, and_true, forall_eq, tg, ln, rf, ne_eq, not_false_eq_true, forall_const, not_true_eq_false, false_implies, gv_sIn, gv_sIi, y1, y0, z37]
    refine ⟨fun o2 => ⟨by omega, by omega, ?_⟩, fun o2 => ?_⟩
    · rw [if_neg (by rw [o2]; decide)] at q
      have fz : fr ad pU fU false hu (hsI (hsI hu (ad 23) 32 (ii (nd.w + 1))) (ad 37) (nd.w + 1).toNat (ii (nd.bg nd.w - nd.w + mn nd))) := fr_sI (fr_sF fr_rfl rfl) rfl
      have rz : rsA ad (hsI (hsI hu (ad 23) 32 (ii (nd.w + 1))) (ad 37) (nd.w + 1).toNat (ii (nd.bg nd.w - nd.w + mn nd))) (ndX nd) 0 := by
        have y := rsF_X k ru
        unfold rsA
        have y2 : ud (gv hu (ad 23)) 32 (nd.w + 1) 36 = gv hu (ad 23) 36 := ud_ne (by decide)
        rw [z32] at y
        simp (disch := first | omega | decide | assumption | exact st_ne s0 (by decide) (by decide) (by decide) | exact dyn_ne (by assumption) (by decide) | fail) only [Int.reduceAdd, Int.reduceSub, Int.reduceNeg, ii_add, ii_sub, ii_mul, ii_lt, ii_le, ii_eq, ixn_ii, ixo_ii, rem_ii, nb_1, nb_0, nb_bb, bb_0, hI_gv, Int.toNat_of_nonneg, Int.cast_ofNat_Int, ht_sI, ht_sJ, ht_sR, hn_sI, hn_sJ, hn_sR, hR_sI, hR_sJ, kI_v, kV_v, kJ_v, true_and, and_true, forall_eq, tg, ln, rf, ne_eq, not_false_eq_true, forall_const, not_true_eq_false, false_implies, gv_sIn, gv_sIi, y1, y2]
        exact y
      generalize hsI (hsI hu (ad 23) 32 (ii (nd.w + 1))) (ad 37) (nd.w + 1).toNat (ii (nd.bg nd.w - nd.w + mn nd)) = hz at *
      have u0 := st_fr t0 fz
      have kx := nok_X vH.2 k
      obtain ⟨d, rfl⟩ : ∃ d', d = d' + 1 := ⟨d - 1, by omega⟩
      refine c_beginsWalk ok v (n := n) (by omega) ih (mst_n t1 (fr_UJ fz)) kx rz (acR_fr t0 fz rau) ku o2 hr (fun h5 f5 r5 a5 => ?_)
      have w0 := st_fr u0 f5
      have i2 : gv h5 (ad 23) 32 = nd.w + 1 := r5.2.2.2.1
      simp (disch := first | omega | decide | assumption | exact st_ne s0 (by decide) (by decide) (by decide) | exact dyn_ne (by assumption) (by decide) | fail) only [Int.reduceAdd, Int.reduceSub, Int.reduceNeg, ii_add, ii_sub, ii_mul, ii_lt, ii_le, ii_eq, ixn_ii, ixo_ii, rem_ii, nb_1, nb_0, nb_bb, bb_0, hI_gv, Int.toNat_of_nonneg, Int.cast_ofNat_Int, ht_sI, ht_sJ, ht_sR, hn_sI, hn_sJ, hn_sR, hR_sI, hR_sJ, kI_v, kV_v, kJ_v, true_and, and_true, forall_eq, tg, ln, rf, ne_eq, not_false_eq_true, forall_const, not_true_eq_false, false_implies, st_t w0, i2]
      have f6 : fr ad pU fU false h5 (hsI h5 (ad 23) 32 (ii (nd.w + 1 - 1))) := fr_sF fr_rfl rfl
      have go := fun ka' => c_goes_117 (Q := Q) ok v (n := n) (d := d + 1) (by omega) ih s k hr (a := bgP H (goP one two H L n) (ndX nd) a.up) (h := hsI h5 (ad 23) 32 (ii (nd.w + 1 - 1))) ka' (fr_tr f1 (fr_tr (fr_UJ fz) (fr_tr f5 (fr_UJ f6)))) (by
        have y := rsF_Xb k r5
        unfold rsA
        have y2 : ∀ w, ud (gv h5 (ad 23)) 32 w 36 = gv h5 (ad 23) 36 := fun w => ud_ne (by decide)
        have y3 : ∀ w, ud (gv h5 (ad 23)) 32 w 32 = w := fun w => ud_eq _ _ _
        rw [i2] at y
        have s0 := w0
        simp (disch := first | omega | decide | assumption | exact st_ne s0 (by decide) (by decide) (by decide) | exact dyn_ne (by assumption) (by decide) | fail) only [Int.reduceAdd, Int.reduceSub, Int.reduceNeg, ii_add, ii_sub, ii_mul, ii_lt, ii_le, ii_eq, ixn_ii, ixo_ii, rem_ii, nb_1, nb_0, nb_bb, bb_0, hI_gv, Int.toNat_of_nonneg, Int.cast_ofNat_Int, ht_sI, ht_sJ, ht_sR, hn_sI, hn_sJ, hn_sR, hR_sI, hR_sJ, kI_v, kV_v, kJ_v, true_and, and_true, forall_eq, tg, ln, rf, ne_eq, not_false_eq_true, forall_const, not_true_eq_false, false_implies, gv_sIn, gv_sIi, y2, y3]
        exact y) (acR_fr w0 f6 a5) q
      exact go (bg_aok (one := one) (two := two) (n := n) (by omega) vH.2 vL.2 (go_aok (by omega) vH.2 vL.1 vL.2 ta n) kx hr ku o2)
    · rw [Bool.not_eq_false] at o2
      rw [if_pos o2] at q
      refine q hu f1 ru ?_
      have ol : ∀ (j : Nat) (l : Int), lpP one two (goP one two H L n) nd l j a.up = a.up := by
        intro j l
        cases j with
        | zero => rfl
        | succ j =>
          show (if ovr a.up then a.up else _) = _
          rw [if_pos o2]
      rw [ol]; exact rau
  · rw [Bool.not_eq_false] at g
    rw [if_pos g] at q
    have go := c_goes_117 ok v (n := n) (d := d) (by omega) ih s k hr ka fr_rfl r ra q
    exact go
theorem c_goesOn (ok : tr_ok E) (v : vok m one two H L) : ∀ n : Nat, cGo E ad m one two H L n
  | 0 => fun d nd a h Q hd k hr _ _ _ _ _ _ => by
    have := n_rg v (by decide) k
    omega
  | n + 1 => fun d nd a h Q hd k hr ka o s r ra q => by
    obtain ⟨d, rfl⟩ : ∃ d', d = d' + 1 := ⟨d - 1, by omega⟩
    refine T_X8_goesOn ok ?_
    have s0 := s.1
    obtain ⟨b1, b2, b3, b4, b5, b6, b7⟩ := n_rg v (by decide) k
    have go := c_goes_46 ok v (n := n) (d := d) (by omega) (c_goesOn ok v n) s k (by omega) ka o r ra q
    obtain ⟨r1, r2, r3, r4, r5, r6, r7⟩ := id r
    have x0 := r6 nd.w b3 (Int.le_refl _)
    have mn0 : 0 ≤ mn nd := by unfold mn; omega
    have mn1 : mn nd ≤ 520 := by unfold mn; omega
    unfold gA at go
    simp (disch := first | omega | decide | assumption | exact st_ne s0 (by decide) (by decide) (by decide) | exact dyn_ne (by assumption) (by decide) | fail) only [Int.reduceAdd, Int.reduceSub, Int.reduceNeg, ii_add, ii_sub, ii_mul, ii_lt, ii_le, ii_eq, ixn_ii, ixo_ii, rem_ii, nb_1, nb_0, nb_bb, bb_0, hI_gv, Int.toNat_of_nonneg, Int.cast_ofNat_Int, ht_sI, ht_sJ, ht_sR, hn_sI, hn_sJ, hn_sR, hR_sI, hR_sJ, kI_v, kV_v, kJ_v, true_and, and_true, forall_eq, tg, ln, rf, ne_eq, not_false_eq_true, forall_const, not_true_eq_false, false_implies, W_X8_goesOn, st_t s0, st_n s0, st_r s0, r4, x0]
    refine ⟨fun g => ?_, fun g => ?_⟩
    · rw [g] at go
      exact ⟨fun _ => go, fun g2 => absurd g g2⟩
    · rw [Bool.not_eq_false] at g
      have p3 := k.p3 rfl g
      have x1 := r6 (nd.w - 1) (by omega) (by omega)
      have x2 := n_b0 k (k := nd.w - 1) (by omega) (by omega)
      rw [g, Bool.true_and] at go
      have ea : nd.bg nd.w - nd.w - (nd.bg (nd.w - 1) - (nd.w - 1)) = ah nd := by unfold ah; omega
      have ah1 : -1 ≤ ah nd := by unfold ah; omega
      have ah2 : ah nd ≤ 520 := by unfold ah; omega
      simp (disch := first | omega | decide | assumption | exact st_ne s0 (by decide) (by decide) (by decide) | exact dyn_ne (by assumption) (by decide) | fail) only [Int.reduceAdd, Int.reduceSub, Int.reduceNeg, ii_add, ii_sub, ii_mul, ii_lt, ii_le, ii_eq, ixn_ii, ixo_ii, rem_ii, nb_1, nb_0, nb_bb, bb_0, hI_gv, Int.toNat_of_nonneg, Int.cast_ofNat_Int, ht_sI, ht_sJ, ht_sR, hn_sI, hn_sJ, hn_sR, hR_sI, hR_sJ, kI_v, kV_v, kJ_v, true_and, and_true, forall_eq, tg, ln, rf, ne_eq, not_false_eq_true, forall_const, not_true_eq_false, false_implies, x1, ea]
      refine ⟨by omega, by omega, ?_⟩
      refine ⟨fun g2 => absurd (g.symm.trans g2) (by decide), fun _ => ⟨fun g2 => ?_, fun g2 => ?_⟩⟩
      · rw [decide_eq_true g2] at go; exact go
      · rw [decide_eq_false g2] at go; exact go
end DFM3
