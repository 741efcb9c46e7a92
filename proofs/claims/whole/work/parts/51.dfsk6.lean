/-! JOINING, BY THE CLASS: all of it -/
section DFK6
variable {E : tr_Env} {ad : Nat → Nat} {h h0 h1 h2 : tr_H} {Q : tr_Q} {m one two : Int → Int} {H L : Int} {nd : Nd} {a : Ac} {nn : Nat} {d : Int}
theorem go_st (v : vok m one two H L) {n : Nat} (k : nok one two H L 1 nd) (r : nd.ea + nd.cb < n) (ka : aok H L 1 a) (o : ovr a = false) : aok H L 1 (goP one two H L n nd a) := by
  have vH := v_H v
  have vL := v_L v
  exact go_aok (by omega) vH.2 vL.1 vL.2 (fun l l0 l1 => (v_l v l0 l1).2.2) n nd a k r ka o
theorem k_lp (ok : tr_ok E) (v : vok m one two H L) {n : Nat} (ih : cKo E ad m one two H L nn n) (t0 : stat ad h0) (n0 : nst ad h0 nn m one two H L) (k : nok one two H L 1 nd) (hr : nd.ea + nd.cb ≤ n) : ∀ (mx : Nat) (j : Nat) (l : Int) (a : Ac) (h : tr_H) (t : Int), j ≤ mx → l + j = L → 0 ≤ l → aok H L 1 a → ovr a = false → fr ad pC f0 false h0 h → csA ad h nd → gv h (ad 10) nd.d = l - 1 → acK ad h a → agD ad nd.d h0 h → 0 ≤ t → t + nd.d ≤ 2 * a.st → (ovr (lpP one two (goP one two H L n) nd l j a) = false → ∀ (h' : tr_H) (t' x : Int), fr ad pC f0 false h0 h' → csA ad h' nd → acK ad h' (lpP one two (goP one two H L n) nd l j a) → agD ad nd.d h0 h' → gv h' (ad 10) nd.d = x → -1 ≤ x → x < L → (∀ l, x < l → l < L → ¬ (one l = nd.pl ∧ nd.B l ≠ 0)) → 0 ≤ t' → t' + nd.d ≤ 2 * (lpP one two (goP one two H L n) nd l j a).st → tr_G E 11 Q 49 [some (.inr (.inr (ad 2))), some (.inr (.inr nn)), some (.inl (ii nd.d)), some (.inl (ii t')), none] [] h' 0 0) → (ovr (lpP one two (goP one two H L n) nd l j a) = true → ∀ h', fr ad pC f0 false h0 h' → gv h' (ad 2) 9 = -2 → Q (.inl none) h') → tr_G E 11 Q 49 [some (.inr (.inr (ad 2))), some (.inr (.inr nn)), some (.inl (ii nd.d)), some (.inl (ii t)), none] [] h 0 0
  | mx, j, l, a, h, t, hmx, hj, l0, ka, o, f, cs, hm, ra, ag, t1, t2, q1, q2 => by
    have vL := v_L v
    have vH := v_H v
    have s0 := st_fr t0 f
    have nw := nst_fr t0 f pC_lt n0
    obtain ⟨b1, b2, b3, b4, b5, b6, b7⟩ := n_rg v (by decide) k
    have bst := ovr_st o ka
    rcases fnl_rg (one := one) (B := nd.B) (pl := nd.pl) j l l0 with e | e
    · have en : lpP one two (goP one two H L n) nd l j a = a := lp_none o j l (fun i i0 i1 g => e.2 i i0 i1 ⟨g.1, by have := k.b1 i (by omega) (by omega); omega⟩)
      rw [en] at q1
      exact q1 o h t (l - 1) f cs ra ag hm (by omega) (by omega) (fun i i0 i1 g => e.2 i (by omega) (by omega) ⟨g.1, by have := k.b1 i (by omega) (by omega); omega⟩) t1 t2
    · obtain ⟨r0, r1, r2, r3⟩ := id e
      generalize hre : fnl one nd.B nd.pl l j = r at *
      have rl : r < L := by omega
      have hv := v_l v (l := r) (by omega) rl
      have hb : nd.B r ≠ 0 := by omega
      have es := lp_skip (two := two) (f := goP one two H L n) o ⟨r2, hb⟩ j l r0 r1 (fun i i0 i1 g => by
        have := fnl_least (one := one) (B := nd.B) (pl := nd.pl) j l i l0 i0 (by omega) ⟨g.1, by have := k.b1 i (by omega) (by omega); omega⟩
        omega)
      have uo := up_ov ka o
      have ku := aok_up ka o
      refine T_X1_join_49 ok ?_
      simp (disch := first | omega | decide | assumption | exact st_ne s0 (by decide) (by decide) (by decide) | exact dyn_ne (by assumption) (by decide) | fail) only [Int.reduceAdd, Int.reduceSub, Int.reduceNeg, ii_add, ii_sub, ii_mul, ii_lt, ii_le, ii_eq, ixn_ii, ixo_ii, rem_ii, nb_1, nb_0, nb_bb, bb_0, hI_gv, Int.toNat_of_nonneg, Int.cast_ofNat_Int, ht_sI, ht_sJ, ht_sR, hn_sI, hn_sJ, hn_sR, hR_sI, hR_sJ, kI_v, kV_v, kJ_v, true_and, and_true, forall_eq, tg, ln, rf, ne_eq, not_false_eq_true, forall_const, not_true_eq_false, false_implies, W_X1_join_49, st_t s0]
      refine ⟨fun _ => ⟨fun g => by omega, fun _ => ⟨fun _ => ?_, fun g => absurd (by omega) g⟩⟩, fun g => absurd (by omega) g⟩
      refine k_nextMove ok s0 nw v k cs hm (by omega) (by omega) ?_
      rw [if_neg (by omega), show l - 1 + 1 = l by omega, show (L - l).toNat = j by omega, hre]
      have n9 : ¬ r = -9 := by omega
      have n1 : ¬ r = -1 := by omega
      simp (disch := first | omega | decide | assumption | exact st_ne s0 (by decide) (by decide) (by decide) | exact dyn_ne (by assumption) (by decide) | fail) only [Int.reduceAdd, Int.reduceSub, Int.reduceNeg, ii_add, ii_sub, ii_mul, ii_lt, ii_le, ii_eq, ixn_ii, ixo_ii, rem_ii, nb_1, nb_0, nb_bb, bb_0, hI_gv, Int.toNat_of_nonneg, Int.cast_ofNat_Int, ht_sI, ht_sJ, ht_sR, hn_sI, hn_sJ, hn_sR, hR_sI, hR_sJ, kI_v, kV_v, kJ_v, true_and, and_true, forall_eq, tg, ln, rf, ne_eq, not_false_eq_true, forall_const, not_true_eq_false, false_implies, Int.reduceEq, Int.reduceLT, Int.reduceLE, implies_true, and_self, reduceCtorEq, false_and, st_t s0, st_n s0, st_r s0, n9, n1, ra.1]
      refine ⟨fun g5 => ?_, fun g5 => ⟨by omega, ?_⟩⟩
      · rw [es, uo, decide_eq_true g5, if_pos rfl] at q2
        refine q2 (by rw [uo, decide_eq_true g5]) _ (fr_sI f rfl) ?_
        rw [gv_sIi (by decide) (by decide)]; exact ud_eq _ _ _
      · have o2 : ovr a.up = false := by rw [uo, decide_eq_false g5]
        rw [es, if_neg (by rw [o2]; decide)] at q1 q2
        obtain ⟨f1, cs1, m1, ra1, ag1⟩ := put_mv s0 v k cs ra ka (r := r) (by omega) (by omega)
        have s1 := st_fr s0 f1
        have nw1 := nst_fr s0 f1 pC_lt nw
        have kl := nok_L (two := two) vL.2 k (by omega) rl hb hv.2.2
        have rr : (ndL two nd r).ea + (ndL two nd r).cb < n := by rw [r_L]; omega
        refine k_goOn ok s1 nw1 v k cs1 (by omega) rl hb m1 (fun h2 f2 cs2 m2 ak2 ag2 => ?_)
        simp (disch := first | omega | decide | assumption | exact st_ne s0 (by decide) (by decide) (by decide) | exact dyn_ne (by assumption) (by decide) | fail) only [Int.reduceAdd, Int.reduceSub, Int.reduceNeg, ii_add, ii_sub, ii_mul, ii_lt, ii_le, ii_eq, ixn_ii, ixo_ii, rem_ii, nb_1, nb_0, nb_bb, bb_0, hI_gv, Int.toNat_of_nonneg, Int.cast_ofNat_Int, ht_sI, ht_sJ, ht_sR, hn_sI, hn_sJ, hn_sR, hR_sI, hR_sJ, kI_v, kV_v, kJ_v, true_and, and_true, forall_eq, tg, ln, rf, ne_eq, not_false_eq_true, forall_const, not_true_eq_false, false_implies]
        have s2 := st_fr s1 f2
        have nw2 := nst_fr s1 f2 pC_lt nw1
        have f3 := fr_tr f (fr_tr f1 f2)
        have agd : agD ad (nd.d + 1) h h2 := agD_tr (agD_le (by omega) ag1) ag2
        have kg := go_st v kl rr (aok_1 ku) o2
        refine ih (ndL two nd r) a.up h2 (t + 1) Q kl rr (aok_1 ku) o2 s2 nw2 cs2 m2 (acK_ag ra1 ak2) (by omega) ?_ (fun og h3 t3 x f4 cs4 ra4 ag4 m4 x0 x1 x2 t30 t31 => ?_) (fun og h3 f4 m4 => ?_)
        · show t + 1 + (nd.d + 1) ≤ 2 * (a.st + 1)
          omega
        · have t31 : t3 + (nd.d + 1) ≤ 2 * (goP one two H L n (ndL two nd r) a.up).st := t31
          have bst2 := ovr_st og kg
          have s3 := st_fr s2 f4
          have nw3 := nst_fr s2 f4 pC_lt nw2
          have ag5 : agD ad (nd.d + 1) h h3 := agD_tr agd ag4
          obtain ⟨c1, c2, c3, c4, c5, c6, c7, c8, c9⟩ := id cs
          refine k_back_L ok s3 nw3 v k (by omega) rl hb cs4 m4 x0 x1 x2 t30 (by omega) ((ag5 nd.d (by omega) (by omega)).1.trans c7) ((ag5 nd.d (by omega) (by omega)).2.trans c9) (fun h5 f5 cs5 m5 ak5 ag6 => ?_)
          obtain ⟨mx, rfl⟩ : ∃ n', mx = n' + 1 := ⟨mx - 1, by omega⟩
          refine k_lp ok v ih t0 n0 k hr mx (l + j - r - 1).toNat (r + 1) _ h5 (t3 + 1) (by omega) (by omega) (by omega) kg og (fr_tr f3 (fr_tr f4 f5)) cs5 (by rw [m5]; omega) (acK_ag ra4 ak5) ?_ (by omega) (by omega) q1 q2
          exact agD_tr ag (agD_tr (agD_le (by omega) ag5) (agD_le (by omega) ag6))
        · rw [lp_over og] at q2
          exact q2 og h3 (fr_tr f3 f4) m4
theorem k_node (ok : tr_ok E) (v : vok m one two H L) : ∀ n : Nat, cKo E ad m one two H L nn n
  | 0 => fun nd a h t Q k hr _ _ _ _ _ _ _ _ _ _ _ => by
    have := n_rg v (by decide) k
    omega
  | n + 1 => fun nd a h t Q k hr ka o s0 nw cs hm ra t0 t1 q1 q2 => by
    have ih := k_node ok v n
    have vL := v_L v
    have vH := v_H v
    obtain ⟨b1, b2, b3, b4, b5, b6, b7⟩ := n_rg v (by decide) k
    have bst := ovr_st o ka
    have hl := lst0_rg k vL.1
    have es : goP one two H L (n + 1) nd a = lpP one two (goP one two H L n) nd (lst0 nd) (L - lst0 nd).toNat (if gA nd then a else enP H (goP one two H L n) nd a) := rfl
    rw [es] at q1 q2
    cases ga : gA nd
    · obtain ⟨e1, e2⟩ := sv_n k ga
      rw [ga, if_neg (by decide), e2, Int.sub_zero] at q1 q2
      rw [e1] at hm
      have uo := up_ov ka o
      have ku := aok_up ka o
      refine T_X1_join_49 ok ?_
      simp (disch := first | omega | decide | assumption | exact st_ne s0 (by decide) (by decide) (by decide) | exact dyn_ne (by assumption) (by decide) | fail) only [Int.reduceAdd, Int.reduceSub, Int.reduceNeg, ii_add, ii_sub, ii_mul, ii_lt, ii_le, ii_eq, ixn_ii, ixo_ii, rem_ii, nb_1, nb_0, nb_bb, bb_0, hI_gv, Int.toNat_of_nonneg, Int.cast_ofNat_Int, ht_sI, ht_sJ, ht_sR, hn_sI, hn_sJ, hn_sR, hR_sI, hR_sJ, kI_v, kV_v, kJ_v, true_and, and_true, forall_eq, tg, ln, rf, ne_eq, not_false_eq_true, forall_const, not_true_eq_false, false_implies, W_X1_join_49, st_t s0]
      refine ⟨fun _ => ⟨fun g => by omega, fun _ => ⟨fun _ => ?_, fun g => absurd (by omega) g⟩⟩, fun g => absurd (by omega) g⟩
      refine k_nextMove ok s0 nw v k cs hm (by omega) (by omega) ?_
      rw [if_pos rfl]
      simp (disch := first | omega | decide | assumption | exact st_ne s0 (by decide) (by decide) (by decide) | exact dyn_ne (by assumption) (by decide) | fail) only [Int.reduceAdd, Int.reduceSub, Int.reduceNeg, ii_add, ii_sub, ii_mul, ii_lt, ii_le, ii_eq, ixn_ii, ixo_ii, rem_ii, nb_1, nb_0, nb_bb, bb_0, hI_gv, Int.toNat_of_nonneg, Int.cast_ofNat_Int, ht_sI, ht_sJ, ht_sR, hn_sI, hn_sJ, hn_sR, hR_sI, hR_sJ, kI_v, kV_v, kJ_v, true_and, and_true, forall_eq, tg, ln, rf, ne_eq, not_false_eq_true, forall_const, not_true_eq_false, false_implies, Int.reduceEq, Int.reduceLT, Int.reduceLE, implies_true, and_self, reduceCtorEq, false_and, st_t s0, st_n s0, st_r s0, ra.1]
      refine ⟨fun g5 => ?_, fun g5 => ⟨by omega, ?_⟩⟩
      · have o2 : ovr a.up = true := by rw [uo, decide_eq_true g5]
        have ee : enP H (goP one two H L n) nd a = a.up := by unfold enP; rw [if_pos o2]
        rw [ee, lp_over o2] at q2
        refine q2 o2 _ (fr_sI fr_rfl rfl) ?_
        rw [gv_sIi (by decide) (by decide)]; exact ud_eq _ _ _
      · have o2 : ovr a.up = false := by rw [uo, decide_eq_false g5]
        have ee : enP H (goP one two H L n) nd a = bgP H (goP one two H L n) (ndX nd) a.up := by unfold enP; rw [if_neg (by rw [o2]; decide)]
        rw [ee] at q1 q2
        obtain ⟨f1, cs1, m1, ra1, ag1⟩ := put_mv s0 v k cs ra ka (r := -1) (by omega) (by omega)
        have s1 := st_fr s0 f1
        have nw1 := nst_fr s0 f1 pC_lt nw
        have fe := fhp_ea v (by decide) k
        have eX : (ndX nd).A = nd.A := rfl
        have eR : (ndX nd).ea + (ndX nd).cb = nd.ea + nd.cb := rfl
        have est : a.up.st = a.st + 1 := rfl
        refine k_endWalk ok s1 v k cs1 m1 ra1 ku (fun ge h2 f2 cs2 m2 ak2 ag2 => ?_) (fun ge gc h2 f2 cs2 m2 ra2 ag2 => ?_) (fun ge gc => ?_)
        · have hz : fhp nd.A 0 H.toNat < H := by rw [fe]; exact ge
          have hy := fhp_0 (nd := nd) (by omega) hz
          have eb : bgP H (goP one two H L n) (ndX nd) a.up = goP one two H L n (ndO (ndX nd) (fhp nd.A 0 H.toNat)) a.up := by
            unfold bgP
            rw [eX, if_pos hz]
          rw [eb] at q1 q2
          generalize fhp nd.A 0 H.toNat = y at *
          have kl := nok_O (by omega) vH.2 (nok_X vH.2 k) hy.1 hz hy.2
          have rr : (ndO (ndX nd) y).ea + (ndO (ndX nd) y).cb < n := by rw [r_O, eR]; omega
          have s2 := st_fr s1 f2
          have nw2 := nst_fr s1 f2 pC_lt nw1
          have f3 := fr_tr f1 f2
          have agd : agD ad (nd.d + 1) h h2 := agD_tr (agD_le (by omega) ag1) ag2
          have kg := go_st v kl rr (aok_1 ku) o2
          simp (disch := first | omega | decide | assumption | exact st_ne s0 (by decide) (by decide) (by decide) | exact dyn_ne (by assumption) (by decide) | fail) only [Int.reduceAdd, Int.reduceSub, Int.reduceNeg, ii_add, ii_sub, ii_mul, ii_lt, ii_le, ii_eq, ixn_ii, ixo_ii, rem_ii, nb_1, nb_0, nb_bb, bb_0, hI_gv, Int.toNat_of_nonneg, Int.cast_ofNat_Int, ht_sI, ht_sJ, ht_sR, hn_sI, hn_sJ, hn_sR, hR_sI, hR_sJ, kI_v, kV_v, kJ_v, true_and, and_true, forall_eq, tg, ln, rf, ne_eq, not_false_eq_true, forall_const, not_true_eq_false, false_implies]
          refine ih (ndO (ndX nd) y) a.up h2 (t + 1) Q kl rr (aok_1 ku) o2 s2 nw2 cs2 m2 (acK_ag ra1 ak2) (by omega) ?_ (fun og h3 t3 x f4 cs4 ra4 ag4 m4 x0 x1 x2 t30 t31 => ?_) (fun og h3 f4 m4 => ?_)
          · show t + 1 + (nd.d + 1) ≤ 2 * (a.st + 1)
            omega
          · have t31 : t3 + (nd.d + 1) ≤ 2 * (goP one two H L n (ndO (ndX nd) y) a.up).st := t31
            have bst2 := ovr_st og kg
            have s3 := st_fr s2 f4
            have nw3 := nst_fr s2 f4 pC_lt nw2
            have ag5 : agD ad (nd.d + 1) h h3 := agD_tr agd ag4
            obtain ⟨c1, c2, c3, c4, c5, c6, c7, c8, c9⟩ := id cs
            refine k_back_X ok s3 nw3 v k ge hy.1 hz hy.2 cs4 m4 x0 x1 x2 t30 (by omega) ((ag5 nd.d (by omega) (by omega)).1.trans c7) ((ag5 nd.d (by omega) (by omega)).2.trans c9) (fun h5 f5 cs5 m5 ak5 ag6 => ?_)
            refine k_lp ok v ih s0 nw k (by omega) L.toNat L.toNat 0 _ h5 (t3 + 1) (Nat.le_refl _) (by omega) (by omega) kg og (fr_tr f3 (fr_tr f4 f5)) cs5 (by rw [m5]; rfl) (acK_ag ra4 ak5) ?_ (by omega) (by omega) q1 q2
            exact agD_tr (agD_le (by omega) ag5) (agD_le (by omega) ag6)
          · rw [lp_over og] at q2
            exact q2 og h3 (fr_tr f3 f4) m4
        · have hz : ¬ fhp nd.A 0 H.toNat < H := by rw [fe]; omega
          have eb : bgP H (goP one two H L n) (ndX nd) a.up = tkS (ndX nd) a.up := by
            unfold bgP
            rw [eX, if_neg hz, eR, if_pos (by omega)]
          rw [eb] at q1 q2
          have kt := aok_tk vL.2 vH.2 (nok_X vH.2 k) ku
          have eo : (tkS (ndX nd) a.up).st = a.up.st := by
            by_cases g : a.up.se = 0
            · have e : tkS (ndX nd) a.up = (a.up.st, a.up.se + 1, (ndX nd).w, (ndX nd).M, (ndX nd).bg, (ndX nd).hp) := if_pos g
              rw [e]; rfl
            · have e : tkS (ndX nd) a.up = (a.up.st, a.up.se + 1, a.up.fw, a.up.fM, a.up.fb, a.up.fh) := if_neg g
              rw [e]; rfl
          have o3 : ovr (tkS (ndX nd) a.up) = false := by unfold ovr; rw [eo]; exact o2
          simp (disch := first | omega | decide | assumption | exact st_ne s0 (by decide) (by decide) (by decide) | exact dyn_ne (by assumption) (by decide) | fail) only [Int.reduceAdd, Int.reduceSub, Int.reduceNeg, ii_add, ii_sub, ii_mul, ii_lt, ii_le, ii_eq, ixn_ii, ixo_ii, rem_ii, nb_1, nb_0, nb_bb, bb_0, hI_gv, Int.toNat_of_nonneg, Int.cast_ofNat_Int, ht_sI, ht_sJ, ht_sR, hn_sI, hn_sJ, hn_sR, hR_sI, hR_sJ, kI_v, kV_v, kJ_v, true_and, and_true, forall_eq, tg, ln, rf, ne_eq, not_false_eq_true, forall_const, not_true_eq_false, false_implies]
          exact k_lp ok v ih s0 nw k (by omega) L.toNat L.toNat 0 _ h2 (t + 1) (Nat.le_refl _) (by omega) (by omega) kt o3 (fr_tr f1 f2) cs2 (by rw [m2]; rfl) ra2 (agD_tr (agD_le (by omega) ag1) (agD_le (by omega) ag2)) (by omega) (by rw [eo, est]; omega) q1 q2
        · have hz : ¬ fhp nd.A 0 H.toNat < H := by rw [fe]; omega
          have eb : bgP H (goP one two H L n) (ndX nd) a.up = a.up := by
            unfold bgP
            rw [eX, if_neg hz, eR, if_neg (by omega)]
          rw [eb] at q1 q2
          simp (disch := first | omega | decide | assumption | exact st_ne s0 (by decide) (by decide) (by decide) | exact dyn_ne (by assumption) (by decide) | fail) only [Int.reduceAdd, Int.reduceSub, Int.reduceNeg, ii_add, ii_sub, ii_mul, ii_lt, ii_le, ii_eq, ixn_ii, ixo_ii, rem_ii, nb_1, nb_0, nb_bb, bb_0, hI_gv, Int.toNat_of_nonneg, Int.cast_ofNat_Int, ht_sI, ht_sJ, ht_sR, hn_sI, hn_sJ, hn_sR, hR_sI, hR_sJ, kI_v, kV_v, kJ_v, true_and, and_true, forall_eq, tg, ln, rf, ne_eq, not_false_eq_true, forall_const, not_true_eq_false, false_implies]
          exact k_lp ok v ih s0 nw k (by omega) L.toNat L.toNat 0 _ _ (t + 1) (Nat.le_refl _) (by omega) (by omega) (aok_1 ku) o2 f1 cs1 (by rw [m1]; rfl) ra1 (agD_le (by omega) ag1) (by omega) (by rw [est]; omega) q1 q2
    · rw [ga, if_pos rfl] at q1 q2
      have e1 := sv_a k ga
      rw [e1] at hm
      exact k_lp ok v ih s0 nw k (by omega) (L - lst0 nd).toNat (L - lst0 nd).toNat (lst0 nd) a h t (Nat.le_refl _) (by omega) hl.1 ka o fr_rfl cs hm ra agD_rfl t0 t1 q1 q2
end DFK6
