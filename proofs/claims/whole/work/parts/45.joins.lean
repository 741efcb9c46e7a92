/-! JOINING, BY THE REFERENCE: the start -/
def nd00 (m : Int → Int) (l : Int) : Nd := (en m l, ca m l, el m l, cl m l, fun _ => 0, fun _ => 0, fun _ => 0, 0, 0, 0, false)
def ac00 : Ac := (0, 0, 0, fun _ => 0, fun _ => 0, fun _ => 0)
def jn (m one two : Int → Int) (H L l : Int) : Ac := bgP H (goP one two H L 521) (nd00 m l) ac00
def jts (a : Ac) : Int := if ovr a then -2 else a.se
theorem sm_le1 {f : Int → Int} {c : Int} (n : Nat) (h0 : ∀ k, k ≠ 0 → f k = 0) (h1 : f 0 ≤ c) (hc : 0 ≤ c) : sm f 0 n ≤ c := by
  have e : sm f 0 n = sm (fun k => if k = 0 then f 0 else 0) 0 n := sm_congr n 0 (fun k _ _ => by
    by_cases e : k = 0
    · rw [if_pos e, e]
    · rw [if_neg e]; exact h0 k e)
  rw [e, sm_ind]
  split <;> omega
section JNS
variable {m one two : Int → Int} {H L l : Int}
theorem sw_ov (v : vok m one two H L) (f : Int → Int → Int → Int) (g : Int → Int → Int) (n : Nat) (hf : ∀ p k, 0 ≤ p → p < m 106 → 0 ≤ k → k ≤ fd m p 6 → sm (fun x => f x p k) 0 n = g p k) : sm (fun x => sm (ov m l (f x)) 0 (m 106).toNat) 0 n = sm (ov m l g) 0 (m 106).toNat := by
  have vm := v_m v
  rw [sm_swap]
  refine sm_congr _ _ (fun p h1 h2 => ?_)
  have h2 : p < m 106 := by omega
  obtain ⟨q0, q1, q2, q3, q4, q5, q6, q7⟩ := v_p v h1 h2
  unfold ov
  by_cases e : lab m p = l
  · rw [if_pos e]
    have : sm (fun j => if lab m p = l then sm (f j p) 0 (fd m p 6 + 1).toNat else 0) 0 n = sm (fun j => sm (f j p) 0 (fd m p 6 + 1).toNat) 0 n := sm_congr n 0 (fun j _ _ => if_pos e)
    rw [this, sm_swap]
    exact sm_congr _ _ (fun k k0 k1 => hf p k h1 h2 k0 (by omega))
  · rw [if_neg e]
    exact sm_zero n 0 (fun j => if_neg e)
theorem b2_and (b : Bool) (q : Prop) [Decidable q] : b2 (b && decide q) = if q then b2 b else 0 := by
  by_cases e : q
  · rw [if_pos e, decide_eq_true e, Bool.and_true]
  · rw [if_neg e, decide_eq_false e, Bool.and_false]; rfl
theorem el_s (v : vok m one two H L) : el m l = sm (en m l) 0 H.toNat := by
  have vH := v_H v
  symm
  refine sw_ov v (eK m) (eR m) H.toNat (fun p k h1 h2 k0 k1 => ?_)
  obtain ⟨q0, q1, q2, q3, q4, q5, q6, q7⟩ := v_p v h1 h2
  by_cases e : k = 0
  · have : sm (fun x => eK m x p k) 0 H.toNat = sm (fun x => if x = fd m p 0 then b2 (chs m p k) else 0) 0 H.toNat := sm_congr _ _ (fun x _ _ => by
      unfold eK
      rw [b2_and]
      by_cases g : x = fd m p 0
      · rw [if_pos g, if_pos ⟨e, g.symm⟩]
      · rw [if_neg g, if_neg (fun g2 => g g2.2.symm)])
    rw [this, sm_ind, if_pos (by omega)]
    unfold eR
    rw [b2_and, if_pos e]
  · unfold eR
    rw [b2_and, if_neg e]
    refine sm_zero _ _ (fun x => ?_)
    unfold eK
    rw [b2_and, if_neg (fun g => e g.1)]
theorem cl_s (v : vok m one two H L) : cl m l = sm (ca m l) 0 L.toNat := by
  have vL := v_L v
  symm
  refine sw_ov v (cK m) (cR m) L.toNat (fun p k h1 h2 k0 k1 => ?_)
  obtain ⟨q0, q1, q2, q3, q4, q5, q6, q7⟩ := v_p v h1 h2
  by_cases e : k = 0
  · unfold cR
    rw [b2_and, if_neg (fun g => g e)]
    refine sm_zero _ _ (fun x => ?_)
    unfold cK
    rw [b2_and, if_neg (fun g => g.1 e)]
  · have lq := q7 (k - 1) (by omega) (by omega)
    have el : lkk m p k = lk m p (k - 1) := by unfold lkk; rw [if_neg e]
    have : sm (fun x => cK m x p k) 0 L.toNat = sm (fun x => if x = lkk m p k then b2 (chs m p k) else 0) 0 L.toNat := sm_congr _ _ (fun x _ _ => by
      unfold cK
      rw [b2_and]
      by_cases g : x = lkk m p k
      · rw [if_pos g, if_pos ⟨e, g.symm⟩]
      · rw [if_neg g, if_neg (fun g2 => g g2.2.symm)])
    rw [this, sm_ind, if_pos (by omega)]
    unfold cR
    rw [b2_and, if_pos e]
theorem en_z (v : vok m one two H L) {x : Int} (h : H ≤ x) : en m l x = 0 := by
  have vm := v_m v
  unfold en
  rw [sm_congr (g := fun _ => 0) _ _ (fun p h1 h2 => ?_)]
  · exact sm_zero _ _ (fun _ => rfl)
  · have h2 : p < m 106 := by omega
    obtain ⟨q0, q1, q2, q3, q4, q5, q6, q7⟩ := v_p v h1 h2
    unfold ov
    split
    · refine sm_zero _ _ (fun k => ?_)
      unfold eK
      rw [b2_and, if_neg (fun g => by omega)]
    · rfl
theorem ca_z (v : vok m one two H L) {x : Int} (h : L ≤ x) : ca m l x = 0 := by
  have vm := v_m v
  unfold ca
  rw [sm_congr (g := fun _ => 0) _ _ (fun p h1 h2 => ?_)]
  · exact sm_zero _ _ (fun _ => rfl)
  · have h2 : p < m 106 := by omega
    obtain ⟨q0, q1, q2, q3, q4, q5, q6, q7⟩ := v_p v h1 h2
    unfold ov
    split
    · rw [sm_congr (g := fun _ => 0) _ _ (fun k k0 k1 => ?_)]
      · exact sm_zero _ _ (fun _ => rfl)
      · unfold cK
        rw [b2_and, if_neg]
        intro g
        have lq := q7 (k - 1) (by omega) (by omega)
        have el : lkk m p k = lk m p (k - 1) := by unfold lkk; rw [if_neg g.1]
        omega
    · rfl
theorem el_40 (v : vok m one two H L) : el m l ≤ 40 := by
  have vm := v_m v
  have := sm_rg (f := ov m l (eR m)) (lo := 0) (hi := 1) (m 106).toNat 0 (fun p h1 h2 => by
    have h2 : p < m 106 := by omega
    refine ⟨(ov_rg v h1 h2 (fun k => b2_rg _)).1, ?_⟩
    unfold ov
    split
    · refine sm_le1 _ (fun k e => ?_) (b2_rg _).2 (by omega)
      unfold eR
      rw [b2_and, if_neg e]
    · omega)
  unfold el
  omega
theorem nok_00 (v : vok m one two H L) : nok one two H L 0 (nd00 m l) := by
  have h4 := el_40 (l := l) v
  have he := el_rg (l := l) v
  have hc := cl_rg (l := l) v
  have hr : rp m l ≤ 520 := (so_rg (f := rR m) v (fun _ _ => b2_rg _)).2
  rw [rp_ec] at hr
  refine ⟨fun x _ _ => en_rg v, fun x x0 _ => en_z v x0, fun x _ _ => ca_rg v, fun x x0 _ => ca_z v x0, el_s v, cl_s v, ?_, ?_, Int.le_refl _, rfl, ?_, Int.le_refl _, fun _ => rfl, ?_, ?_, ?_, fun e => by omega, fun e => by omega⟩
  · show el m l + cl m l + 0 + 0 ≤ 520
    omega
  · show 0 + el m l + 0 ≤ 40
    omega
  · intro k k0 k1
    have k1 : k < 0 := k1
    omega
  · intro k i k0 k1 i0 i1
    have k1 : k ≤ 0 := k1
    have i0 : 0 ≤ i := i0
    have : k = 0 := by omega
    subst this
    have i1 : i < 0 := i1
    omega
  · intro k k0 k1
    have k1 : k < 0 := k1
    omega
  · intro k k0 k1
    have k1 : k < 0 + 0 := k1
    omega
theorem aok_00 : aok H L 0 ac00 := ⟨⟨by decide, by decide⟩, ⟨by decide, by decide⟩, fun e => absurd e (by decide)⟩
theorem jn_aok (v : vok m one two H L) : aok H L 1 (jn m one two H L l) := by
  have vH := v_H v
  have vL := v_L v
  have n := nok_00 (l := l) v
  have hr := n.t1
  refine bg_aok (n := 521) (by omega) vH.2 vL.2 (go_aok (by omega) vH.2 vL.1 vL.2 (fun l l0 l1 => (v_l v l0 l1).2.2) 521) n ?_ aok_00 rfl
  show el m l + cl m l ≤ 521
  have hr : el m l + cl m l + 0 + 0 ≤ 520 := hr
  omega
theorem jts_rg (v : vok m one two H L) : -2 ≤ jts (jn m one two H L l) ∧ jts (jn m one two H L l) ≤ 5002 := by
  obtain ⟨k1, k2, k3⟩ := jn_aok (l := l) v
  unfold jts
  split <;> omega
end JNS
section JNM
variable {E : tr_Env} {ad : Nat → Nat} {h h0 : tr_H} {Q : tr_Q} {m one two : Int → Int} {H L : Int}
theorem c_joins (ok : tr_ok E) (s : mst ad h m one two H L) (v : vok m one two H L) {l : Int} (l0 : 0 ≤ l) (l1 : l ≤ 64) (q : ∀ h', fr ad pJ fJ false h h' → acR ad h' (jn m one two H L l) → gv h' (ad 23) 25 = rp m l → Q (.inl none) h') : tr_C E 175 [.inr (.inr (ad 23)), .inl (ii l)] h Q := by
  refine T_X8_joins ok ?_
  have s0 := s.1
  simp (disch := first | omega | decide | assumption | exact st_ne s0 (by decide) (by decide) (by decide) | exact dyn_ne (by assumption) (by decide) | fail) only [Int.reduceAdd, Int.reduceSub, Int.reduceNeg, ii_add, ii_sub, ii_mul, ii_lt, ii_le, ii_eq, ixn_ii, ixo_ii, rem_ii, nb_1, nb_0, nb_bb, bb_0, hI_gv, Int.toNat_of_nonneg, Int.cast_ofNat_Int, ht_sI, ht_sJ, ht_sR, hn_sI, hn_sJ, hn_sR, hR_sI, hR_sJ, kI_v, kV_v, kJ_v, true_and, and_true, forall_eq, tg, ln, rf, ne_eq, not_false_eq_true, forall_const, not_true_eq_false, false_implies, W_X8_joins, st_t s0]
  refine c_laysReports ok s v l0 l1 (fun h1 f1 r1 => ?_)
  have t1 := mst_j s f1
  have t0 := t1.1
  obtain ⟨rA, rB, rC⟩ := id r1
  have hr := rp_ec m l
  have n := nok_00 (l := l) v
  have ht := n.t1
  have ht : el m l + cl m l + 0 + 0 ≤ 520 := ht
  have he := el_rg (l := l) v
  have hc := cl_rg (l := l) v
  have z25 : ∀ (X : Int → Int) (a b c d : Int), ud (ud (ud (ud X 32 a) 33 b) 34 c) 35 d 25 = X 25 := fun X a b c d => by
    rw [ud_ne (by decide), ud_ne (by decide), ud_ne (by decide), ud_ne (by decide)]
  have s0 := t0
  simp (disch := first | omega | decide | assumption | exact st_ne s0 (by decide) (by decide) (by decide) | exact dyn_ne (by assumption) (by decide) | fail) only [Int.reduceAdd, Int.reduceSub, Int.reduceNeg, ii_add, ii_sub, ii_mul, ii_lt, ii_le, ii_eq, ixn_ii, ixo_ii, rem_ii, nb_1, nb_0, nb_bb, bb_0, hI_gv, Int.toNat_of_nonneg, Int.cast_ofNat_Int, ht_sI, ht_sJ, ht_sR, hn_sI, hn_sJ, hn_sR, hR_sI, hR_sJ, kI_v, kV_v, kJ_v, true_and, and_true, forall_eq, tg, ln, rf, ne_eq, not_false_eq_true, forall_const, not_true_eq_false, false_implies, st_t t0, st_n t0, st_r t0, gv_sIn, gv_sIi, z25, rC]
  refine ⟨by omega, ?_⟩
  have f2 : fr ad pJ fN false h1 (hsI (hsI (hsI (hsI (hsI (hsI h1 (ad 23) 32 (ii 0)) (ad 23) 33 (ii 0)) (ad 23) 34 (ii 0)) (ad 23) 35 (ii 0)) (ad 37) (Int.toNat 0) (ii 0)) (ad 23) 36 (ii (rp m l))) := fr_sF (fr_sI (fr_sF (fr_sF (fr_sF (fr_sF fr_rfl rfl) rfl) rfl) rfl) rfl) rfl
  have z32 : ∀ (X : Int → Int) (a b c d e : Int), ud (ud (ud (ud (ud X 32 a) 33 b) 34 c) 35 d) 36 e 32 = a := fun X a b c d e => by
    rw [ud_ne (by decide), ud_ne (by decide), ud_ne (by decide), ud_ne (by decide), ud_eq]
  have z33 : ∀ (X : Int → Int) (a b c d e : Int), ud (ud (ud (ud (ud X 32 a) 33 b) 34 c) 35 d) 36 e 33 = b := fun X a b c d e => by
    rw [ud_ne (by decide), ud_ne (by decide), ud_ne (by decide), ud_eq]
  have z34 : ∀ (X : Int → Int) (a b c d e : Int), ud (ud (ud (ud (ud X 32 a) 33 b) 34 c) 35 d) 36 e 34 = c := fun X a b c d e => by
    rw [ud_ne (by decide), ud_ne (by decide), ud_eq]
  have z36 : ∀ (X : Int → Int) (e : Int), ud X 36 e 36 = e := fun X e => ud_eq _ _ _
  refine tr_C_Cr rfl rfl (c_beginsWalk (d := 1129) ok v (n := 521) (by omega) (c_goesOn ok v 521) (mst_n t1 f2) n ?_ ?_ aok_00 rfl ?_ (fun h3 f3 r3 a3 => ?_))
  · unfold rsA rsF
    simp (disch := first | omega | decide | assumption | exact st_ne s0 (by decide) (by decide) (by decide) | exact dyn_ne (by assumption) (by decide) | fail) only [Int.reduceAdd, Int.reduceSub, Int.reduceNeg, ii_add, ii_sub, ii_mul, ii_lt, ii_le, ii_eq, ixn_ii, ixo_ii, rem_ii, nb_1, nb_0, nb_bb, bb_0, hI_gv, Int.toNat_of_nonneg, Int.cast_ofNat_Int, ht_sI, ht_sJ, ht_sR, hn_sI, hn_sJ, hn_sR, hR_sI, hR_sJ, kI_v, kV_v, kJ_v, true_and, and_true, forall_eq, tg, ln, rf, ne_eq, not_false_eq_true, forall_const, not_true_eq_false, false_implies, gv_sIn, gv_sIi, z32, z36]
    refine ⟨rA, rB, hr, rfl, fun k k0 k1 => ?_, fun k k0 k1 => ?_, fun k i k0 k1 i0 i1 => ?_⟩
    · have k1 : k < 0 + 0 := k1
      omega
    · have k1 : k ≤ 0 := k1
      have : k = 0 := by omega
      subst this
      exact ud_eq _ _ _
    · have k1 : k ≤ 0 := k1
      have i0 : 0 ≤ i := i0
      have : k = 0 := by omega
      subst this
      have i1 : i < 0 := i1
      omega
  · unfold acR acF
    simp (disch := first | omega | decide | assumption | exact st_ne s0 (by decide) (by decide) (by decide) | exact dyn_ne (by assumption) (by decide) | fail) only [Int.reduceAdd, Int.reduceSub, Int.reduceNeg, ii_add, ii_sub, ii_mul, ii_lt, ii_le, ii_eq, ixn_ii, ixo_ii, rem_ii, nb_1, nb_0, nb_bb, bb_0, hI_gv, Int.toNat_of_nonneg, Int.cast_ofNat_Int, ht_sI, ht_sJ, ht_sR, hn_sI, hn_sJ, hn_sR, hR_sI, hR_sJ, kI_v, kV_v, kJ_v, true_and, and_true, forall_eq, tg, ln, rf, ne_eq, not_false_eq_true, forall_const, not_true_eq_false, false_implies, gv_sIn, gv_sIi, z33, z34]
    exact ⟨rfl, rfl, fun e => absurd e (by decide)⟩
  · show el m l + cl m l ≤ 521
    omega
  · simp (disch := first | omega | decide | assumption | exact st_ne s0 (by decide) (by decide) (by decide) | exact dyn_ne (by assumption) (by decide) | fail) only [Int.reduceAdd, Int.reduceSub, Int.reduceNeg, ii_add, ii_sub, ii_mul, ii_lt, ii_le, ii_eq, ixn_ii, ixo_ii, rem_ii, nb_1, nb_0, nb_bb, bb_0, hI_gv, Int.toNat_of_nonneg, Int.cast_ofNat_Int, ht_sI, ht_sJ, ht_sR, hn_sI, hn_sJ, hn_sR, hR_sI, hR_sJ, kI_v, kV_v, kJ_v, true_and, and_true, forall_eq, tg, ln, rf, ne_eq, not_false_eq_true, forall_const, not_true_eq_false, false_implies]
    refine q h3 (fr_tr f1 (fr_NJ (fr_tr f2 f3))) a3 ?_
    rw [fr_gf t0 (fr_tr f2 f3) rfl pJ_lt rfl]
    exact rC
theorem c_jointsOf (ok : tr_ok E) (s : mst ad h m one two H L) (v : vok m one two H L) {l : Int} (l0 : 0 ≤ l) (l1 : l ≤ 64) (q : ∀ h', fr ad pJ fJ false h h' → acR ad h' (jn m one two H L l) → gv h' (ad 23) 25 = rp m l → Q (.inl (some (.inl (ii (jts (jn m one two H L l)))))) h') : tr_C E 180 [.inr (.inr (ad 23)), .inl (ii l)] h Q := by
  refine T_X8_jointsOf ok ?_
  have s0 := s.1
  simp (disch := first | omega | decide | assumption | exact st_ne s0 (by decide) (by decide) (by decide) | exact dyn_ne (by assumption) (by decide) | fail) only [Int.reduceAdd, Int.reduceSub, Int.reduceNeg, ii_add, ii_sub, ii_mul, ii_lt, ii_le, ii_eq, ixn_ii, ixo_ii, rem_ii, nb_1, nb_0, nb_bb, bb_0, hI_gv, Int.toNat_of_nonneg, Int.cast_ofNat_Int, ht_sI, ht_sJ, ht_sR, hn_sI, hn_sJ, hn_sR, hR_sI, hR_sJ, kI_v, kV_v, kJ_v, true_and, and_true, forall_eq, tg, ln, rf, ne_eq, not_false_eq_true, forall_const, not_true_eq_false, false_implies, W_X8_jointsOf, st_t s0]
  refine c_joins ok s v l0 l1 (fun h1 f1 a1 r1 => ?_)
  have t0 := st_fr s0 f1
  have hq := q h1 f1 a1 r1
  unfold jts at hq
  simp (disch := first | omega | decide | assumption | exact st_ne s0 (by decide) (by decide) (by decide) | exact dyn_ne (by assumption) (by decide) | fail) only [Int.reduceAdd, Int.reduceSub, Int.reduceNeg, ii_add, ii_sub, ii_mul, ii_lt, ii_le, ii_eq, ixn_ii, ixo_ii, rem_ii, nb_1, nb_0, nb_bb, bb_0, hI_gv, Int.toNat_of_nonneg, Int.cast_ofNat_Int, ht_sI, ht_sJ, ht_sR, hn_sI, hn_sJ, hn_sR, hR_sI, hR_sJ, kI_v, kV_v, kJ_v, true_and, and_true, forall_eq, tg, ln, rf, ne_eq, not_false_eq_true, forall_const, not_true_eq_false, false_implies, st_t t0]
  refine c_isOver ok t0 a1 (jn_aok v) ?_
  simp (disch := first | omega | decide | assumption | exact st_ne s0 (by decide) (by decide) (by decide) | exact dyn_ne (by assumption) (by decide) | fail) only [Int.reduceAdd, Int.reduceSub, Int.reduceNeg, ii_add, ii_sub, ii_mul, ii_lt, ii_le, ii_eq, ixn_ii, ixo_ii, rem_ii, nb_1, nb_0, nb_bb, bb_0, hI_gv, Int.toNat_of_nonneg, Int.cast_ofNat_Int, ht_sI, ht_sJ, ht_sR, hn_sI, hn_sJ, hn_sR, hR_sI, hR_sJ, kI_v, kV_v, kJ_v, true_and, and_true, forall_eq, tg, ln, rf, ne_eq, not_false_eq_true, forall_const, not_true_eq_false, false_implies, st_t t0, a1.2.1]
  refine ⟨fun o => ?_, fun o => ?_⟩
  · rw [if_neg (by rw [o]; decide)] at hq; exact hq
  · rw [Bool.not_eq_false] at o
    rw [if_pos o] at hq; exact hq
end JNM
