/-! WALKS THAT ARE TRAILS, BY THE CLASS; JOINED -/
def p18 (i : Nat) : Bool := Nat.beq i 18
theorem p18_lt (j : Nat) (h : p18 j = true) : j < 42 := by
  unfold p18 at h
  rw [Nat.beq_eq] at h
  omega
theorem p18_pC (j : Nat) (h : p18 j = true) : pC j = true := by
  unfold p18 at h
  rw [Nat.beq_eq] at h
  subst h
  rfl
def jas (m : Int → Int) (a : Ac) (w l : Int) : Bool := if w = 0 then decide (jts a = 1) else if w = 1 then decide (1 < jts a) else if w = 2 then decide (jts a = 0) else if w = 3 then decide (jts a = -2) else decide (jts a = 1) && tru m a l
def jdL (m one two : Int → Int) (H L w l : Int) : Int := if el m l + cl m l = 0 then 0 else b2 (jas m (jn m one two H L l) w l)
def jdS (m one two : Int → Int) (H L w : Int) : Int := sm (jdL m one two H L w) 0 (m 5).toNat
section TRK
variable {E : tr_Env} {ad : Nat → Nat} {h h0 : tr_H} {Q : tr_Q} {m one two : Int → Int} {H L : Int} {a : Ac}
theorem acK_18 {h' : tr_H} (s0 : stat ad h) (f : fr ad p18 f0 false h h') (r : acK ad h a) : acK ad h' a := by
  unfold acK at r ⊢
  rw [fr_gv (i := 2) s0 f (by decide) (by decide) rfl p18_lt, fr_gv (i := 14) s0 f (by decide) (by decide) rfl p18_lt, fr_gv (i := 15) s0 f (by decide) (by decide) rfl p18_lt, fr_gv (i := 16) s0 f (by decide) (by decide) rfl p18_lt, fr_gv (i := 17) s0 f (by decide) (by decide) rfl p18_lt]
  exact r
theorem fr_18 {h' : tr_H} (f : fr ad p18 f0 false h h') : fr ad pC f0 false h h' := fr_mono p18_pC (fun _ e => e) (fun e => e) f
theorem k_isTrail_32 (ok : tr_ok E) (s0 : stat ad h) (v : vok m one two H L) (ra : acK ad h a) (f : fok H L a) (g : 0 < a.se) {qq : Nat} {p k : Int} (pk : pst ad h qq m two p) (h1 : 0 ≤ p) (h2 : p < m 106) (k0 : 0 ≤ k) (k1 : k < a.fw) (e6 : fd m p 6 = wln a k) : ∀ (n : Nat) (i : Int), i + n = wln a k → 0 ≤ i → Q (.inl (some (.inl (bb (al (fun i => decide (lk m p i = a.fM (a.fb k + i))) i n))))) h → tr_G E 24 Q 32 [some (.inr (.inr (ad 2))), some (.inl (ii k)), some (.inr (.inr qq)), some (.inl (ii i))] [] h 0 0
  | n, i, hn, i0, q => by
    refine T_X1_isTrail_32 ok ?_
    have vL := v_L v
    obtain ⟨q0, q1, q2, q3, q4, q5, q6, q7⟩ := v_p v h1 h2
    obtain ⟨y0, ka, kb, kc, kd, ke, kf, kg, kh, ⟨ha, hb, hc⟩, ⟨la, lb, lc⟩, kdy⟩ := id pk
    have lnn := f_ln f k0 k1
    have fw := f.1
    obtain ⟨a1, a2, a3⟩ := ra.2.2.2 g
    have yl : gv h (ad 15) k = wln a k := (a2 k k0 k1).2.1
    simp (disch := first | omega | decide | assumption | exact st_ne s0 (by decide) (by decide) (by decide) | exact dyn_ne (by assumption) (by decide) | fail) only [Int.reduceAdd, Int.reduceSub, Int.reduceNeg, ii_add, ii_sub, ii_mul, ii_lt, ii_le, ii_eq, ixn_ii, ixo_ii, rem_ii, nb_1, nb_0, nb_bb, bb_0, hI_gv, Int.toNat_of_nonneg, Int.cast_ofNat_Int, ht_sI, ht_sJ, ht_sR, hn_sI, hn_sJ, hn_sR, hR_sI, hR_sJ, kI_v, kV_v, kJ_v, true_and, and_true, forall_eq, tg, ln, rf, ne_eq, not_false_eq_true, forall_const, not_true_eq_false, false_implies, W_X1_isTrail_32, st_t s0, st_n s0, st_r s0, yl]
    refine ⟨by omega, fun g2 => ?_, fun g2 => ?_⟩
    · obtain ⟨n, rfl⟩ : ∃ n', n = n' + 1 := ⟨n - 1, by omega⟩
      have lq := q7 i i0 (by omega)
      refine k_linkOfWalk ok s0 ra f g k0 k1 i0 g2 ?_
      have el : gv h (hR h qq 7) (i + 1) = lk m p i := by
        rw [lc (i + 1) (by omega) (by omega)]
        unfold lkk
        rw [if_neg (by omega), show i + 1 - 1 = i by omega]
      have hb2 := f.2.2.2.2.1 k (a.fb k + i) (by omega) (by omega) (by omega) (by omega)
      unfold al at q
      simp (disch := first | omega | decide | assumption | exact st_ne s0 (by decide) (by decide) (by decide) | exact dyn_ne (by assumption) (by decide) | fail) only [Int.reduceAdd, Int.reduceSub, Int.reduceNeg, ii_add, ii_sub, ii_mul, ii_lt, ii_le, ii_eq, ixn_ii, ixo_ii, rem_ii, nb_1, nb_0, nb_bb, bb_0, hI_gv, Int.toNat_of_nonneg, Int.cast_ofNat_Int, ht_sI, ht_sJ, ht_sR, hn_sI, hn_sJ, hn_sR, hR_sI, hR_sJ, kI_v, kV_v, kJ_v, true_and, and_true, forall_eq, tg, ln, rf, ne_eq, not_false_eq_true, forall_const, not_true_eq_false, false_implies, y0, la, lb, el]
      refine ⟨by omega, fun g5 => ?_, fun g5 => ?_⟩
      · rw [decide_eq_true g5.symm, Bool.true_and] at q
        exact k_isTrail_32 ok s0 v ra f g pk h1 h2 (by omega) k1 e6 n (i + 1) (by omega) (by omega) q
      · rw [decide_eq_false (fun e => g5 e.symm), Bool.false_and] at q
        exact q
    · obtain rfl : n = 0 := by omega
      exact q
theorem k_isTrail (ok : tr_ok E) (s0 : stat ad h) (v : vok m one two H L) (ra : acK ad h a) (f : fok H L a) (g : 0 < a.se) {qq : Nat} {p k : Int} (pk : pst ad h qq m two p) (h1 : 0 ≤ p) (h2 : p < m 106) (k0 : 0 ≤ k) (k1 : k < a.fw) (q : Q (.inl (some (.inl (bb (iw m a p k))))) h) : tr_C E 24 [.inr (.inr (ad 2)), .inl (ii k), .inr (.inr qq)] h Q := by
  refine T_X1_isTrail ok ?_
  have vL := v_L v
  have vH := v_H v
  obtain ⟨q0, q1, q2, q3, q4, q5, q6, q7⟩ := v_p v h1 h2
  obtain ⟨y0, ka, kb, kc, kd, ke, kf, kg, kh, -⟩ := id pk
  have lnn := f_ln f k0 k1
  have fw := f.1
  obtain ⟨a1, a2, a3⟩ := ra.2.2.2 g
  have yh := (a2 k k0 k1).1
  have yl : gv h (ad 15) k = wln a k := (a2 k k0 k1).2.1
  have hh := f.2.2.2.2.2.2 k k0 k1
  have e1 : fd m p 6 + 1 - 1 = fd m p 6 := by omega
  unfold iw at q
  simp (disch := first | omega | decide | assumption | exact st_ne s0 (by decide) (by decide) (by decide) | exact dyn_ne (by assumption) (by decide) | fail) only [Int.reduceAdd, Int.reduceSub, Int.reduceNeg, ii_add, ii_sub, ii_mul, ii_lt, ii_le, ii_eq, ixn_ii, ixo_ii, rem_ii, nb_1, nb_0, nb_bb, bb_0, hI_gv, Int.toNat_of_nonneg, Int.cast_ofNat_Int, ht_sI, ht_sJ, ht_sR, hn_sI, hn_sJ, hn_sR, hR_sI, hR_sJ, kI_v, kV_v, kJ_v, true_and, and_true, forall_eq, tg, ln, rf, ne_eq, not_false_eq_true, forall_const, not_true_eq_false, false_implies, W_X1_isTrail, st_t s0, st_n s0, st_r s0, yh, yl, y0, ka, kg, e1]
  refine ⟨by omega, fun g2 => ⟨by omega, fun g3 => ?_, fun g3 => ?_⟩, fun g2 => ?_⟩
  · rw [decide_eq_true ⟨g2.symm, g3.symm⟩, Bool.true_and] at q
    exact k_isTrail_32 ok s0 v ra f g pk h1 h2 k0 k1 g3.symm (wln a k).toNat 0 (by omega) (by omega) q
  · rw [decide_eq_false (fun e => g3 e.2.symm), Bool.false_and] at q
    exact q
  · rw [decide_eq_false (fun e => g2 e.1.symm), Bool.false_and] at q
    exact q
theorem k_claim_2 (ok : tr_ok E) (s0 : stat ad h) (v : vok m one two H L) (ra : acK ad h a) (f : fok H L a) (g : 0 < a.se) {qq : Nat} {p : Int} (pk : pst ad h qq m two p) (h1 : 0 ≤ p) (h2 : p < m 106) (q1 : ∀ k, 0 ≤ k → k < a.fw → gv h (ad 18) k = 0 → iw m a p k = true → Q (.inl (some (.inl (ii 1)))) (hsI h (ad 18) k.toNat (ii 1))) (q2 : (∀ k, 0 ≤ k → k < a.fw → iw m a p k = true → gv h (ad 18) k ≠ 0) → Q (.inl (some (.inl (ii 0)))) h) : ∀ (n : Nat) (i : Int), i + n = a.fw → 0 ≤ i → (∀ k, 0 ≤ k → k < i → iw m a p k = true → gv h (ad 18) k ≠ 0) → tr_G E 23 Q 2 [some (.inr (.inr (ad 2))), some (.inr (.inr qq)), some (.inl (ii i))] [] h 0 0
  | n, i, hn, i0, hb => by
    refine T_X1_claimWalk_2 ok ?_
    have fw := f.1
    have a1 := (ra.2.2.2 g).1
    have rg := gv_rg h (ad 18) i
    simp (disch := first | omega | decide | assumption | exact st_ne s0 (by decide) (by decide) (by decide) | exact dyn_ne (by assumption) (by decide) | fail) only [Int.reduceAdd, Int.reduceSub, Int.reduceNeg, ii_add, ii_sub, ii_mul, ii_lt, ii_le, ii_eq, ixn_ii, ixo_ii, rem_ii, nb_1, nb_0, nb_bb, bb_0, hI_gv, Int.toNat_of_nonneg, Int.cast_ofNat_Int, ht_sI, ht_sJ, ht_sR, hn_sI, hn_sJ, hn_sR, hR_sI, hR_sJ, kI_v, kV_v, kJ_v, true_and, and_true, forall_eq, tg, ln, rf, ne_eq, not_false_eq_true, forall_const, not_true_eq_false, false_implies, W_X1_claimWalk_2, st_t s0, st_n s0, st_r s0, a1]
    refine ⟨fun g2 => ⟨by omega, fun g3 => ?_, fun g3 => ?_⟩, fun g2 => ?_⟩
    · obtain ⟨n, rfl⟩ : ∃ n', n = n' + 1 := ⟨n - 1, by omega⟩
      refine k_isTrail ok s0 v ra f g pk h1 h2 i0 g2 ?_
      simp (disch := first | omega | decide | assumption | exact st_ne s0 (by decide) (by decide) (by decide) | exact dyn_ne (by assumption) (by decide) | fail) only [Int.reduceAdd, Int.reduceSub, Int.reduceNeg, ii_add, ii_sub, ii_mul, ii_lt, ii_le, ii_eq, ixn_ii, ixo_ii, rem_ii, nb_1, nb_0, nb_bb, bb_0, hI_gv, Int.toNat_of_nonneg, Int.cast_ofNat_Int, ht_sI, ht_sJ, ht_sR, hn_sI, hn_sJ, hn_sR, hR_sI, hR_sJ, kI_v, kV_v, kJ_v, true_and, and_true, forall_eq, tg, ln, rf, ne_eq, not_false_eq_true, forall_const, not_true_eq_false, false_implies, st_t s0, st_n s0, st_r s0]
      refine ⟨fun g4 => ?_, fun g4 => ⟨by omega, ?_⟩⟩
      · refine k_claim_2 ok s0 v ra f g pk h1 h2 q1 q2 n (i + 1) (by omega) (by omega) (fun k k0 k1 e => ?_)
        by_cases ek : k = i
        · rw [ek, g4] at e; cases e
        · exact hb k k0 (by omega) e
      · rw [Bool.not_eq_false] at g4
        exact q1 i i0 g2 g3 g4
    · obtain ⟨n, rfl⟩ : ∃ n', n = n' + 1 := ⟨n - 1, by omega⟩
      refine k_claim_2 ok s0 v ra f g pk h1 h2 q1 q2 n (i + 1) (by omega) (by omega) (fun k k0 k1 e => ?_)
      by_cases ek : k = i
      · rw [ek]; exact g3
      · exact hb k k0 (by omega) e
    · exact q2 (fun k k0 k1 e => hb k k0 (by omega) e)
theorem k_release_2 (ok : tr_ok E) (t0 : stat ad h0) (q : ∀ h', fr ad p18 f0 false h0 h' → (∀ k, 0 ≤ k → k < 40 → gv h' (ad 18) k = 0) → Q (.inl none) h') : ∀ (n : Nat) (i : Int) (h : tr_H), i + n = 40 → 0 ≤ i → fr ad p18 f0 false h0 h → (∀ k, 0 ≤ k → k < i → gv h (ad 18) k = 0) → tr_G E 22 Q 2 [some (.inr (.inr (ad 2))), some (.inl (ii i))] [] h 0 0
  | n, i, h, hn, i0, f, e => by
    refine T_X1_releaseWalks_2 ok ?_
    have s0 := st_fr t0 f
    have e40 : ((40 : Nat) : Int) = 40 := rfl
    simp (disch := first | omega | decide | assumption | exact st_ne s0 (by decide) (by decide) (by decide) | exact dyn_ne (by assumption) (by decide) | fail) only [Int.reduceAdd, Int.reduceSub, Int.reduceNeg, ii_add, ii_sub, ii_mul, ii_lt, ii_le, ii_eq, ixn_ii, ixo_ii, rem_ii, nb_1, nb_0, nb_bb, bb_0, hI_gv, Int.toNat_of_nonneg, Int.cast_ofNat_Int, ht_sI, ht_sJ, ht_sR, hn_sI, hn_sJ, hn_sR, hR_sI, hR_sJ, kI_v, kV_v, kJ_v, true_and, and_true, forall_eq, tg, ln, rf, ne_eq, not_false_eq_true, forall_const, not_true_eq_false, false_implies, W_X1_releaseWalks_2, st_t s0, st_n s0, st_r s0]
    refine ⟨fun g => ⟨by omega, ?_⟩, fun g => ?_⟩
    · obtain ⟨n, rfl⟩ : ∃ n', n = n' + 1 := ⟨n - 1, by omega⟩
      refine k_release_2 ok t0 q n (i + 1) _ (by omega) (by omega) (fr_sI f rfl) (fun k k0 k1 => ?_)
      simp (disch := first | omega | decide | assumption | exact st_ne s0 (by decide) (by decide) (by decide) | exact dyn_ne (by assumption) (by decide) | fail) only [Int.reduceAdd, Int.reduceSub, Int.reduceNeg, ii_add, ii_sub, ii_mul, ii_lt, ii_le, ii_eq, ixn_ii, ixo_ii, rem_ii, nb_1, nb_0, nb_bb, bb_0, hI_gv, Int.toNat_of_nonneg, Int.cast_ofNat_Int, ht_sI, ht_sJ, ht_sR, hn_sI, hn_sJ, hn_sR, hR_sI, hR_sJ, kI_v, kV_v, kJ_v, true_and, and_true, forall_eq, tg, ln, rf, ne_eq, not_false_eq_true, forall_const, not_true_eq_false, false_implies, gv_sIi]
      by_cases ek : k = i
      · rw [ek]; exact ud_eq _ _ _
      · rw [ud_ne ek]; exact e k k0 (by omega)
    · exact q h f (fun k k0 k1 => e k k0 (by omega))
theorem k_trails_9 (ok : tr_ok E) (c0 : kst ad h0 m one two H L) (v : vok m one two H L) (ra0 : acK ad h0 a) (fk : fok H L a) (g : 0 < a.se) {l : Int} (l0 : 0 ≤ l) (l1 : l ≤ 64) : ∀ (n : Nat) (p : Int) (h : tr_H), p + n = m 106 → 0 ≤ p → fr ad p18 f0 false h0 h → (∀ q, 0 ≤ q → q < m 106 → sm (fun k => b2 (decide (gv h (ad 18) k ≠ 0) && iw m a q k)) 0 a.fw.toNat = sm (fun o => b2 (cn m l o && alk m o q)) 0 p.toNat) → (∀ h', fr ad p18 f0 false h0 h' → Q (.inl (some (.inl (bb (al (fun p => !cn m l p || decide (lik m l p < tot m a p)) p n))))) h') → tr_G E 113 Q 9 [some (.inr (.inr (ad 1))), some (.inl (ii l)), some (.inl (ii p)), none, none] [] h 0 0
  | n, p, h, hn, h1, f, inv, q => by
    refine T_X7_walksAreTrails_9 ok ?_
    have c := kst_fr c0 f p18_lt
    have s0 := c.1
    have ra := acK_18 c0.1 f ra0
    obtain ⟨d0, nw, d2, d3, d4, d5⟩ := id c.2
    have vm := v_m v
    have v5 := v_5 v
    have lr := lab_rg (p := p) v
    have fw := fk.1
    simp (disch := first | omega | decide | assumption | exact st_ne s0 (by decide) (by decide) (by decide) | exact dyn_ne (by assumption) (by decide) | fail) only [Int.reduceAdd, Int.reduceSub, Int.reduceNeg, ii_add, ii_sub, ii_mul, ii_lt, ii_le, ii_eq, ixn_ii, ixo_ii, rem_ii, nb_1, nb_0, nb_bb, bb_0, hI_gv, Int.toNat_of_nonneg, Int.cast_ofNat_Int, ht_sI, ht_sJ, ht_sR, hn_sI, hn_sJ, hn_sR, hR_sI, hR_sJ, kI_v, kV_v, kJ_v, true_and, and_true, forall_eq, tg, ln, rf, ne_eq, not_false_eq_true, forall_const, not_true_eq_false, false_implies, W_X7_walksAreTrails_9, st_t s0, st_r s0, d0, d2, d3, d4, nw.1]
    refine ⟨fun h2 => ⟨by omega, ?_⟩, fun g2 => ?_⟩
    · obtain ⟨n, rfl⟩ : ∃ n', n = n' + 1 := ⟨n - 1, by omega⟩
      have pk := d5 p h1 h2
      obtain ⟨q0, q1, q2, q3, q4, q5, q6, q7⟩ := v_p v h1 h2
      have ep : (p + 1).toNat = p.toNat + 1 := by omega
      have skip : cn m l p = false → ∀ q, 0 ≤ q → q < m 106 → sm (fun k => b2 (decide (gv h (ad 18) k ≠ 0) && iw m a q k)) 0 a.fw.toNat = sm (fun o => b2 (cn m l o && alk m o q)) 0 (p + 1).toNat := by
        intro e q q0 q1
        rw [ep, sm_snoc, Int.zero_add, Int.toNat_of_nonneg h1, e, Bool.false_and, inv q q0 q1]
        exact (Int.add_zero _).symm
      unfold al at q
      refine k_labelOf ok nw pk v ?_
      simp (disch := first | omega | decide | assumption | exact st_ne s0 (by decide) (by decide) (by decide) | exact dyn_ne (by assumption) (by decide) | fail) only [Int.reduceAdd, Int.reduceSub, Int.reduceNeg, ii_add, ii_sub, ii_mul, ii_lt, ii_le, ii_eq, ixn_ii, ixo_ii, rem_ii, nb_1, nb_0, nb_bb, bb_0, hI_gv, Int.toNat_of_nonneg, Int.cast_ofNat_Int, ht_sI, ht_sJ, ht_sR, hn_sI, hn_sJ, hn_sR, hR_sI, hR_sJ, kI_v, kV_v, kJ_v, true_and, and_true, forall_eq, tg, ln, rf, ne_eq, not_false_eq_true, forall_const, not_true_eq_false, false_implies, Int.reduceEq, Int.reduceLT, Int.reduceLE, implies_true, and_self, reduceCtorEq, false_and, st_t s0, st_r s0, d0, nw.1]
      refine ⟨fun g3 => ?_, fun g3 => ?_⟩
      · refine k_chooses ok nw pk v h1 h2 (by omega) (by omega) ?_
        simp (disch := first | omega | decide | assumption | exact st_ne s0 (by decide) (by decide) (by decide) | exact dyn_ne (by assumption) (by decide) | fail) only [Int.reduceAdd, Int.reduceSub, Int.reduceNeg, ii_add, ii_sub, ii_mul, ii_lt, ii_le, ii_eq, ixn_ii, ixo_ii, rem_ii, nb_1, nb_0, nb_bb, bb_0, hI_gv, Int.toNat_of_nonneg, Int.cast_ofNat_Int, ht_sI, ht_sJ, ht_sR, hn_sI, hn_sJ, hn_sR, hR_sI, hR_sJ, kI_v, kV_v, kJ_v, true_and, and_true, forall_eq, tg, ln, rf, ne_eq, not_false_eq_true, forall_const, not_true_eq_false, false_implies, Int.reduceEq, Int.reduceLT, Int.reduceLE, implies_true, and_self, reduceCtorEq, false_and, st_t s0, st_r s0]
        refine ⟨fun g4 => ?_, fun g4 => ?_⟩
        · have e : cn m l p = false := by unfold cn; rw [g4, Bool.and_false]
          rw [e, Bool.not_false, Bool.true_or, Bool.true_and] at q
          exact k_trails_9 ok c0 v ra0 fk g l0 l1 n (p + 1) h (by omega) (by omega) f (skip e) q
        · rw [Bool.not_eq_false] at g4
          have e : cn m l p = true := by unfold cn; rw [g4, decide_eq_true g3]; rfl
          rw [e, Bool.not_true, Bool.false_or] at q
          have iv := inv p h1 h2
          have mo := sm_mono (f := fun k => b2 (decide (gv h (ad 18) k ≠ 0) && iw m a p k)) (g := fun k => b2 (iw m a p k)) a.fw.toNat 0 (fun j _ _ => by
            show b2 (decide (gv h (ad 18) j ≠ 0) && iw m a p j) ≤ b2 (iw m a p j)
            cases decide (gv h (ad 18) j ≠ 0)
            · exact (b2_rg _).1
            · exact Int.le_refl _)
          refine T_X1_claimWalk ok (k_claim_2 ok s0 v ra fk g pk h1 h2 (fun k k0 k1 k2 k3 => ?_) (fun k3 => ?_) a.fw.toNat 0 (by omega) (by omega) (fun k k0 k1 => by omega))
          · have lt : lik m l p < tot m a p := by
              have ne : ¬ sm (fun k => b2 (decide (gv h (ad 18) k ≠ 0) && iw m a p k)) 0 a.fw.toNat = sm (fun k => b2 (iw m a p k)) 0 a.fw.toNat := by
                intro e5
                have := mo.2 e5 k k0 (by omega)
                have this : b2 (decide (gv h (ad 18) k ≠ 0) && iw m a p k) = b2 (iw m a p k) := this
                rw [k3, decide_eq_false (fun e => e k2)] at this
                exact absurd this (by decide)
              have := mo.1
              unfold lik tot
              rw [← iv]
              omega
            rw [decide_eq_true lt, Bool.true_and] at q
            simp (disch := first | omega | decide | assumption | exact st_ne s0 (by decide) (by decide) (by decide) | exact dyn_ne (by assumption) (by decide) | fail) only [Int.reduceAdd, Int.reduceSub, Int.reduceNeg, ii_add, ii_sub, ii_mul, ii_lt, ii_le, ii_eq, ixn_ii, ixo_ii, rem_ii, nb_1, nb_0, nb_bb, bb_0, hI_gv, Int.toNat_of_nonneg, Int.cast_ofNat_Int, ht_sI, ht_sJ, ht_sR, hn_sI, hn_sJ, hn_sR, hR_sI, hR_sJ, kI_v, kV_v, kJ_v, true_and, and_true, forall_eq, tg, ln, rf, ne_eq, not_false_eq_true, forall_const, not_true_eq_false, false_implies, Int.reduceEq, Int.reduceLT, Int.reduceLE, implies_true, and_self, reduceCtorEq, false_and,]
            refine k_trails_9 ok c0 v ra0 fk g l0 l1 n (p + 1) _ (by omega) (by omega) (fr_sI f rfl) (fun y y0 y1 => ?_) q
            rw [ep, sm_snoc, Int.zero_add, Int.toNat_of_nonneg h1, e, Bool.true_and, ← inv y y0 y1, ← iw_alk k3]
            rw [gv_sIi (by decide) (by decide), Int.toNat_of_nonneg k0]
            have ec : sm (fun j => b2 (decide (ud (gv h (ad 18)) k 1 j ≠ 0) && iw m a y j)) 0 a.fw.toNat = sm (ud (fun j => b2 (decide (gv h (ad 18) j ≠ 0) && iw m a y j)) k (b2 (iw m a y k))) 0 a.fw.toNat := by
              refine sm_congr _ _ (fun j _ _ => ?_)
              by_cases ej : j = k
              · rw [ej, ud_eq, ud_eq]; rfl
              · rw [ud_ne ej, ud_ne ej]
            rw [ec, sm_ud _ _ k0 (by omega)]
            have z : b2 (decide (gv h (ad 18) k ≠ 0) && iw m a y k) = 0 := by
              rw [decide_eq_false (fun e => e k2)]; rfl
            show _ - b2 (decide (gv h (ad 18) k ≠ 0) && iw m a y k) + _ = _
            rw [z, Int.sub_zero]
          · have nl : ¬ lik m l p < tot m a p := by
              have eq : sm (fun k => b2 (decide (gv h (ad 18) k ≠ 0) && iw m a p k)) 0 a.fw.toNat = sm (fun k => b2 (iw m a p k)) 0 a.fw.toNat := sm_congr _ _ (fun j j0 j1 => by
                cases hi : iw m a p j
                · rw [Bool.and_false]
                · rw [decide_eq_true (k3 j j0 (by omega) hi)]; rfl)
              unfold lik tot
              rw [← iv, eq]
              omega
            rw [decide_eq_false nl, Bool.false_and] at q
            simp (disch := first | omega | decide | assumption | exact st_ne s0 (by decide) (by decide) (by decide) | exact dyn_ne (by assumption) (by decide) | fail) only [Int.reduceAdd, Int.reduceSub, Int.reduceNeg, ii_add, ii_sub, ii_mul, ii_lt, ii_le, ii_eq, ixn_ii, ixo_ii, rem_ii, nb_1, nb_0, nb_bb, bb_0, hI_gv, Int.toNat_of_nonneg, Int.cast_ofNat_Int, ht_sI, ht_sJ, ht_sR, hn_sI, hn_sJ, hn_sR, hR_sI, hR_sJ, kI_v, kV_v, kJ_v, true_and, and_true, forall_eq, tg, ln, rf, ne_eq, not_false_eq_true, forall_const, not_true_eq_false, false_implies, Int.reduceEq, Int.reduceLT, Int.reduceLE, implies_true, and_self, reduceCtorEq, false_and,]
            exact q h f
      · have e : cn m l p = false := by unfold cn; rw [decide_eq_false g3, Bool.false_and]
        rw [e, Bool.not_false, Bool.true_or, Bool.true_and] at q
        exact k_trails_9 ok c0 v ra0 fk g l0 l1 n (p + 1) h (by omega) (by omega) f (skip e) q
    · obtain rfl : n = 0 := by omega
      exact q h f
theorem k_trails (ok : tr_ok E) (c : kst ad h m one two H L) (v : vok m one two H L) (ra : acK ad h a) (fk : fok H L a) (g : 0 < a.se) {l : Int} (l0 : 0 ≤ l) (l1 : l ≤ 64) (q : ∀ h', fr ad p18 f0 false h h' → Q (.inl (some (.inl (bb (tru m a l))))) h') : tr_C E 113 [.inr (.inr (ad 1)), .inl (ii l)] h Q := by
  refine T_X7_walksAreTrails ok ?_
  have s0 := c.1
  have vm := v_m v
  have fw := fk.1
  simp (disch := first | omega | decide | assumption | exact st_ne s0 (by decide) (by decide) (by decide) | exact dyn_ne (by assumption) (by decide) | fail) only [Int.reduceAdd, Int.reduceSub, Int.reduceNeg, ii_add, ii_sub, ii_mul, ii_lt, ii_le, ii_eq, ixn_ii, ixo_ii, rem_ii, nb_1, nb_0, nb_bb, bb_0, hI_gv, Int.toNat_of_nonneg, Int.cast_ofNat_Int, ht_sI, ht_sJ, ht_sR, hn_sI, hn_sJ, hn_sR, hR_sI, hR_sJ, kI_v, kV_v, kJ_v, true_and, and_true, forall_eq, tg, ln, rf, ne_eq, not_false_eq_true, forall_const, not_true_eq_false, false_implies, W_X7_walksAreTrails, st_t s0, st_r s0]
  refine T_X1_releaseWalks ok (k_release_2 ok s0 (fun h1 f1 e1 => ?_) 40 0 h (by omega) (by omega) fr_rfl (fun k k0 k1 => by omega))
  simp (disch := first | omega | decide | assumption | exact st_ne s0 (by decide) (by decide) (by decide) | exact dyn_ne (by assumption) (by decide) | fail) only [Int.reduceAdd, Int.reduceSub, Int.reduceNeg, ii_add, ii_sub, ii_mul, ii_lt, ii_le, ii_eq, ixn_ii, ixo_ii, rem_ii, nb_1, nb_0, nb_bb, bb_0, hI_gv, Int.toNat_of_nonneg, Int.cast_ofNat_Int, ht_sI, ht_sJ, ht_sR, hn_sI, hn_sJ, hn_sR, hR_sI, hR_sJ, kI_v, kV_v, kJ_v, true_and, and_true, forall_eq, tg, ln, rf, ne_eq, not_false_eq_true, forall_const, not_true_eq_false, false_implies]
  refine k_trails_9 ok c v ra fk g l0 l1 (m 106).toNat 0 h1 (by omega) (by omega) f1 (fun y y0 y1 => ?_) q
  rw [show (0 : Int).toNat = 0 from rfl, sm_0]
  rw [sm_congr (g := fun _ => 0) _ _ (fun j j0 j1 => ?_)]
  · exact sm_zero _ _ (fun _ => rfl)
  · rw [decide_eq_false (fun e => e (e1 j j0 (by omega)))]; rfl
theorem k_isJoinedAs (ok : tr_ok E) (c : kst ad h m one two H L) (v : vok m one two H L) {l w : Int} (kj : kjs ad h (jn m one two H L l)) (l0 : 0 ≤ l) (l1 : l ≤ 64) (w0 : 0 ≤ w) (w1 : w ≤ 4) (q : ∀ h', fr ad p18 f0 false h h' → Q (.inl (some (.inl (bb (jas m (jn m one two H L l) w l))))) h') : tr_C E 112 [.inr (.inr (ad 1)), .inl (ii w), .inl (ii l)] h Q := by
  refine T_X7_isJoinedAs ok ?_
  have s0 := c.1
  have e9 := kj.1
  have ka := jn_aok (l := l) v
  have jr := jts_rg (l := l) v
  have hq := q h fr_rfl
  generalize jn m one two H L l = a at *
  unfold jas at q hq
  simp (disch := first | omega | decide | assumption | exact st_ne s0 (by decide) (by decide) (by decide) | exact dyn_ne (by assumption) (by decide) | fail) only [Int.reduceAdd, Int.reduceSub, Int.reduceNeg, ii_add, ii_sub, ii_mul, ii_lt, ii_le, ii_eq, ixn_ii, ixo_ii, rem_ii, nb_1, nb_0, nb_bb, bb_0, hI_gv, Int.toNat_of_nonneg, Int.cast_ofNat_Int, ht_sI, ht_sJ, ht_sR, hn_sI, hn_sJ, hn_sR, hR_sI, hR_sJ, kI_v, kV_v, kJ_v, true_and, and_true, forall_eq, tg, ln, rf, ne_eq, not_false_eq_true, forall_const, not_true_eq_false, false_implies, W_X7_isJoinedAs, st_t s0, st_r s0, e9]
  refine ⟨fun e0 => ⟨fun g => ?_, fun g => ?_⟩, fun e0 => ⟨fun e1 => ⟨fun g => ?_, fun g => ?_⟩, fun e1 => ⟨fun e2 => ⟨fun g => ?_, fun g => ?_⟩, fun e2 => ⟨fun e3 => ⟨fun g => ?_, fun g => ?_⟩, fun e3 => ⟨fun g => ?_, fun g => ?_⟩⟩⟩⟩⟩
  · rw [if_pos e0, decide_eq_true g] at hq; exact hq
  · rw [if_pos e0, decide_eq_false g] at hq; exact hq
  · rw [if_neg e0, if_pos e1, decide_eq_false (by omega)] at hq; exact hq
  · rw [if_neg e0, if_pos e1, decide_eq_true (by omega)] at hq; exact hq
  · rw [if_neg e0, if_neg e1, if_pos e2, decide_eq_true g] at hq; exact hq
  · rw [if_neg e0, if_neg e1, if_pos e2, decide_eq_false g] at hq; exact hq
  · rw [if_neg e0, if_neg e1, if_neg e2, if_pos e3, decide_eq_true g] at hq; exact hq
  · rw [if_neg e0, if_neg e1, if_neg e2, if_pos e3, decide_eq_false g] at hq; exact hq
  · obtain ⟨o, se, ej, fk⟩ := jts_p ka (by omega)
    refine k_trails ok c v (kj.2 o) fk se l0 l1 (fun h' f' => ?_)
    have hq := q h' f'
    rw [if_neg e0, if_neg e1, if_neg e2, if_neg e3, decide_eq_true g, Bool.true_and] at hq
    simp (disch := first | omega | decide | assumption | exact st_ne s0 (by decide) (by decide) (by decide) | exact dyn_ne (by assumption) (by decide) | fail) only [Int.reduceAdd, Int.reduceSub, Int.reduceNeg, ii_add, ii_sub, ii_mul, ii_lt, ii_le, ii_eq, ixn_ii, ixo_ii, rem_ii, nb_1, nb_0, nb_bb, bb_0, hI_gv, Int.toNat_of_nonneg, Int.cast_ofNat_Int, ht_sI, ht_sJ, ht_sR, hn_sI, hn_sJ, hn_sR, hR_sI, hR_sJ, kI_v, kV_v, kJ_v, true_and, and_true, forall_eq, tg, ln, rf, ne_eq, not_false_eq_true, forall_const, not_true_eq_false, false_implies]
    refine ⟨fun g5 => ?_, fun g5 => ?_⟩
    · rw [g5] at hq; exact hq
    · rw [Bool.not_eq_false] at g5
      rw [g5] at hq; exact hq
  · rw [if_neg e0, if_neg e1, if_neg e2, if_neg e3, decide_eq_false g, Bool.false_and] at hq; exact hq
theorem k_joined_22 (ok : tr_ok E) (c0 : kst ad h0 m one two H L) (v : vok m one two H L) {w : Int} (w0 : 0 ≤ w) (w1 : w ≤ 4) : ∀ (n : Nat) (l x : Int) (h : tr_H), l + n = m 5 → 0 ≤ l → 0 ≤ x → x ≤ l → fr ad pC f0 false h0 h → (∀ h', fr ad pC f0 false h0 h' → Q (.inl (some (.inl (ii (x + sm (jdL m one two H L w) l n))))) h') → tr_G E 92 Q 22 [some (.inr (.inr (ad 1))), some (.inl (ii w)), some (.inl (ii x)), some (.inl (ii l))] [] h 0 0
  | n, l, x, h, hn, l0, x0, x1, f, q => by
    refine T_X7_joined_22 ok ?_
    have c := kst_fr c0 f pC_lt
    have s0 := c.1
    obtain ⟨d0, nw, d2, d3, d4, d5⟩ := id c.2
    obtain ⟨n0, n1, n2, -, -, -, -, ⟨ga, gb, g0, g1, g2, g3, g4⟩, nd⟩ := id nw
    obtain ⟨vH, vL, vl, v0, v1, v2, v3, v4, v5, vr, vm, vp⟩ := id v
    have he := el_rg (l := l) v
    have hc := cl_rg (l := l) v
    simp (disch := first | omega | decide | assumption | exact st_ne s0 (by decide) (by decide) (by decide) | exact dyn_ne (by assumption) (by decide) | fail) only [Int.reduceAdd, Int.reduceSub, Int.reduceNeg, ii_add, ii_sub, ii_mul, ii_lt, ii_le, ii_eq, ixn_ii, ixo_ii, rem_ii, nb_1, nb_0, nb_bb, bb_0, hI_gv, Int.toNat_of_nonneg, Int.cast_ofNat_Int, ht_sI, ht_sJ, ht_sR, hn_sI, hn_sJ, hn_sR, hR_sI, hR_sJ, kI_v, kV_v, kJ_v, true_and, and_true, forall_eq, tg, ln, rf, ne_eq, not_false_eq_true, forall_const, not_true_eq_false, false_implies, W_X7_joined_22, st_t s0, st_r s0, d0, n0, ga, gb, g4]
    refine ⟨by omega, fun g => ?_, fun g => ?_⟩
    · obtain ⟨n, rfl⟩ : ∃ n', n = n' + 1 := ⟨n - 1, by omega⟩
      have es : ∀ x, x + sm (jdL m one two H L w) l (n + 1) = x + jdL m one two H L w l + sm (jdL m one two H L w) (l + 1) n := fun x => by
        rw [sm_s, ← Int.add_assoc]
      rw [es] at q
      unfold jdL at q
      refine k_gatherJ ok s0 c.2 v l0 (by omega) (fun h1 f1 gs => ?_)
      have c1 := kst_fr c f1 pC_lt
      have s1 := c1.1
      obtain ⟨b0, nw1, -⟩ := id c1.2
      simp (disch := first | omega | decide | assumption | exact st_ne s0 (by decide) (by decide) (by decide) | exact dyn_ne (by assumption) (by decide) | fail) only [Int.reduceAdd, Int.reduceSub, Int.reduceNeg, ii_add, ii_sub, ii_mul, ii_lt, ii_le, ii_eq, ixn_ii, ixo_ii, rem_ii, nb_1, nb_0, nb_bb, bb_0, hI_gv, Int.toNat_of_nonneg, Int.cast_ofNat_Int, ht_sI, ht_sJ, ht_sR, hn_sI, hn_sJ, hn_sR, hR_sI, hR_sJ, kI_v, kV_v, kJ_v, true_and, and_true, forall_eq, tg, ln, rf, ne_eq, not_false_eq_true, forall_const, not_true_eq_false, false_implies, st_t s1, st_r s1]
      refine k_hasReports ok s1 gs (by omega) (by omega) (by omega) (by omega) ?_
      simp (disch := first | omega | decide | assumption | exact st_ne s0 (by decide) (by decide) (by decide) | exact dyn_ne (by assumption) (by decide) | fail) only [Int.reduceAdd, Int.reduceSub, Int.reduceNeg, ii_add, ii_sub, ii_mul, ii_lt, ii_le, ii_eq, ixn_ii, ixo_ii, rem_ii, nb_1, nb_0, nb_bb, bb_0, hI_gv, Int.toNat_of_nonneg, Int.cast_ofNat_Int, ht_sI, ht_sJ, ht_sR, hn_sI, hn_sJ, hn_sR, hR_sI, hR_sJ, kI_v, kV_v, kJ_v, true_and, and_true, forall_eq, tg, ln, rf, ne_eq, not_false_eq_true, forall_const, not_true_eq_false, false_implies, st_t s1, st_r s1, b0]
      refine ⟨fun g5 => ?_, fun g5 => ?_⟩
      · rw [decide_eq_false_iff_not, Decidable.not_not] at g5
        refine k_joined_22 ok c0 v w0 w1 n (l + 1) x h1 (by omega) (by omega) (by omega) (by omega) (fr_tr f f1) (fun h' f' => ?_)
        have := q h' f'
        rw [if_pos g5, Int.add_zero] at this; exact this
      · rw [Bool.not_eq_false, decide_eq_true_eq] at g5
        rw [if_neg g5] at q
        refine k_join ok s1 nw1 v gs (fun h2 f2 kj => ?_)
        have c2 := kst_fr c1 f2 pC_lt
        have s2 := c2.1
        simp (disch := first | omega | decide | assumption | exact st_ne s0 (by decide) (by decide) (by decide) | exact dyn_ne (by assumption) (by decide) | fail) only [Int.reduceAdd, Int.reduceSub, Int.reduceNeg, ii_add, ii_sub, ii_mul, ii_lt, ii_le, ii_eq, ixn_ii, ixo_ii, rem_ii, nb_1, nb_0, nb_bb, bb_0, hI_gv, Int.toNat_of_nonneg, Int.cast_ofNat_Int, ht_sI, ht_sJ, ht_sR, hn_sI, hn_sJ, hn_sR, hR_sI, hR_sJ, kI_v, kV_v, kJ_v, true_and, and_true, forall_eq, tg, ln, rf, ne_eq, not_false_eq_true, forall_const, not_true_eq_false, false_implies, st_t s2]
        refine k_isJoinedAs ok c2 v kj l0 (by omega) w0 w1 (fun h3 f3 => ?_)
        simp (disch := first | omega | decide | assumption | exact st_ne s0 (by decide) (by decide) (by decide) | exact dyn_ne (by assumption) (by decide) | fail) only [Int.reduceAdd, Int.reduceSub, Int.reduceNeg, ii_add, ii_sub, ii_mul, ii_lt, ii_le, ii_eq, ixn_ii, ixo_ii, rem_ii, nb_1, nb_0, nb_bb, bb_0, hI_gv, Int.toNat_of_nonneg, Int.cast_ofNat_Int, ht_sI, ht_sJ, ht_sR, hn_sI, hn_sJ, hn_sR, hR_sI, hR_sJ, kI_v, kV_v, kJ_v, true_and, and_true, forall_eq, tg, ln, rf, ne_eq, not_false_eq_true, forall_const, not_true_eq_false, false_implies]
        refine ⟨fun g6 => ?_, fun g6 => ?_⟩
        · rw [g6] at q
          exact k_joined_22 ok c0 v w0 w1 n (l + 1) _ h3 (by omega) (by omega) (by omega) (by omega) (fr_tr f (fr_tr f1 (fr_tr f2 (fr_18 f3)))) q
        · rw [Bool.not_eq_false] at g6
          rw [g6] at q
          exact k_joined_22 ok c0 v w0 w1 n (l + 1) _ h3 (by omega) (by omega) (by omega) (by omega) (fr_tr f (fr_tr f1 (fr_tr f2 (fr_18 f3)))) q
    · obtain rfl : n = 0 := by omega
      have := q h f
      rw [sm_0, Int.add_zero] at this; exact this
theorem K_joined (ok : tr_ok E) (c : kst ad h m one two H L) (v : vok m one two H L) {w : Int} (h3 : -2147483648 ≤ w) (h4 : w ≤ 2147483647) (q : 0 ≤ w ∧ w ≤ 4 → ∀ h', fr ad pC f0 false h h' → Q (.inl (some (.inl (ii (jdS m one two H L w))))) h') (r : ¬ (0 ≤ w ∧ w ≤ 4) → Q (.inr 1) (rfz ad h 1)) : tr_C E 92 [.inr (.inr (ad 1)), .inl (ii w)] h Q := by
  refine T_X7_joined ok ?_
  have s0 := c.1
  have v5 := v_5 v
  simp (disch := first | omega | decide | assumption | exact st_ne s0 (by decide) (by decide) (by decide) | exact dyn_ne (by assumption) (by decide) | fail) only [Int.reduceAdd, Int.reduceSub, Int.reduceNeg, ii_add, ii_sub, ii_mul, ii_lt, ii_le, ii_eq, ixn_ii, ixo_ii, rem_ii, nb_1, nb_0, nb_bb, bb_0, hI_gv, Int.toNat_of_nonneg, Int.cast_ofNat_Int, ht_sI, ht_sJ, ht_sR, hn_sI, hn_sJ, hn_sR, hR_sI, hR_sJ, kI_v, kV_v, kJ_v, true_and, and_true, forall_eq, tg, ln, rf, ne_eq, not_false_eq_true, forall_const, not_true_eq_false, false_implies, W_X7_joined, st_t s0]
  refine ⟨fun g => k_req0 ok s0 (r (by omega)), fun g => ⟨fun g2 => k_req1 ok ?_, fun g2 => k_req0 ok s0 (r (by omega))⟩⟩
  simp (disch := first | omega | decide | assumption | exact st_ne s0 (by decide) (by decide) (by decide) | exact dyn_ne (by assumption) (by decide) | fail) only [Int.reduceAdd, Int.reduceSub, Int.reduceNeg, ii_add, ii_sub, ii_mul, ii_lt, ii_le, ii_eq, ixn_ii, ixo_ii, rem_ii, nb_1, nb_0, nb_bb, bb_0, hI_gv, Int.toNat_of_nonneg, Int.cast_ofNat_Int, ht_sI, ht_sJ, ht_sR, hn_sI, hn_sJ, hn_sR, hR_sI, hR_sJ, kI_v, kV_v, kJ_v, true_and, and_true, forall_eq, tg, ln, rf, ne_eq, not_false_eq_true, forall_const, not_true_eq_false, false_implies]
  refine k_joined_22 ok c v (by omega) g2 (m 5).toNat 0 0 h (by omega) (by omega) (by omega) (by omega) fr_rfl (fun h' f' => ?_)
  rw [Int.zero_add]; exact q (by omega) h' f'
theorem c_joined_26 (ok : tr_ok E) (s : mst ad h0 m one two H L) (v : vok m one two H L) {w : Int} (w0 : 0 ≤ w) (w1 : w ≤ 4) : ∀ (n : Nat) (l x : Int) (h : tr_H), l + n = m 5 → 0 ≤ l → 0 ≤ x → x ≤ l → fr ad pJ fJ false h0 h → (∀ h', fr ad pJ fJ false h0 h' → Q (.inl (some (.inl (ii (x + sm (jdL m one two H L w) l n))))) h') → tr_G E 190 Q 26 [some (.inr (.inr (ad 23))), some (.inl (ii w)), some (.inl (ii x)), some (.inl (ii l)), none, none] [] h 0 0
  | n, l, x, h, hn, l0, x0, x1, f, q => by
    refine T_X8_joined_26 ok ?_
    have s1 := mst_j s f
    have s0 := s1.1
    have em := s1.2.1
    obtain ⟨vH, vL, vl, v0, v1, v2, v3, v4, v5, vr, vm, vp⟩ := id v
    have he := el_rg (l := l) v
    have hc := cl_rg (l := l) v
    have hr := rp_ec m l
    simp (disch := first | omega | decide | assumption | exact st_ne s0 (by decide) (by decide) (by decide) | exact dyn_ne (by assumption) (by decide) | fail) only [Int.reduceAdd, Int.reduceSub, Int.reduceNeg, ii_add, ii_sub, ii_mul, ii_lt, ii_le, ii_eq, ixn_ii, ixo_ii, rem_ii, nb_1, nb_0, nb_bb, bb_0, hI_gv, Int.toNat_of_nonneg, Int.cast_ofNat_Int, ht_sI, ht_sJ, ht_sR, hn_sI, hn_sJ, hn_sR, hR_sI, hR_sJ, kI_v, kV_v, kJ_v, true_and, and_true, forall_eq, tg, ln, rf, ne_eq, not_false_eq_true, forall_const, not_true_eq_false, false_implies, W_X8_joined_26, st_t s0, st_n s0, st_r s0, em]
    refine ⟨by omega, fun g => ?_, fun g => ?_⟩
    · obtain ⟨n, rfl⟩ : ∃ n', n = n' + 1 := ⟨n - 1, by omega⟩
      have es : ∀ x, x + sm (jdL m one two H L w) l (n + 1) = x + jdL m one two H L w l + sm (jdL m one two H L w) (l + 1) n := fun x => by
        rw [sm_s, ← Int.add_assoc]
      rw [es] at q
      unfold jdL at q
      refine c_jointsOf ok s1 v l0 (by omega) (fun h1 f1 ra r25 => ?_)
      have t1 := mst_j s1 f1
      have t0 := t1.1
      have ka := jn_aok (l := l) v
      have jr := jts_rg (l := l) v
      have jf := jn_fw (l := l) v
      rw [hr] at r25
      have f2 := fr_tr f f1
      have no : jas m (jn m one two H L l) w l = false → ¬ el m l + cl m l = 0 → tr_G E 190 Q 26 [some (.inr (.inr (ad 23))), some (.inl (ii w)), some (.inl (ii (x + 0))), some (.inl (ii (l + 1))), none, none] [] h1 0 0 := by
        intro e e2
        rw [if_neg e2, e] at q
        exact c_joined_26 ok s v w0 w1 n (l + 1) _ h1 (by omega) (by omega) (by omega) (by omega) f2 q
      have yes : jas m (jn m one two H L l) w l = true → ¬ el m l + cl m l = 0 → tr_G E 190 Q 26 [some (.inr (.inr (ad 23))), some (.inl (ii w)), some (.inl (ii (x + 1))), some (.inl (ii (l + 1))), none, none] [] h1 0 0 := by
        intro e e2
        rw [if_neg e2, e] at q
        exact c_joined_26 ok s v w0 w1 n (l + 1) _ h1 (by omega) (by omega) (by omega) (by omega) f2 q
      generalize jn m one two H L l = a at *
      simp (disch := first | omega | decide | assumption | exact st_ne s0 (by decide) (by decide) (by decide) | exact dyn_ne (by assumption) (by decide) | fail) only [Int.reduceAdd, Int.reduceSub, Int.reduceNeg, ii_add, ii_sub, ii_mul, ii_lt, ii_le, ii_eq, ixn_ii, ixo_ii, rem_ii, nb_1, nb_0, nb_bb, bb_0, hI_gv, Int.toNat_of_nonneg, Int.cast_ofNat_Int, ht_sI, ht_sJ, ht_sR, hn_sI, hn_sJ, hn_sR, hR_sI, hR_sJ, kI_v, kV_v, kJ_v, true_and, and_true, forall_eq, tg, ln, rf, ne_eq, not_false_eq_true, forall_const, not_true_eq_false, false_implies, Int.reduceEq, Int.reduceLT, Int.reduceLE, implies_true, and_self, reduceCtorEq, false_and, st_t t0, r25]
      refine ⟨fun g5 => ?_, fun g5 => ⟨fun e0 => ⟨fun g6 => yes ?_ g5, fun g6 => no ?_ g5⟩, fun e0 => ⟨fun e1 => ⟨fun g6 => no ?_ g5, fun g6 => yes ?_ g5⟩, fun e1 => ⟨fun e2 => ⟨fun g6 => yes ?_ g5, fun g6 => no ?_ g5⟩, fun e2 => ⟨fun e3 => ⟨fun g6 => yes ?_ g5, fun g6 => no ?_ g5⟩, fun e3 => ⟨fun g6 => ?_, fun g6 => no ?_ g5⟩⟩⟩⟩⟩⟩
      · refine c_joined_26 ok s v w0 w1 n (l + 1) x h1 (by omega) (by omega) (by omega) (by omega) f2 (fun h' f' => ?_)
        have := q h' f'
        rw [if_pos g5, Int.add_zero] at this; exact this
      · unfold jas; rw [if_pos e0, decide_eq_true g6]
      · unfold jas; rw [if_pos e0, decide_eq_false g6]
      · unfold jas; rw [if_neg e0, if_pos e1, decide_eq_false (by omega)]
      · unfold jas; rw [if_neg e0, if_pos e1, decide_eq_true (by omega)]
      · unfold jas; rw [if_neg e0, if_neg e1, if_pos e2, decide_eq_true g6]
      · unfold jas; rw [if_neg e0, if_neg e1, if_pos e2, decide_eq_false g6]
      · unfold jas; rw [if_neg e0, if_neg e1, if_neg e2, if_pos e3, decide_eq_true g6]
      · unfold jas; rw [if_neg e0, if_neg e1, if_neg e2, if_pos e3, decide_eq_false g6]
      · obtain ⟨o, se, ej, fk⟩ := jts_p ka (by omega)
        have jj : jas m a w l = tru m a l := by unfold jas; rw [if_neg e0, if_neg e1, if_neg e2, if_neg e3, decide_eq_true g6, Bool.true_and]
        refine c_isTrue ok t1 v ra fk se l0 (by omega) (jf (by omega)) ?_
        simp (disch := first | omega | decide | assumption | exact st_ne s0 (by decide) (by decide) (by decide) | exact dyn_ne (by assumption) (by decide) | fail) only [Int.reduceAdd, Int.reduceSub, Int.reduceNeg, ii_add, ii_sub, ii_mul, ii_lt, ii_le, ii_eq, ixn_ii, ixo_ii, rem_ii, nb_1, nb_0, nb_bb, bb_0, hI_gv, Int.toNat_of_nonneg, Int.cast_ofNat_Int, ht_sI, ht_sJ, ht_sR, hn_sI, hn_sJ, hn_sR, hR_sI, hR_sJ, kI_v, kV_v, kJ_v, true_and, and_true, forall_eq, tg, ln, rf, ne_eq, not_false_eq_true, forall_const, not_true_eq_false, false_implies, Int.reduceEq, Int.reduceLT, Int.reduceLE, implies_true, and_self, reduceCtorEq, false_and,]
        refine ⟨fun g7 => no (by rw [jj]; exact g7) g5, fun g7 => yes (by rw [jj]; rw [Bool.not_eq_false] at g7; exact g7) g5⟩
      · unfold jas; rw [if_neg e0, if_neg e1, if_neg e2, if_neg e3, decide_eq_false g6, Bool.false_and]
    · obtain rfl : n = 0 := by omega
      have := q h f
      rw [sm_0, Int.add_zero] at this; exact this
theorem M_joined (ok : tr_ok E) (s : mst ad h m one two H L) (v : vok m one two H L) {w : Int} (h3 : -2147483648 ≤ w) (h4 : w ≤ 2147483647) (q : 0 ≤ w ∧ w ≤ 4 → ∀ h', mpo ad h 0 0 h' → Q (.inl (some (.inl (ii (jdS m one two H L w))))) h') (r : ¬ (0 ≤ w ∧ w ≤ 4) → ∀ h', mpo ad h 1 1 h' → Q (.inl (some (.inl (ii 0)))) h') : tr_C E 190 [.inr (.inr (ad 23)), .inl (ii w)] h Q := by
  refine T_X8_joined ok ?_
  have ms := m_start s.1
  have s1 := mst_q s ms.1
  have v5 := v_5 v
  simp (disch := first | omega | decide | assumption | exact st_ne s0 (by decide) (by decide) (by decide) | exact dyn_ne (by assumption) (by decide) | fail) only [Int.reduceAdd, Int.reduceSub, Int.reduceNeg, ii_add, ii_sub, ii_mul, ii_lt, ii_le, ii_eq, ixn_ii, ixo_ii, rem_ii, nb_1, nb_0, nb_bb, bb_0, hI_gv, Int.toNat_of_nonneg, Int.cast_ofNat_Int, ht_sI, ht_sJ, ht_sR, hn_sI, hn_sJ, hn_sR, hR_sI, hR_sJ, kI_v, kV_v, kJ_v, true_and, and_true, forall_eq, tg, ln, rf, ne_eq, not_false_eq_true, forall_const, not_true_eq_false, false_implies, W_X8_joined, st_t s.1]
  refine c_within ok h3 h4 (by omega) (by omega) (by omega) (by omega) ?_
  simp (disch := first | omega | decide | assumption | exact st_ne s0 (by decide) (by decide) (by decide) | exact dyn_ne (by assumption) (by decide) | fail) only [Int.reduceAdd, Int.reduceSub, Int.reduceNeg, ii_add, ii_sub, ii_mul, ii_lt, ii_le, ii_eq, ixn_ii, ixo_ii, rem_ii, nb_1, nb_0, nb_bb, bb_0, hI_gv, Int.toNat_of_nonneg, Int.cast_ofNat_Int, ht_sI, ht_sJ, ht_sR, hn_sI, hn_sJ, hn_sR, hR_sI, hR_sJ, kI_v, kV_v, kJ_v, true_and, and_true, forall_eq, tg, ln, rf, ne_eq, not_false_eq_true, forall_const, not_true_eq_false, false_implies, st_t s.1]
  refine c_fineb ok s.1 ms (by omega) (by omega) (by omega) (by omega) (fun g => ?_) (fun g h' p => ?_)
  · rw [decide_eq_true_eq] at g
    simp (disch := first | omega | decide | assumption | exact st_ne s0 (by decide) (by decide) (by decide) | exact dyn_ne (by assumption) (by decide) | fail) only [Int.reduceAdd, Int.reduceSub, Int.reduceNeg, ii_add, ii_sub, ii_mul, ii_lt, ii_le, ii_eq, ixn_ii, ixo_ii, rem_ii, nb_1, nb_0, nb_bb, bb_0, hI_gv, Int.toNat_of_nonneg, Int.cast_ofNat_Int, ht_sI, ht_sJ, ht_sR, hn_sI, hn_sJ, hn_sR, hR_sI, hR_sJ, kI_v, kV_v, kJ_v, true_and, and_true, forall_eq, tg, ln, rf, ne_eq, not_false_eq_true, forall_const, not_true_eq_false, false_implies, Int.reduceEq, Int.reduceLT, Int.reduceLE, implies_true, and_self, reduceCtorEq, false_and,]
    refine c_joined_26 ok s1 v g.1 g.2 (m 5).toNat 0 0 _ (by omega) (by omega) (by omega) (by omega) fr_rfl (fun h' f' => ?_)
    rw [Int.zero_add]; exact q g h' (mpo_j s.1 ms f')
  · rw [decide_eq_false_iff_not] at g
    simp (disch := first | omega | decide | assumption | exact st_ne s0 (by decide) (by decide) (by decide) | exact dyn_ne (by assumption) (by decide) | fail) only [Int.reduceAdd, Int.reduceSub, Int.reduceNeg, ii_add, ii_sub, ii_mul, ii_lt, ii_le, ii_eq, ixn_ii, ixo_ii, rem_ii, nb_1, nb_0, nb_bb, bb_0, hI_gv, Int.toNat_of_nonneg, Int.cast_ofNat_Int, ht_sI, ht_sJ, ht_sR, hn_sI, hn_sJ, hn_sR, hR_sI, hR_sJ, kI_v, kV_v, kJ_v, true_and, and_true, forall_eq, tg, ln, rf, ne_eq, not_false_eq_true, forall_const, not_true_eq_false, false_implies, Int.reduceEq, Int.reduceLT, Int.reduceLE, implies_true, and_self, reduceCtorEq, false_and,]
    exact r g h' p
end TRK
