/-! THE REPORTS OF A LABEL, BY THE REFERENCE -/
def pJ (i : Nat) : Bool := Nat.ble 34 i && Nat.ble i 41
def fJ (z : Int) : Bool := decide (z = 25) || (decide (32 ≤ z) && decide (z ≤ 36))
theorem pJ_lt (j : Nat) (h : pJ j = true) : j < 42 := by
  unfold pJ at h
  simp only [Bool.and_eq_true, Nat.ble_eq] at h
  omega
theorem pJ_pM (j : Nat) (h : pJ j = true) : pM j = true := by
  unfold pJ at h
  unfold pM
  rw [h, Bool.or_true]
theorem fJ_fM (z : Int) (h : fJ z = true) : fM z = true := by
  unfold fJ at h
  unfold fM
  rw [h, Bool.or_true]
def rR (m : Int → Int) (p k : Int) : Int := b2 (chs m p k)
def rp (m : Int → Int) (l : Int) : Int := sm (ov m l (rR m)) 0 (m 106).toNat
theorem rp_ec (m : Int → Int) (l : Int) : rp m l = el m l + cl m l := by
  unfold rp el cl
  rw [← sm_add]
  refine sm_congr _ _ (fun p _ _ => ?_)
  unfold ov
  split
  · rw [← sm_add]
    refine sm_congr _ _ (fun k _ _ => ?_)
    unfold rR eR cR
    by_cases e : k = 0
    · rw [decide_eq_true e, decide_eq_false (fun e2 => e2 e), Bool.and_true, Bool.and_false]
      exact (Int.add_zero _).symm
    · rw [decide_eq_false e, decide_eq_true e, Bool.and_true, Bool.and_false]
      exact (Int.zero_add _).symm
  · rfl
section GATH2
variable {E : tr_Env} {ad : Nat → Nat} {h h0 : tr_H} {Q : tr_Q} {m one two : Int → Int} {H L : Int}
theorem mst_j {h' : tr_H} (s : mst ad h m one two H L) (a : fr ad pJ fJ false h h') : mst ad h' m one two H L := mst_fr s a pJ_lt rfl rfl rfl rfl rfl rfl
theorem mpo_j {h1 h2 : tr_H} {c k : Int} (s : stat ad h) (p : mpo ad h c k h1) (a : fr ad pJ fJ false h1 h2) : mpo ad h c k h2 := by
  obtain ⟨p1, p2, p3⟩ := p
  have s1 := st_fr s p1
  refine ⟨fr_tr p1 (fr_mono pJ_pM fJ_fM (fun e => e) a), ?_, ?_⟩
  · rw [fr_gf s1 a rfl pJ_lt rfl]; exact p2
  · rw [fr_gv s1 a (by decide) (by decide) rfl pJ_lt]; exact p3
theorem c_lays_74 (ok : tr_ok E) (s : mst ad h0 m one two H L) (v : vok m one two H L) {l p : Int} (h1 : 0 ≤ p) (h2 : p < m 106) {z : Int} (z0 : 0 ≤ z) (z1 : z ≤ 1000) : ∀ (n : Nat) (k : Int) (A B : Int → Int) (a : Int) (h : tr_H), k + n = fd m p 6 + 1 → 0 ≤ k → bnd A B a a (z + k) → fr ad pJ fJ false h0 h → rst ad h A B a → (∀ h', fr ad pJ fJ false h0 h' → rst ad h' (fun x => A x + sm (eK m x p) k n) (fun y => B y + sm (cK m y p) k n) (a + sm (rR m p) k n) → tr_G E 172 Q 49 [some (.inr (.inr (ad 23))), some (.inl (ii l)), some (.inl (ii (p + 1))), none] [] h' 0 0) → tr_G E 172 Q 74 [some (.inr (.inr (ad 23))), some (.inl (ii l)), some (.inl (ii p)), some (.inl (ii k))] [] h 0 0
  | n, k, A, B, a, h, hk, k1, bd, fa, g, q => by
    refine T_X8_laysReports_74 ok ?_
    have s1 := mst_j s fa
    have s0 := s1.1
    obtain ⟨q0, q1, q2, q3, q4, q5, q6, q7⟩ := v_p v h1 h2
    have vm := v_m v
    have vH := v_H v
    have vL := v_L v
    obtain ⟨gA, gB, gC⟩ := id g
    obtain ⟨bA, bB, bC, -⟩ := id bd
    simp (disch := first | omega | decide | assumption | exact st_ne s0 (by decide) (by decide) (by decide) | exact dyn_ne (by assumption) (by decide) | fail) only [Int.reduceAdd, Int.reduceSub, Int.reduceNeg, ii_add, ii_sub, ii_mul, ii_lt, ii_le, ii_eq, ixn_ii, ixo_ii, rem_ii, nb_1, nb_0, nb_bb, bb_0, hI_gv, Int.toNat_of_nonneg, Int.cast_ofNat_Int, ht_sI, ht_sJ, ht_sR, hn_sI, hn_sJ, hn_sR, hR_sI, hR_sJ, kI_v, kV_v, kJ_v, true_and, and_true, forall_eq, tg, ln, rf, ne_eq, not_false_eq_true, forall_const, not_true_eq_false, false_implies, W_X8_laysReports_74, st_t s0]
    refine c_of ok s1 h1 (by omega) (by omega) (by omega) ?_
    simp (disch := first | omega | decide | assumption | exact st_ne s0 (by decide) (by decide) (by decide) | exact dyn_ne (by assumption) (by decide) | fail) only [Int.reduceAdd, Int.reduceSub, Int.reduceNeg, ii_add, ii_sub, ii_mul, ii_lt, ii_le, ii_eq, ixn_ii, ixo_ii, rem_ii, nb_1, nb_0, nb_bb, bb_0, hI_gv, Int.toNat_of_nonneg, Int.cast_ofNat_Int, ht_sI, ht_sJ, ht_sR, hn_sI, hn_sJ, hn_sR, hR_sI, hR_sJ, kI_v, kV_v, kJ_v, true_and, and_true, forall_eq, tg, ln, rf, ne_eq, not_false_eq_true, forall_const, not_true_eq_false, false_implies, st_t s0]
    refine ⟨fun g2 => ?_, fun g2 => ?_⟩
    · obtain ⟨n, rfl⟩ : ∃ n', n = n' + 1 := ⟨n - 1, by omega⟩
      refine c_isChosen ok s1 v h1 h2 k1 (by omega) ?_
      have eA := gA (fd m p 0) (by omega) (by omega)
      have iA := bA (fd m p 0) (by omega) (by omega)
      simp (disch := first | omega | decide | assumption | exact st_ne s0 (by decide) (by decide) (by decide) | exact dyn_ne (by assumption) (by decide) | fail) only [Int.reduceAdd, Int.reduceSub, Int.reduceNeg, ii_add, ii_sub, ii_mul, ii_lt, ii_le, ii_eq, ixn_ii, ixo_ii, rem_ii, nb_1, nb_0, nb_bb, bb_0, hI_gv, Int.toNat_of_nonneg, Int.cast_ofNat_Int, ht_sI, ht_sJ, ht_sR, hn_sI, hn_sJ, hn_sR, hR_sI, hR_sJ, kI_v, kV_v, kJ_v, true_and, and_true, forall_eq, tg, ln, rf, ne_eq, not_false_eq_true, forall_const, not_true_eq_false, false_implies, st_t s0, st_n s0, st_r s0, gC]
      refine ⟨fun g3 => ?_, fun g3 => ⟨fun g4 => ?_, fun g4 => ?_⟩⟩
      · refine c_lays_74 ok s v h1 h2 z0 z1 n (k + 1) A B a h (by omega) (by omega) ⟨fun x x0 x1 => by have := bA x x0 x1; omega, fun x x0 x1 => by have := bB x x0 x1; omega, by omega, by omega⟩ fa g (fun h' a' g' => q h' a' (rst_c g' (fun x _ _ => ?_) (fun x _ _ => ?_) ?_))
        · rw [sm_s]; unfold eK; rw [g3, Bool.false_and]; show _ = A x + (0 + _); omega
        · rw [sm_s]; unfold cK; rw [g3, Bool.false_and]; show _ = B x + (0 + _); omega
        · rw [sm_s]; unfold rR; rw [g3]; show _ = a + (0 + _); omega
      · rw [Bool.not_eq_false] at g3
        subst g4
        have s2 := mst_j s (fr_sF (k := 25) (v := ii (a + 1)) fa rfl)
        refine c_of ok s2 h1 (by omega) (by omega) (by omega) ?_
        simp (disch := first | omega | decide | assumption | exact st_ne s0 (by decide) (by decide) (by decide) | exact dyn_ne (by assumption) (by decide) | fail) only [Int.reduceAdd, Int.reduceSub, Int.reduceNeg, ii_add, ii_sub, ii_mul, ii_lt, ii_le, ii_eq, ixn_ii, ixo_ii, rem_ii, nb_1, nb_0, nb_bb, bb_0, hI_gv, Int.toNat_of_nonneg, Int.cast_ofNat_Int, ht_sI, ht_sJ, ht_sR, hn_sI, hn_sJ, hn_sR, hR_sI, hR_sJ, kI_v, kV_v, kJ_v, true_and, and_true, forall_eq, tg, ln, rf, ne_eq, not_false_eq_true, forall_const, not_true_eq_false, false_implies, st_t s0, st_n s0, st_r s0, gv_sIn, eA]
        refine ⟨by omega, by omega, ?_⟩
        refine c_lays_74 ok s v h1 h2 z0 z1 n (0 + 1) (fun x => A x + eK m x p 0) B (a + 1) _ (by omega) (by omega) ⟨fun x x0 x1 => ?_, fun x x0 x1 => by have := bB x x0 x1; omega, by omega, by omega⟩ (fr_sI (fr_sF fa rfl) rfl) ?_ (fun h' a' g' => q h' a' (rst_c g' (fun x _ _ => ?_) (fun x _ _ => ?_) ?_))
        · have i1 := bA x x0 x1
          have i2 := b2_rg (chs m p 0 && decide ((0 : Int) = 0 ∧ fd m p 0 = x))
          show 0 ≤ A x + b2 _ ∧ A x + b2 _ ≤ _
          omega
        · refine ⟨fun x x0 x1 => ?_, fun x x0 x1 => ?_, ?_⟩
          · simp (disch := first | omega | decide | assumption | exact st_ne s0 (by decide) (by decide) (by decide) | exact dyn_ne (by assumption) (by decide) | fail) only [Int.reduceAdd, Int.reduceSub, Int.reduceNeg, ii_add, ii_sub, ii_mul, ii_lt, ii_le, ii_eq, ixn_ii, ixo_ii, rem_ii, nb_1, nb_0, nb_bb, bb_0, hI_gv, Int.toNat_of_nonneg, Int.cast_ofNat_Int, ht_sI, ht_sJ, ht_sR, hn_sI, hn_sJ, hn_sR, hR_sI, hR_sJ, kI_v, kV_v, kJ_v, true_and, and_true, forall_eq, tg, ln, rf, ne_eq, not_false_eq_true, forall_const, not_true_eq_false, false_implies, gv_sIn, gv_sIi]
            unfold eK
            rw [g3, Bool.true_and]
            by_cases e : x = fd m p 0
            · subst e; rw [ud_eq, decide_eq_true ⟨rfl, rfl⟩]; rfl
            · rw [ud_ne e, gA x x0 x1, decide_eq_false (fun e2 => e e2.2.symm)]
              show A x = A x + 0
              omega
          · simp (disch := first | omega | decide | assumption | exact st_ne s0 (by decide) (by decide) (by decide) | exact dyn_ne (by assumption) (by decide) | fail) only [Int.reduceAdd, Int.reduceSub, Int.reduceNeg, ii_add, ii_sub, ii_mul, ii_lt, ii_le, ii_eq, ixn_ii, ixo_ii, rem_ii, nb_1, nb_0, nb_bb, bb_0, hI_gv, Int.toNat_of_nonneg, Int.cast_ofNat_Int, ht_sI, ht_sJ, ht_sR, hn_sI, hn_sJ, hn_sR, hR_sI, hR_sJ, kI_v, kV_v, kJ_v, true_and, and_true, forall_eq, tg, ln, rf, ne_eq, not_false_eq_true, forall_const, not_true_eq_false, false_implies, gv_sIn, gv_sIi]
            exact gB x x0 x1
          · simp (disch := first | omega | decide | assumption | exact st_ne s0 (by decide) (by decide) (by decide) | exact dyn_ne (by assumption) (by decide) | fail) only [Int.reduceAdd, Int.reduceSub, Int.reduceNeg, ii_add, ii_sub, ii_mul, ii_lt, ii_le, ii_eq, ixn_ii, ixo_ii, rem_ii, nb_1, nb_0, nb_bb, bb_0, hI_gv, Int.toNat_of_nonneg, Int.cast_ofNat_Int, ht_sI, ht_sJ, ht_sR, hn_sI, hn_sJ, hn_sR, hR_sI, hR_sJ, kI_v, kV_v, kJ_v, true_and, and_true, forall_eq, tg, ln, rf, ne_eq, not_false_eq_true, forall_const, not_true_eq_false, false_implies, gv_sIn, gv_sIi]
            exact ud_eq _ _ _
        · rw [sm_s]; exact Int.add_assoc _ _ _
        · rw [sm_s]; unfold cK
          rw [decide_eq_false (fun e => e.1 rfl), Bool.and_false]
          show _ = B x + (0 + _); omega
        · rw [sm_s]; unfold rR
          rw [g3]
          show _ = a + (1 + _); omega
      · rw [Bool.not_eq_false] at g3
        have lq := q7 (k - 1) (by omega) (by omega)
        have el : lkk m p k = lk m p (k - 1) := by unfold lkk; rw [if_neg g4]
        have eB := gB (lk m p (k - 1)) (by omega) (by omega)
        have iB := bB (lk m p (k - 1)) (by omega) (by omega)
        have s2 := mst_j s (fr_sF (k := 25) (v := ii (a + 1)) fa rfl)
        refine c_linkAt ok s2 h1 (by omega) (by omega) (by omega) ?_
        simp (disch := first | omega | decide | assumption | exact st_ne s0 (by decide) (by decide) (by decide) | exact dyn_ne (by assumption) (by decide) | fail) only [Int.reduceAdd, Int.reduceSub, Int.reduceNeg, ii_add, ii_sub, ii_mul, ii_lt, ii_le, ii_eq, ixn_ii, ixo_ii, rem_ii, nb_1, nb_0, nb_bb, bb_0, hI_gv, Int.toNat_of_nonneg, Int.cast_ofNat_Int, ht_sI, ht_sJ, ht_sR, hn_sI, hn_sJ, hn_sR, hR_sI, hR_sJ, kI_v, kV_v, kJ_v, true_and, and_true, forall_eq, tg, ln, rf, ne_eq, not_false_eq_true, forall_const, not_true_eq_false, false_implies, st_t s0, st_n s0, st_r s0, gv_sIn, eB]
        refine ⟨by omega, by omega, ?_⟩
        refine c_lays_74 ok s v h1 h2 z0 z1 n (k + 1) A (fun y => B y + cK m y p k) (a + 1) _ (by omega) (by omega) ⟨fun x x0 x1 => by have := bA x x0 x1; omega, fun x x0 x1 => ?_, by omega, by omega⟩ (fr_sI (fr_sF fa rfl) rfl) ?_ (fun h' a' g' => q h' a' (rst_c g' (fun x _ _ => ?_) (fun x _ _ => ?_) ?_))
        · have i1 := bB x x0 x1
          have i2 := b2_rg (chs m p k && decide (k ≠ 0 ∧ lkk m p k = x))
          show 0 ≤ B x + b2 _ ∧ B x + b2 _ ≤ _
          omega
        · refine ⟨fun x x0 x1 => ?_, fun x x0 x1 => ?_, ?_⟩
          · simp (disch := first | omega | decide | assumption | exact st_ne s0 (by decide) (by decide) (by decide) | exact dyn_ne (by assumption) (by decide) | fail) only [Int.reduceAdd, Int.reduceSub, Int.reduceNeg, ii_add, ii_sub, ii_mul, ii_lt, ii_le, ii_eq, ixn_ii, ixo_ii, rem_ii, nb_1, nb_0, nb_bb, bb_0, hI_gv, Int.toNat_of_nonneg, Int.cast_ofNat_Int, ht_sI, ht_sJ, ht_sR, hn_sI, hn_sJ, hn_sR, hR_sI, hR_sJ, kI_v, kV_v, kJ_v, true_and, and_true, forall_eq, tg, ln, rf, ne_eq, not_false_eq_true, forall_const, not_true_eq_false, false_implies, gv_sIn, gv_sIi]
            exact gA x x0 x1
          · simp (disch := first | omega | decide | assumption | exact st_ne s0 (by decide) (by decide) (by decide) | exact dyn_ne (by assumption) (by decide) | fail) only [Int.reduceAdd, Int.reduceSub, Int.reduceNeg, ii_add, ii_sub, ii_mul, ii_lt, ii_le, ii_eq, ixn_ii, ixo_ii, rem_ii, nb_1, nb_0, nb_bb, bb_0, hI_gv, Int.toNat_of_nonneg, Int.cast_ofNat_Int, ht_sI, ht_sJ, ht_sR, hn_sI, hn_sJ, hn_sR, hR_sI, hR_sJ, kI_v, kV_v, kJ_v, true_and, and_true, forall_eq, tg, ln, rf, ne_eq, not_false_eq_true, forall_const, not_true_eq_false, false_implies, gv_sIn, gv_sIi]
            unfold cK
            rw [g3, Bool.true_and, el]
            by_cases e : x = lk m p (k - 1)
            · subst e; rw [ud_eq, decide_eq_true ⟨g4, rfl⟩]; rfl
            · rw [ud_ne e, gB x x0 x1, decide_eq_false (fun e2 => e e2.2.symm)]
              show B x = B x + 0
              omega
          · simp (disch := first | omega | decide | assumption | exact st_ne s0 (by decide) (by decide) (by decide) | exact dyn_ne (by assumption) (by decide) | fail) only [Int.reduceAdd, Int.reduceSub, Int.reduceNeg, ii_add, ii_sub, ii_mul, ii_lt, ii_le, ii_eq, ixn_ii, ixo_ii, rem_ii, nb_1, nb_0, nb_bb, bb_0, hI_gv, Int.toNat_of_nonneg, Int.cast_ofNat_Int, ht_sI, ht_sJ, ht_sR, hn_sI, hn_sJ, hn_sR, hR_sI, hR_sJ, kI_v, kV_v, kJ_v, true_and, and_true, forall_eq, tg, ln, rf, ne_eq, not_false_eq_true, forall_const, not_true_eq_false, false_implies, gv_sIn, gv_sIi]
            exact ud_eq _ _ _
        · rw [sm_s]; unfold eK
          rw [decide_eq_false (fun e => g4 e.1), Bool.and_false]
          show _ = A x + (0 + _); omega
        · rw [sm_s]; exact Int.add_assoc _ _ _
        · rw [sm_s]; unfold rR
          rw [g3]
          show _ = a + (1 + _); omega
    · obtain rfl : n = 0 := by omega
      refine q h fa (rst_c g (fun x _ _ => ?_) (fun x _ _ => ?_) ?_)
      · rw [sm_0, Int.add_zero]
      · rw [sm_0, Int.add_zero]
      · rw [sm_0, Int.add_zero]
theorem c_lays_49 (ok : tr_ok E) (s : mst ad h0 m one two H L) (v : vok m one two H L) {l : Int} (l0 : 0 ≤ l) (l1 : l ≤ 64) : ∀ (n : Nat) (p : Int) (A B : Int → Int) (a : Int) (h : tr_H), p + n = m 106 → 0 ≤ p → bnd A B a a (13 * p) → fr ad pJ fJ false h0 h → rst ad h A B a → (∀ h', fr ad pJ fJ false h0 h' → rst ad h' (fun x => A x + sm (ov m l (eK m x)) p n) (fun y => B y + sm (ov m l (cK m y)) p n) (a + sm (ov m l (rR m)) p n) → Q (.inl none) h') → tr_G E 172 Q 49 [some (.inr (.inr (ad 23))), some (.inl (ii l)), some (.inl (ii p)), none] [] h 0 0
  | n, p, A, B, a, h, hk, h1, bd, fa, g, q => by
    refine T_X8_laysReports_49 ok ?_
    have s1 := mst_j s fa
    have s0 := s1.1
    have em := s1.2.1
    have vm := v_m v
    have v5 := v_5 v
    have hl := lab_rg (p := p) v
    simp (disch := first | omega | decide | assumption | exact st_ne s0 (by decide) (by decide) (by decide) | exact dyn_ne (by assumption) (by decide) | fail) only [Int.reduceAdd, Int.reduceSub, Int.reduceNeg, ii_add, ii_sub, ii_mul, ii_lt, ii_le, ii_eq, ixn_ii, ixo_ii, rem_ii, nb_1, nb_0, nb_bb, bb_0, hI_gv, Int.toNat_of_nonneg, Int.cast_ofNat_Int, ht_sI, ht_sJ, ht_sR, hn_sI, hn_sJ, hn_sR, hR_sI, hR_sJ, kI_v, kV_v, kJ_v, true_and, and_true, forall_eq, tg, ln, rf, ne_eq, not_false_eq_true, forall_const, not_true_eq_false, false_implies, W_X8_laysReports_49, st_t s0, st_n s0, st_r s0, em]
    refine ⟨by omega, fun h2 => ?_, fun g2 => ?_⟩
    · obtain ⟨n, rfl⟩ : ∃ n', n = n' + 1 := ⟨n - 1, by omega⟩
      obtain ⟨q0, q1, q2, q3, q4, q5, q6, q7⟩ := v_p v h1 h2
      refine c_labelOf ok s1 v h1 h2 ?_
      simp (disch := first | omega | decide | assumption | exact st_ne s0 (by decide) (by decide) (by decide) | exact dyn_ne (by assumption) (by decide) | fail) only [Int.reduceAdd, Int.reduceSub, Int.reduceNeg, ii_add, ii_sub, ii_mul, ii_lt, ii_le, ii_eq, ixn_ii, ixo_ii, rem_ii, nb_1, nb_0, nb_bb, bb_0, hI_gv, Int.toNat_of_nonneg, Int.cast_ofNat_Int, ht_sI, ht_sJ, ht_sR, hn_sI, hn_sJ, hn_sR, hR_sI, hR_sJ, kI_v, kV_v, kJ_v, true_and, and_true, forall_eq, tg, ln, rf, ne_eq, not_false_eq_true, forall_const, not_true_eq_false, false_implies]
      refine ⟨fun g3 => ?_, fun g3 => ?_⟩
      · refine c_lays_74 ok s v h1 h2 (z := 13 * p) (by omega) (by omega) (fd m p 6 + 1).toNat 0 A B a h (by omega) (by omega) ?_ fa g (fun h2 a2 g2 => ?_)
        · rw [Int.add_zero]; exact bd
        refine c_lays_49 ok s v l0 l1 n (p + 1) _ _ _ h2 (by omega) (by omega) ?_ a2 g2 (fun h' a' g' => q h' a' (rst_c g' (fun x _ _ => ?_) (fun x _ _ => ?_) ?_))
        · have hs := fun (f : Int → Int) (hf : ∀ k, 0 ≤ f k ∧ f k ≤ 1) => sm_rg (f := f) (lo := 0) (hi := 1) (fd m p 6 + 1).toNat 0 (fun k _ _ => hf k)
          refine bnd_s bd (by omega) (fun x => ?_) (fun x => ?_) ?_ ?_
          · have := hs (eK m x p) (fun k => b2_rg _); omega
          · have := hs (cK m x p) (fun k => b2_rg _); omega
          · have := hs (rR m p) (fun k => b2_rg _); omega
          · have := hs (rR m p) (fun k => b2_rg _); omega
        · rw [sm_s, ov, if_pos g3]; exact Int.add_assoc _ _ _
        · rw [sm_s, ov, if_pos g3]; exact Int.add_assoc _ _ _
        · rw [sm_s, ov, if_pos g3]; exact Int.add_assoc _ _ _
      · refine c_lays_49 ok s v l0 l1 n (p + 1) A B a h (by omega) (by omega) ?_ fa g (fun h' a' g' => q h' a' (rst_c g' (fun x _ _ => ?_) (fun x _ _ => ?_) ?_))
        · obtain ⟨bA, bB, bC, bD⟩ := bd
          exact ⟨fun x x0 x1 => by have := bA x x0 x1; omega, fun x x0 x1 => by have := bB x x0 x1; omega, by omega, by omega⟩
        · rw [sm_s, ov, if_neg g3, Int.zero_add]
        · rw [sm_s, ov, if_neg g3, Int.zero_add]
        · rw [sm_s, ov, if_neg g3, Int.zero_add]
    · obtain rfl : n = 0 := by omega
      refine q h fa (rst_c g (fun x _ _ => ?_) (fun x _ _ => ?_) ?_)
      · rw [sm_0, Int.add_zero]
      · rw [sm_0, Int.add_zero]
      · rw [sm_0, Int.add_zero]
theorem c_lays_23 (ok : tr_ok E) (s : mst ad h0 m one two H L) (v : vok m one two H L) {l : Int} (l0 : 0 ≤ l) (l1 : l ≤ 64) (q : ∀ h', fr ad pJ fJ false h0 h' → rst ad h' (en m l) (ca m l) (rp m l) → Q (.inl none) h') : ∀ (n : Nat) (i : Int) (h : tr_H), i + n = 24 → 0 ≤ i → fr ad pJ fJ false h0 h → (∀ x, 0 ≤ x → x < 10 → gv h (ad 34) x = 0) → (∀ x, 0 ≤ x → x < i → gv h (ad 35) x = 0) → tr_G E 172 Q 23 [some (.inr (.inr (ad 23))), some (.inl (ii l)), some (.inl (ii i)), none] [] h 0 0
  | n, i, h, hk, i0, fa, gA, gB => by
    refine T_X8_laysReports_23 ok ?_
    have s0 := st_fr s.1 fa
    have vm := v_m v
    simp (disch := first | omega | decide | assumption | exact st_ne s0 (by decide) (by decide) (by decide) | exact dyn_ne (by assumption) (by decide) | fail) only [Int.reduceAdd, Int.reduceSub, Int.reduceNeg, ii_add, ii_sub, ii_mul, ii_lt, ii_le, ii_eq, ixn_ii, ixo_ii, rem_ii, nb_1, nb_0, nb_bb, bb_0, hI_gv, Int.toNat_of_nonneg, Int.cast_ofNat_Int, ht_sI, ht_sJ, ht_sR, hn_sI, hn_sJ, hn_sR, hR_sI, hR_sJ, kI_v, kV_v, kJ_v, true_and, and_true, forall_eq, tg, ln, rf, ne_eq, not_false_eq_true, forall_const, not_true_eq_false, false_implies, W_X8_laysReports_23, st_t s0, st_n s0, st_r s0]
    refine ⟨fun g => ⟨by omega, ?_⟩, fun g => ?_⟩
    · obtain ⟨n, rfl⟩ : ∃ n', n = n' + 1 := ⟨n - 1, by omega⟩
      refine c_lays_23 ok s v l0 l1 q n (i + 1) _ (by omega) (by omega) (fr_sI fa rfl) (fun x x0 x1 => ?_) (fun x x0 x1 => ?_)
      · simp (disch := first | omega | decide | assumption | exact st_ne s0 (by decide) (by decide) (by decide) | exact dyn_ne (by assumption) (by decide) | fail) only [Int.reduceAdd, Int.reduceSub, Int.reduceNeg, ii_add, ii_sub, ii_mul, ii_lt, ii_le, ii_eq, ixn_ii, ixo_ii, rem_ii, nb_1, nb_0, nb_bb, bb_0, hI_gv, Int.toNat_of_nonneg, Int.cast_ofNat_Int, ht_sI, ht_sJ, ht_sR, hn_sI, hn_sJ, hn_sR, hR_sI, hR_sJ, kI_v, kV_v, kJ_v, true_and, and_true, forall_eq, tg, ln, rf, ne_eq, not_false_eq_true, forall_const, not_true_eq_false, false_implies, gv_sIn]
        exact gA x x0 x1
      · simp (disch := first | omega | decide | assumption | exact st_ne s0 (by decide) (by decide) (by decide) | exact dyn_ne (by assumption) (by decide) | fail) only [Int.reduceAdd, Int.reduceSub, Int.reduceNeg, ii_add, ii_sub, ii_mul, ii_lt, ii_le, ii_eq, ixn_ii, ixo_ii, rem_ii, nb_1, nb_0, nb_bb, bb_0, hI_gv, Int.toNat_of_nonneg, Int.cast_ofNat_Int, ht_sI, ht_sJ, ht_sR, hn_sI, hn_sJ, hn_sR, hR_sI, hR_sJ, kI_v, kV_v, kJ_v, true_and, and_true, forall_eq, tg, ln, rf, ne_eq, not_false_eq_true, forall_const, not_true_eq_false, false_implies, gv_sIi]
        by_cases e : x = i
        · subst e; exact ud_eq _ _ _
        · rw [ud_ne e]; exact gB x x0 (by omega)
    · refine c_lays_49 ok s v l0 l1 (m 106).toNat 0 (fun _ => 0) (fun _ => 0) 0 _ (by omega) (by omega) ⟨fun x _ _ => ⟨Int.le_refl _, Int.le_refl _⟩, fun x _ _ => ⟨Int.le_refl _, Int.le_refl _⟩, by omega, by omega⟩ (fr_sF fa rfl) ⟨fun x x0 x1 => ?_, fun x x0 x1 => ?_, ?_⟩ (fun h' a' g' => q h' a' (rst_c g' (fun x _ _ => ?_) (fun x _ _ => ?_) ?_))
      · simp (disch := first | omega | decide | assumption | exact st_ne s0 (by decide) (by decide) (by decide) | exact dyn_ne (by assumption) (by decide) | fail) only [Int.reduceAdd, Int.reduceSub, Int.reduceNeg, ii_add, ii_sub, ii_mul, ii_lt, ii_le, ii_eq, ixn_ii, ixo_ii, rem_ii, nb_1, nb_0, nb_bb, bb_0, hI_gv, Int.toNat_of_nonneg, Int.cast_ofNat_Int, ht_sI, ht_sJ, ht_sR, hn_sI, hn_sJ, hn_sR, hR_sI, hR_sJ, kI_v, kV_v, kJ_v, true_and, and_true, forall_eq, tg, ln, rf, ne_eq, not_false_eq_true, forall_const, not_true_eq_false, false_implies, gv_sIn]
        exact gA x x0 x1
      · simp (disch := first | omega | decide | assumption | exact st_ne s0 (by decide) (by decide) (by decide) | exact dyn_ne (by assumption) (by decide) | fail) only [Int.reduceAdd, Int.reduceSub, Int.reduceNeg, ii_add, ii_sub, ii_mul, ii_lt, ii_le, ii_eq, ixn_ii, ixo_ii, rem_ii, nb_1, nb_0, nb_bb, bb_0, hI_gv, Int.toNat_of_nonneg, Int.cast_ofNat_Int, ht_sI, ht_sJ, ht_sR, hn_sI, hn_sJ, hn_sR, hR_sI, hR_sJ, kI_v, kV_v, kJ_v, true_and, and_true, forall_eq, tg, ln, rf, ne_eq, not_false_eq_true, forall_const, not_true_eq_false, false_implies, gv_sIn]
        exact gB x x0 (by omega)
      · simp (disch := first | omega | decide | assumption | exact st_ne s0 (by decide) (by decide) (by decide) | exact dyn_ne (by assumption) (by decide) | fail) only [Int.reduceAdd, Int.reduceSub, Int.reduceNeg, ii_add, ii_sub, ii_mul, ii_lt, ii_le, ii_eq, ixn_ii, ixo_ii, rem_ii, nb_1, nb_0, nb_bb, bb_0, hI_gv, Int.toNat_of_nonneg, Int.cast_ofNat_Int, ht_sI, ht_sJ, ht_sR, hn_sI, hn_sJ, hn_sR, hR_sI, hR_sJ, kI_v, kV_v, kJ_v, true_and, and_true, forall_eq, tg, ln, rf, ne_eq, not_false_eq_true, forall_const, not_true_eq_false, false_implies, gv_sIi]
        exact ud_eq _ _ _
      · show 0 + _ = _; rw [Int.zero_add]; rfl
      · show 0 + _ = _; rw [Int.zero_add]; rfl
      · rw [Int.zero_add]; rfl
theorem c_lays_2 (ok : tr_ok E) (s : mst ad h0 m one two H L) (v : vok m one two H L) {l : Int} (l0 : 0 ≤ l) (l1 : l ≤ 64) (q : ∀ h', fr ad pJ fJ false h0 h' → rst ad h' (en m l) (ca m l) (rp m l) → Q (.inl none) h') : ∀ (n : Nat) (i : Int) (h : tr_H), i + n = 10 → 0 ≤ i → fr ad pJ fJ false h0 h → (∀ x, 0 ≤ x → x < i → gv h (ad 34) x = 0) → tr_G E 172 Q 2 [some (.inr (.inr (ad 23))), some (.inl (ii l)), some (.inl (ii i)), none] [] h 0 0
  | n, i, h, hk, i0, fa, gA => by
    refine T_X8_laysReports_2 ok ?_
    have s0 := st_fr s.1 fa
    simp (disch := first | omega | decide | assumption | exact st_ne s0 (by decide) (by decide) (by decide) | exact dyn_ne (by assumption) (by decide) | fail) only [Int.reduceAdd, Int.reduceSub, Int.reduceNeg, ii_add, ii_sub, ii_mul, ii_lt, ii_le, ii_eq, ixn_ii, ixo_ii, rem_ii, nb_1, nb_0, nb_bb, bb_0, hI_gv, Int.toNat_of_nonneg, Int.cast_ofNat_Int, ht_sI, ht_sJ, ht_sR, hn_sI, hn_sJ, hn_sR, hR_sI, hR_sJ, kI_v, kV_v, kJ_v, true_and, and_true, forall_eq, tg, ln, rf, ne_eq, not_false_eq_true, forall_const, not_true_eq_false, false_implies, W_X8_laysReports_2, st_t s0, st_n s0, st_r s0]
    refine ⟨fun g => ⟨by omega, ?_⟩, fun g => ?_⟩
    · obtain ⟨n, rfl⟩ : ∃ n', n = n' + 1 := ⟨n - 1, by omega⟩
      refine c_lays_2 ok s v l0 l1 q n (i + 1) _ (by omega) (by omega) (fr_sI fa rfl) (fun x x0 x1 => ?_)
      simp (disch := first | omega | decide | assumption | exact st_ne s0 (by decide) (by decide) (by decide) | exact dyn_ne (by assumption) (by decide) | fail) only [Int.reduceAdd, Int.reduceSub, Int.reduceNeg, ii_add, ii_sub, ii_mul, ii_lt, ii_le, ii_eq, ixn_ii, ixo_ii, rem_ii, nb_1, nb_0, nb_bb, bb_0, hI_gv, Int.toNat_of_nonneg, Int.cast_ofNat_Int, ht_sI, ht_sJ, ht_sR, hn_sI, hn_sJ, hn_sR, hR_sI, hR_sJ, kI_v, kV_v, kJ_v, true_and, and_true, forall_eq, tg, ln, rf, ne_eq, not_false_eq_true, forall_const, not_true_eq_false, false_implies, gv_sIi]
      by_cases e : x = i
      · subst e; exact ud_eq _ _ _
      · rw [ud_ne e]; exact gA x x0 (by omega)
    · exact c_lays_23 ok s v l0 l1 q 24 0 h (by omega) (by omega) fa (fun x x0 x1 => gA x x0 (by omega)) (fun x x0 x1 => by omega)
theorem c_laysReports (ok : tr_ok E) (s : mst ad h m one two H L) (v : vok m one two H L) {l : Int} (l0 : 0 ≤ l) (l1 : l ≤ 64) (q : ∀ h', fr ad pJ fJ false h h' → rst ad h' (en m l) (ca m l) (rp m l) → Q (.inl none) h') : tr_C E 172 [.inr (.inr (ad 23)), .inl (ii l)] h Q := by
  refine T_X8_laysReports ok ?_
  exact c_lays_2 ok s v l0 l1 q 10 0 h (by omega) (by omega) fr_rfl (fun x x0 x1 => by omega)
/-- label -/
def lbL (m : Int → Int) (k : Int) : Int → Int → Nat → Int
  | _, _, 0 => -1
  | b, l, n + 1 => if el m l + cl m l = 0 then lbL m k b (l + 1) n else if b = k then l else lbL m k (b + 1) (l + 1) n
theorem k_label_4 (ok : tr_ok E) (c0 : kst ad h0 m one two H L) (v : vok m one two H L) {k : Int} (k1 : -2147483648 ≤ k) (k2 : k ≤ 2147483647) : ∀ (n : Nat) (b l : Int) (h : tr_H), l + n = m 5 → 0 ≤ l → 0 ≤ b → b ≤ l → fr ad pC f0 false h0 h → (∀ h', fr ad pC f0 false h0 h' → Q (.inl (some (.inl (ii (lbL m k b l n))))) h') → tr_G E 88 Q 4 [some (.inr (.inr (ad 1))), some (.inl (ii k)), some (.inl (ii b)), some (.inl (ii l))] [] h 0 0
  | n, b, l, h, hk, l0, b0, b1, a, q => by
    refine T_X7_label_4 ok ?_
    have c := kst_fr c0 a pC_lt
    have s0 := c.1
    obtain ⟨d0, n', d2, d3, d4, d5⟩ := id c.2
    obtain ⟨n0, n1, n2, -, -, -, -, ⟨ga, gb, g0, g1, g2, g3, g4⟩, nd⟩ := id n'
    obtain ⟨vH, vL, vl, v0, v1, v2, v3, v4, v5, vr, vm, vp⟩ := id v
    have he := el_rg (l := l) v
    have hc := cl_rg (l := l) v
    simp (disch := first | omega | decide | assumption | exact st_ne s0 (by decide) (by decide) (by decide) | exact dyn_ne (by assumption) (by decide) | fail) only [Int.reduceAdd, Int.reduceSub, Int.reduceNeg, ii_add, ii_sub, ii_mul, ii_lt, ii_le, ii_eq, ixn_ii, ixo_ii, rem_ii, nb_1, nb_0, nb_bb, bb_0, hI_gv, Int.toNat_of_nonneg, Int.cast_ofNat_Int, ht_sI, ht_sJ, ht_sR, hn_sI, hn_sJ, hn_sR, hR_sI, hR_sJ, kI_v, kV_v, kJ_v, true_and, and_true, forall_eq, tg, ln, rf, ne_eq, not_false_eq_true, forall_const, not_true_eq_false, false_implies, W_X7_label_4, st_t s0, st_r s0, d0, n0, ga, gb, g4]
    refine ⟨by omega, fun g => ?_, fun g => ?_⟩
    · obtain ⟨n, rfl⟩ : ∃ n', n = n' + 1 := ⟨n - 1, by omega⟩
      refine k_gatherJ ok s0 c.2 v l0 (by omega) (fun h1 a1 gs => ?_)
      have t0 := st_fr s0 a1
      unfold lbL at q
      simp (disch := first | omega | decide | assumption | exact st_ne s0 (by decide) (by decide) (by decide) | exact dyn_ne (by assumption) (by decide) | fail) only [Int.reduceAdd, Int.reduceSub, Int.reduceNeg, ii_add, ii_sub, ii_mul, ii_lt, ii_le, ii_eq, ixn_ii, ixo_ii, rem_ii, nb_1, nb_0, nb_bb, bb_0, hI_gv, Int.toNat_of_nonneg, Int.cast_ofNat_Int, ht_sI, ht_sJ, ht_sR, hn_sI, hn_sJ, hn_sR, hR_sI, hR_sJ, kI_v, kV_v, kJ_v, true_and, and_true, forall_eq, tg, ln, rf, ne_eq, not_false_eq_true, forall_const, not_true_eq_false, false_implies, st_t t0, st_r t0]
      refine k_hasReports ok t0 gs (by omega) (by omega) (by omega) (by omega) ?_
      simp (disch := first | omega | decide | assumption | exact st_ne s0 (by decide) (by decide) (by decide) | exact dyn_ne (by assumption) (by decide) | fail) only [Int.reduceAdd, Int.reduceSub, Int.reduceNeg, ii_add, ii_sub, ii_mul, ii_lt, ii_le, ii_eq, ixn_ii, ixo_ii, rem_ii, nb_1, nb_0, nb_bb, bb_0, hI_gv, Int.toNat_of_nonneg, Int.cast_ofNat_Int, ht_sI, ht_sJ, ht_sR, hn_sI, hn_sJ, hn_sR, hR_sI, hR_sJ, kI_v, kV_v, kJ_v, true_and, and_true, forall_eq, tg, ln, rf, ne_eq, not_false_eq_true, forall_const, not_true_eq_false, false_implies]
      refine ⟨fun g2 => ?_, fun g2 => ⟨fun g3 => ?_, fun g3 => ?_⟩⟩
      · rw [decide_eq_false_iff_not, Decidable.not_not] at g2
        rw [if_pos g2] at q
        exact k_label_4 ok c0 v k1 k2 n b (l + 1) h1 (by omega) (by omega) (by omega) (by omega) (fr_tr a a1) q
      · rw [Bool.not_eq_false, decide_eq_true_eq] at g2
        rw [if_neg g2, if_pos g3] at q
        exact q h1 (fr_tr a a1)
      · rw [Bool.not_eq_false, decide_eq_true_eq] at g2
        rw [if_neg g2, if_neg g3] at q
        exact k_label_4 ok c0 v k1 k2 n (b + 1) (l + 1) h1 (by omega) (by omega) (by omega) (by omega) (fr_tr a a1) q
    · obtain rfl : n = 0 := by omega
      exact q h a
theorem K_label (ok : tr_ok E) (c : kst ad h m one two H L) (v : vok m one two H L) {k : Int} (k1 : -2147483648 ≤ k) (k2 : k ≤ 2147483647) (q : ∀ h', fr ad pC f0 false h h' → Q (.inl (some (.inl (ii (lbL m k 0 0 (m 5).toNat))))) h') : tr_C E 88 [.inr (.inr (ad 1)), .inl (ii k)] h Q := by
  refine T_X7_label ok ?_
  have v5 := v_5 v
  exact k_label_4 ok c v k1 k2 (m 5).toNat 0 0 h (by omega) (by omega) (by omega) (by omega) fr_rfl q
theorem c_label_9 (ok : tr_ok E) (s : mst ad h0 m one two H L) (v : vok m one two H L) {k : Int} (k1 : -2147483648 ≤ k) (k2 : k ≤ 2147483647) : ∀ (n : Nat) (b l : Int) (h : tr_H), l + n = m 5 → 0 ≤ l → 0 ≤ b → b ≤ l → fr ad pJ fJ false h0 h → (∀ h', fr ad pJ fJ false h0 h' → Q (.inl (some (.inl (ii (lbL m k b l n))))) h') → tr_G E 174 Q 9 [some (.inr (.inr (ad 23))), some (.inl (ii k)), some (.inl (ii b)), some (.inl (ii l))] [] h 0 0
  | n, b, l, h, hk, l0, b0, b1, a, q => by
    refine T_X8_label_9 ok ?_
    have s1 := mst_j s a
    have s0 := s1.1
    have em := s1.2.1
    obtain ⟨vH, vL, vl, v0, v1, v2, v3, v4, v5, vr, vm, vp⟩ := id v
    have he := el_rg (l := l) v
    have hc := cl_rg (l := l) v
    have hr := rp_ec m l
    simp (disch := first | omega | decide | assumption | exact st_ne s0 (by decide) (by decide) (by decide) | exact dyn_ne (by assumption) (by decide) | fail) only [Int.reduceAdd, Int.reduceSub, Int.reduceNeg, ii_add, ii_sub, ii_mul, ii_lt, ii_le, ii_eq, ixn_ii, ixo_ii, rem_ii, nb_1, nb_0, nb_bb, bb_0, hI_gv, Int.toNat_of_nonneg, Int.cast_ofNat_Int, ht_sI, ht_sJ, ht_sR, hn_sI, hn_sJ, hn_sR, hR_sI, hR_sJ, kI_v, kV_v, kJ_v, true_and, and_true, forall_eq, tg, ln, rf, ne_eq, not_false_eq_true, forall_const, not_true_eq_false, false_implies, W_X8_label_9, st_t s0, st_n s0, st_r s0, em]
    refine ⟨by omega, fun g => ?_, fun g => ?_⟩
    · obtain ⟨n, rfl⟩ : ∃ n', n = n' + 1 := ⟨n - 1, by omega⟩
      refine c_laysReports ok s1 v l0 (by omega) (fun h1 a1 rs => ?_)
      have t0 := st_fr s0 a1
      have e25 := rs.2.2
      rw [hr] at e25
      unfold lbL at q
      simp (disch := first | omega | decide | assumption | exact st_ne s0 (by decide) (by decide) (by decide) | exact dyn_ne (by assumption) (by decide) | fail) only [Int.reduceAdd, Int.reduceSub, Int.reduceNeg, ii_add, ii_sub, ii_mul, ii_lt, ii_le, ii_eq, ixn_ii, ixo_ii, rem_ii, nb_1, nb_0, nb_bb, bb_0, hI_gv, Int.toNat_of_nonneg, Int.cast_ofNat_Int, ht_sI, ht_sJ, ht_sR, hn_sI, hn_sJ, hn_sR, hR_sI, hR_sJ, kI_v, kV_v, kJ_v, true_and, and_true, forall_eq, tg, ln, rf, ne_eq, not_false_eq_true, forall_const, not_true_eq_false, false_implies, st_t t0, st_r t0, e25]
      refine ⟨fun g2 => ?_, fun g2 => ⟨fun g3 => ?_, fun g3 => ?_⟩⟩
      · rw [if_pos g2] at q
        exact c_label_9 ok s v k1 k2 n b (l + 1) h1 (by omega) (by omega) (by omega) (by omega) (fr_tr a a1) q
      · rw [if_neg g2, if_pos g3] at q
        exact q h1 (fr_tr a a1)
      · rw [if_neg g2, if_neg g3] at q
        exact c_label_9 ok s v k1 k2 n (b + 1) (l + 1) h1 (by omega) (by omega) (by omega) (by omega) (fr_tr a a1) q
    · obtain rfl : n = 0 := by omega
      exact q h a
theorem M_label (ok : tr_ok E) (s : mst ad h m one two H L) (v : vok m one two H L) {k : Int} (k1 : -2147483648 ≤ k) (k2 : k ≤ 2147483647) (q : ∀ h', mpo ad h 0 0 h' → Q (.inl (some (.inl (ii (lbL m k 0 0 (m 5).toNat))))) h') : tr_C E 174 [.inr (.inr (ad 23)), .inl (ii k)] h Q := by
  refine T_X8_label ok ?_
  have ms := m_start s.1
  have s1 := mst_q s ms.1
  have v5 := v_5 v
  simp (disch := first | omega | decide | assumption | exact st_ne s0 (by decide) (by decide) (by decide) | exact dyn_ne (by assumption) (by decide) | fail) only [Int.reduceAdd, Int.reduceSub, Int.reduceNeg, ii_add, ii_sub, ii_mul, ii_lt, ii_le, ii_eq, ixn_ii, ixo_ii, rem_ii, nb_1, nb_0, nb_bb, bb_0, hI_gv, Int.toNat_of_nonneg, Int.cast_ofNat_Int, ht_sI, ht_sJ, ht_sR, hn_sI, hn_sJ, hn_sR, hR_sI, hR_sJ, kI_v, kV_v, kJ_v, true_and, and_true, forall_eq, tg, ln, rf, ne_eq, not_false_eq_true, forall_const, not_true_eq_false, false_implies, W_X8_label, st_t s.1]
  exact c_label_9 ok s1 v k1 k2 (m 5).toNat 0 0 _ (by omega) (by omega) (by omega) (by omega) fr_rfl (fun h' a => q h' (mpo_j s.1 ms a))
end GATH2
