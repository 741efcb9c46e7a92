/-! THE FIRSTS, GONE ON -/
def cnk (m : Int → Int) (mk key : Int) : Int := sm (fun p => b2 (chk m mk key p)) 0 (m 106).toNat
def ckb (m : Int → Int) (mk key l a b : Int) : Bool := chk m mk key a && chk m mk key b && decide (hsh m a % l = hsh m b % l)
def ckl (m : Int → Int) (mk key l : Int) : Int := sm (fun a => sm (fun b => b2 (ckb m mk key l a b)) 0 a.toNat) 0 (m 106).toNat
def plb (m : Int → Int) (mk key l x : Int) (n : Nat) : Int := sm (fun b => b2 (chk m mk key b && decide (hsh m b % l = x))) 0 n
theorem plb_rg (m : Int → Int) (mk key l x : Int) (n : Nat) : 0 ≤ plb m mk key l x n ∧ plb m mk key l x n ≤ n := by
  have := sm_rg (f := fun b => b2 (chk m mk key b && decide (hsh m b % l = x))) (lo := 0) (hi := 1) n 0 (fun j _ _ => b2_rg _)
  unfold plb
  constructor <;> omega
theorem sm_zero {f : Int → Int} : ∀ (n : Nat) (i : Int), (∀ j, f j = 0) → sm f i n = 0
  | 0, _, _ => rfl
  | n + 1, i, h => by rw [sm_s, h i, sm_zero n (i + 1) h]; rfl
theorem ckb_f {m : Int → Int} {mk key l a : Int} {n : Nat} (h : chk m mk key a = false) : sm (fun b => b2 (ckb m mk key l a b)) 0 n = 0 := sm_zero n 0 (fun j => by unfold ckb; rw [h]; rfl)
theorem ckb_t {m : Int → Int} {mk key l a : Int} {n : Nat} (h : chk m mk key a = true) : sm (fun b => b2 (ckb m mk key l a b)) 0 n = plb m mk key l (hsh m a % l) n := by
  unfold plb
  refine sm_congr n 0 (fun j _ _ => ?_)
  unfold ckb
  rw [h, Bool.true_and]
  congr 2
  exact decide_eq_decide.mpr ⟨fun e => e.symm, fun e => e.symm⟩
theorem fis_21 {ad : Nat → Nat} {h : tr_H} {m : Int → Int} {mk : Int} {k : Nat} {w : Int32} (s0 : stat ad h) (f : fis ad h m mk) : fis ad (hsI h (ad 21) k w) m mk := by
  obtain ⟨e3, e4, e5, e6⟩ := f
  unfold fis
  rw [gv_sIn (st_ne s0 (by decide) (by decide) (by decide)), gv_sIn (st_ne s0 (by decide) (by decide) (by decide)), gv_sIn (st_ne s0 (by decide) (by decide) (by decide))]
  exact ⟨e3, e4, e5, e6⟩
theorem fis_fl {ad : Nat → Nat} {h : tr_H} {m : Int → Int} {mk : Int} {k : Int} {w : Int32} (s0 : stat ad h) (f : fis ad h m mk) : fis ad (hfl h (ad 21) k w) m mk := by
  obtain ⟨e3, e4, e5, e6⟩ := f
  unfold fis
  rw [gv_fln (st_ne s0 (by decide) (by decide) (by decide)), gv_fln (st_ne s0 (by decide) (by decide) (by decide)), gv_fln (st_ne s0 (by decide) (by decide) (by decide))]
  exact ⟨e3, e4, e5, e6⟩
section FI2
variable {E : tr_Env} {ad : Nat → Nat} {h0 h : tr_H} {Q : tr_Q} {m one two : Int → Int} {H L : Int} {mk key : Int}
theorem k_chosenByF_4 (ok : tr_ok E) (s0 : stat ad h) (f : fis ad h m mk) (v : vok m one two H L) (h3 : 0 ≤ key) (h4 : key < m 2) : ∀ (n : Nat) (i a : Int), i + n = m 106 → 0 ≤ i → 0 ≤ a → a ≤ i → Q (.inl (some (.inl (ii (a + sm (fun p => b2 (chk m mk key p)) i n))))) h → tr_G E 3 Q 4 [some (.inr (.inr (ad 3))), some (.inl (ii key)), some (.inl (ii a)), some (.inl (ii i))] [] h 0 0
  | n, i, a, hk, g0, g1, g2, q => by
    refine T_X0_chosenBy_4 ok ?_
    have vm := v_m v
    simp (disch := first | omega | decide | assumption | exact st_ne s0 (by decide) (by decide) (by decide) | exact dyn_ne (by assumption) (by decide) | fail) only [Int.reduceAdd, Int.reduceSub, Int.reduceNeg, ii_add, ii_sub, ii_mul, ii_lt, ii_le, ii_eq, ixn_ii, ixo_ii, rem_ii, nb_1, nb_0, nb_bb, bb_0, hI_gv, Int.toNat_of_nonneg, Int.cast_ofNat_Int, ht_sI, ht_sJ, ht_sR, hn_sI, hn_sJ, hn_sR, hR_sI, hR_sJ, kI_v, kV_v, kJ_v, true_and, and_true, forall_eq, tg, ln, rf, ne_eq, not_false_eq_true, forall_const, not_true_eq_false, false_implies, W_X0_chosenBy_4, st_t s0, f.1]
    refine ⟨fun g => ?_, fun g => ?_⟩
    · obtain ⟨n, rfl⟩ : ∃ n', n = n' + 1 := ⟨n - 1, by omega⟩
      rw [sm_s, ← Int.add_assoc] at q
      refine k_isChosenF ok s0 f v g0 g h3 h4 ?_
      simp (disch := first | omega | decide | assumption | exact st_ne s0 (by decide) (by decide) (by decide) | exact dyn_ne (by assumption) (by decide) | fail) only [Int.reduceAdd, Int.reduceSub, Int.reduceNeg, ii_add, ii_sub, ii_mul, ii_lt, ii_le, ii_eq, ixn_ii, ixo_ii, rem_ii, nb_1, nb_0, nb_bb, bb_0, hI_gv, Int.toNat_of_nonneg, Int.cast_ofNat_Int, ht_sI, ht_sJ, ht_sR, hn_sI, hn_sJ, hn_sR, hR_sI, hR_sJ, kI_v, kV_v, kJ_v, true_and, and_true, forall_eq, tg, ln, rf, ne_eq, not_false_eq_true, forall_const, not_true_eq_false, false_implies]
      refine ⟨fun g3 => ?_, fun g3 => ?_⟩
      · refine k_chosenByF_4 ok s0 f v h3 h4 n (i + 1) _ (by omega) (by omega) (by omega) (by omega) ?_
        rw [g3] at q; exact q
      · rw [Bool.not_eq_false] at g3
        refine k_chosenByF_4 ok s0 f v h3 h4 n (i + 1) _ (by omega) (by omega) (by omega) (by omega) ?_
        rw [g3] at q; exact q
    · obtain rfl : n = 0 := by omega
      rw [sm_0, Int.add_zero] at q; exact q
theorem k_chosenByF (ok : tr_ok E) (s0 : stat ad h) (f : fis ad h m mk) (v : vok m one two H L) (h3 : 0 ≤ key) (h4 : key < m 2) (q : Q (.inl (some (.inl (ii (cnk m mk key))))) h) : tr_C E 3 [.inr (.inr (ad 3)), .inl (ii key)] h Q := by
  refine T_X0_chosenBy ok ?_
  have vm := v_m v
  refine k_chosenByF_4 ok s0 f v h3 h4 (m 106).toNat 0 0 (by omega) (by omega) (by omega) (by omega) ?_
  rw [Int.zero_add]; exact q
theorem k_clashesByF_26 (ok : tr_ok E) (t0 : stat ad h0) (v : vok m one two H L) (h3 : 0 ≤ key) (h4 : key < m 2) {l : Int} (h5 : 2 ≤ l) (h6 : l ≤ 64) : ∀ (n : Nat) (i a : Int) (h : tr_H), i + n = m 106 → 0 ≤ i → 0 ≤ a → a ≤ 40 * i → fr ad pC f0 false h0 h → fis ad h m mk → (∀ x, 0 ≤ x → x < l → gv h (ad 21) x = plb m mk key l x i.toNat) → (∀ h', fr ad pC f0 false h0 h' → fis ad h' m mk → Q (.inl (some (.inl (ii (a + sm (fun a => sm (fun b => b2 (ckb m mk key l a b)) 0 a.toNat) i n))))) h') → tr_G E 4 Q 26 [some (.inr (.inr (ad 3))), some (.inl (ii key)), some (.inl (ii l)), some (.inl (ii a)), some (.inl (ii i)), none] [] h 0 0
  | n, i, a, h, hk, g0, g1, g2, fra, f, pl, q => by
    refine T_X0_clashesBy_26 ok ?_
    have s0 := st_fr t0 fra
    have vm := v_m v
    obtain ⟨e3, e4, e5, e6⟩ := id f
    simp (disch := first | omega | decide | assumption | exact st_ne s0 (by decide) (by decide) (by decide) | exact dyn_ne (by assumption) (by decide) | fail) only [Int.reduceAdd, Int.reduceSub, Int.reduceNeg, ii_add, ii_sub, ii_mul, ii_lt, ii_le, ii_eq, ixn_ii, ixo_ii, rem_ii, nb_1, nb_0, nb_bb, bb_0, hI_gv, Int.toNat_of_nonneg, Int.cast_ofNat_Int, ht_sI, ht_sJ, ht_sR, hn_sI, hn_sJ, hn_sR, hR_sI, hR_sJ, kI_v, kV_v, kJ_v, true_and, and_true, forall_eq, tg, ln, rf, ne_eq, not_false_eq_true, forall_const, not_true_eq_false, false_implies, W_X0_clashesBy_26, st_t s0, e3]
    refine ⟨fun g => ?_, fun g => ?_⟩
    · obtain ⟨n, rfl⟩ : ∃ n', n = n' + 1 := ⟨n - 1, by omega⟩
      obtain ⟨-, e7⟩ := e6 i g0 g
      refine k_isChosenF ok s0 f v g0 g h3 h4 ?_
      have hy := hsh_rg (m := m) (p := i)
      have x1 := Int.emod_nonneg (hsh m i) (by omega : l ≠ 0)
      have x2 := Int.emod_lt_of_pos (hsh m i) (by omega : 0 < l)
      have x3 := pl _ x1 x2
      have x4 := plb_rg m mk key l (hsh m i % l) i.toNat
      have ei : (i + 1).toNat = i.toNat + 1 := by omega
      simp (disch := first | omega | decide | assumption | exact st_ne s0 (by decide) (by decide) (by decide) | exact dyn_ne (by assumption) (by decide) | fail) only [Int.reduceAdd, Int.reduceSub, Int.reduceNeg, ii_add, ii_sub, ii_mul, ii_lt, ii_le, ii_eq, ixn_ii, ixo_ii, rem_ii, nb_1, nb_0, nb_bb, bb_0, hI_gv, Int.toNat_of_nonneg, Int.cast_ofNat_Int, ht_sI, ht_sJ, ht_sR, hn_sI, hn_sJ, hn_sR, hR_sI, hR_sJ, kI_v, kV_v, kJ_v, true_and, and_true, forall_eq, tg, ln, rf, ne_eq, not_false_eq_true, forall_const, not_true_eq_false, false_implies, st_t s0, st_n s0, st_r s0, e7, x3]
      refine ⟨fun g3 => ?_, fun g3 => ?_⟩
      · refine k_clashesByF_26 ok t0 v h3 h4 h5 h6 n (i + 1) _ h (by omega) (by omega) g1 (by omega) fra f (fun x y1 y2 => ?_) (fun h' a1 a2 => ?_)
        · rw [pl x y1 y2, ei]
          unfold plb
          rw [sm_snoc, Int.zero_add, Int.toNat_of_nonneg g0, g3]
          simp [b2]
        · have := q h' a1 a2
          rw [sm_s, ckb_f g3, Int.zero_add] at this
          exact this
      · rw [Bool.not_eq_false] at g3
        refine ⟨by omega, by omega, by omega, by omega, by omega, ?_⟩
        refine k_clashesByF_26 ok t0 v h3 h4 h5 h6 n (i + 1) _ _ (by omega) (by omega) (by omega) (by omega) (fr_sI fra rfl) (fis_21 s0 f) (fun x y1 y2 => ?_) (fun h' a1 a2 => ?_)
        · simp (disch := first | omega | decide | assumption | exact st_ne s0 (by decide) (by decide) (by decide) | exact dyn_ne (by assumption) (by decide) | fail) only [Int.reduceAdd, Int.reduceSub, Int.reduceNeg, ii_add, ii_sub, ii_mul, ii_lt, ii_le, ii_eq, ixn_ii, ixo_ii, rem_ii, nb_1, nb_0, nb_bb, bb_0, hI_gv, Int.toNat_of_nonneg, Int.cast_ofNat_Int, ht_sI, ht_sJ, ht_sR, hn_sI, hn_sJ, hn_sR, hR_sI, hR_sJ, kI_v, kV_v, kJ_v, true_and, and_true, forall_eq, tg, ln, rf, ne_eq, not_false_eq_true, forall_const, not_true_eq_false, false_implies, gv_sIi]
          rw [ei]
          unfold plb
          rw [sm_snoc, Int.zero_add, Int.toNat_of_nonneg g0, g3, Bool.true_and]
          by_cases ex : x = hsh m i % l
          · subst ex
            rw [ud_eq, decide_eq_true rfl]
            rfl
          · rw [ud_ne ex, pl x y1 y2, decide_eq_false (fun e => ex e.symm)]
            unfold plb
            simp [b2]
        · have := q h' a1 a2
          rw [sm_s, ckb_t g3, ← Int.add_assoc] at this
          exact this
    · obtain rfl : n = 0 := by omega
      have := q h fra f
      rw [sm_0, Int.add_zero] at this; exact this
theorem k_clashesByF (ok : tr_ok E) (s0 : stat ad h) (f : fis ad h m mk) (v : vok m one two H L) (h3 : 0 ≤ key) (h4 : key < m 2) {l : Int} (h5 : 2 ≤ l) (h6 : l ≤ 64) (q : ∀ h', fr ad pC f0 false h h' → fis ad h' m mk → Q (.inl (some (.inl (ii (ckl m mk key l))))) h') : tr_C E 4 [.inr (.inr (ad 3)), .inl (ii key), .inl (ii l)] h Q := by
  refine T_X0_clashesBy ok ?_
  have vm := v_m v
  simp (disch := first | omega | decide | assumption | exact st_ne s0 (by decide) (by decide) (by decide) | exact dyn_ne (by assumption) (by decide) | fail) only [Int.reduceAdd, Int.reduceSub, Int.reduceNeg, ii_add, ii_sub, ii_mul, ii_lt, ii_le, ii_eq, ixn_ii, ixo_ii, rem_ii, nb_1, nb_0, nb_bb, bb_0, hI_gv, Int.toNat_of_nonneg, Int.cast_ofNat_Int, ht_sI, ht_sJ, ht_sR, hn_sI, hn_sJ, hn_sR, hR_sI, hR_sJ, kI_v, kV_v, kJ_v, true_and, and_true, forall_eq, tg, ln, rf, ne_eq, not_false_eq_true, forall_const, not_true_eq_false, false_implies, W_X0_clashesBy, st_t s0, st_r s0]
  refine ⟨fun g => by omega, fun g => ⟨fun _ => ?_, fun g => by omega⟩⟩
  refine k_fill ok (st_t s0 (by decide)) (by rw [st_n s0 (by decide)]; decide) ?_
  rw [kV_v, st_n s0 (by decide)]
  refine k_clashesByF_26 ok s0 v h3 h4 h5 h6 (m 106).toNat 0 0 _ (by omega) (by omega) (by omega) (by omega) (fr_fl fr_rfl rfl) (fis_fl s0 f) (fun x y1 y2 => ?_) (fun h' a1 a2 => ?_)
  · rw [gv_fl _ _ _ _ (by decide) (by decide), show (ln 21 : Nat) = 64 from rfl]
    exact if_pos ⟨y1, by omega⟩
  · rw [Int.zero_add]; exact q h' a1 a2
theorem k_isFirst_2 (ok : tr_ok E) (s0 : stat ad h) (f : fis ad h m mk) (v : vok m one two H L) {p : Int} (h1 : 0 ≤ p) (h2 : p < m 106) : ∀ (n : Nat) (o : Int), o + n = p → 0 ≤ o → Q (.inl (some (.inl (bb (al (fun o => decide (mixB m o 0 mk ≠ mixB m p 0 mk)) o n))))) h → tr_G E 6 Q 2 [some (.inr (.inr (ad 3))), some (.inl (ii p)), some (.inl (ii o))] [] h 0 0
  | n, o, hk, g0, q => by
    refine T_X0_isFirstOfItsMix_2 ok ?_
    have vm := v_m v
    have v2 := v_2 v
    obtain ⟨e3, e4, e5, e6⟩ := id f
    simp (disch := first | omega | decide | assumption | exact st_ne s0 (by decide) (by decide) (by decide) | exact dyn_ne (by assumption) (by decide) | fail) only [Int.reduceAdd, Int.reduceSub, Int.reduceNeg, ii_add, ii_sub, ii_mul, ii_lt, ii_le, ii_eq, ixn_ii, ixo_ii, rem_ii, nb_1, nb_0, nb_bb, bb_0, hI_gv, Int.toNat_of_nonneg, Int.cast_ofNat_Int, ht_sI, ht_sJ, ht_sR, hn_sI, hn_sJ, hn_sR, hR_sI, hR_sJ, kI_v, kV_v, kJ_v, true_and, and_true, forall_eq, tg, ln, rf, ne_eq, not_false_eq_true, forall_const, not_true_eq_false, false_implies, W_X0_isFirstOfItsMix_2, st_t s0, st_n s0, st_r s0]
    refine ⟨fun g => ⟨by omega, by omega, ?_⟩, fun g => ?_⟩
    · obtain ⟨n, rfl⟩ : ∃ n', n = n' + 1 := ⟨n - 1, by omega⟩
      obtain ⟨e7, -⟩ := e6 o g0 (by omega)
      obtain ⟨e8, -⟩ := e6 p h1 h2
      have x1 := mixB_rg (p := o) (k := 0) v mk
      have x2 := mixB_rg (p := p) (k := 0) v mk
      unfold al at q
      simp (disch := first | omega | decide | assumption | exact st_ne s0 (by decide) (by decide) (by decide) | exact dyn_ne (by assumption) (by decide) | fail) only [Int.reduceAdd, Int.reduceSub, Int.reduceNeg, ii_add, ii_sub, ii_mul, ii_lt, ii_le, ii_eq, ixn_ii, ixo_ii, rem_ii, nb_1, nb_0, nb_bb, bb_0, hI_gv, Int.toNat_of_nonneg, Int.cast_ofNat_Int, ht_sI, ht_sJ, ht_sR, hn_sI, hn_sJ, hn_sR, hR_sI, hR_sJ, kI_v, kV_v, kJ_v, true_and, and_true, forall_eq, tg, ln, rf, ne_eq, not_false_eq_true, forall_const, not_true_eq_false, false_implies, e7, e8]
      refine ⟨fun g3 => ?_, fun g3 => ?_⟩
      · rw [decide_eq_false (by omega)] at q; exact q
      · rw [decide_eq_true (by omega)] at q
        exact k_isFirst_2 ok s0 f v h1 h2 n (o + 1) (by omega) (by omega) q
    · obtain rfl : n = 0 := by omega
      exact q
theorem k_isFirst (ok : tr_ok E) (s0 : stat ad h) (f : fis ad h m mk) (v : vok m one two H L) {p : Int} (h1 : 0 ≤ p) (h2 : p < m 106) (q : Q (.inl (some (.inl (bb (al (fun o => decide (mixB m o 0 mk ≠ mixB m p 0 mk)) 0 p.toNat))))) h) : tr_C E 6 [.inr (.inr (ad 3)), .inl (ii p)] h Q := by
  refine T_X0_isFirstOfItsMix ok ?_
  exact k_isFirst_2 ok s0 f v h1 h2 p.toNat 0 (by omega) (by omega) q
theorem k_unlikeMixes_4 (ok : tr_ok E) (s0 : stat ad h) (f : fis ad h m mk) (v : vok m one two H L) : ∀ (n : Nat) (i a : Int), i + n = m 106 → 0 ≤ i → 0 ≤ a → a ≤ i → Q (.inl (some (.inl (ii (a + sm (fun p => b2 (al (fun o => decide (mixB m o 0 mk ≠ mixB m p 0 mk)) 0 p.toNat)) i n))))) h → tr_G E 5 Q 4 [some (.inr (.inr (ad 3))), some (.inl (ii a)), some (.inl (ii i))] [] h 0 0
  | n, i, a, hk, g0, g1, g2, q => by
    refine T_X0_unlikeMixes_4 ok ?_
    have vm := v_m v
    simp (disch := first | omega | decide | assumption | exact st_ne s0 (by decide) (by decide) (by decide) | exact dyn_ne (by assumption) (by decide) | fail) only [Int.reduceAdd, Int.reduceSub, Int.reduceNeg, ii_add, ii_sub, ii_mul, ii_lt, ii_le, ii_eq, ixn_ii, ixo_ii, rem_ii, nb_1, nb_0, nb_bb, bb_0, hI_gv, Int.toNat_of_nonneg, Int.cast_ofNat_Int, ht_sI, ht_sJ, ht_sR, hn_sI, hn_sJ, hn_sR, hR_sI, hR_sJ, kI_v, kV_v, kJ_v, true_and, and_true, forall_eq, tg, ln, rf, ne_eq, not_false_eq_true, forall_const, not_true_eq_false, false_implies, W_X0_unlikeMixes_4, st_t s0, f.1]
    refine ⟨fun g => ?_, fun g => ?_⟩
    · obtain ⟨n, rfl⟩ : ∃ n', n = n' + 1 := ⟨n - 1, by omega⟩
      rw [sm_s, ← Int.add_assoc] at q
      refine k_isFirst ok s0 f v g0 g ?_
      simp (disch := first | omega | decide | assumption | exact st_ne s0 (by decide) (by decide) (by decide) | exact dyn_ne (by assumption) (by decide) | fail) only [Int.reduceAdd, Int.reduceSub, Int.reduceNeg, ii_add, ii_sub, ii_mul, ii_lt, ii_le, ii_eq, ixn_ii, ixo_ii, rem_ii, nb_1, nb_0, nb_bb, bb_0, hI_gv, Int.toNat_of_nonneg, Int.cast_ofNat_Int, ht_sI, ht_sJ, ht_sR, hn_sI, hn_sJ, hn_sR, hR_sI, hR_sJ, kI_v, kV_v, kJ_v, true_and, and_true, forall_eq, tg, ln, rf, ne_eq, not_false_eq_true, forall_const, not_true_eq_false, false_implies]
      refine ⟨fun g3 => ?_, fun g3 => ?_⟩
      · refine k_unlikeMixes_4 ok s0 f v n (i + 1) _ (by omega) (by omega) (by omega) (by omega) ?_
        rw [g3] at q; exact q
      · rw [Bool.not_eq_false] at g3
        refine k_unlikeMixes_4 ok s0 f v n (i + 1) _ (by omega) (by omega) (by omega) (by omega) ?_
        rw [g3] at q; exact q
    · obtain rfl : n = 0 := by omega
      rw [sm_0, Int.add_zero] at q; exact q
theorem k_unlikeMixes (ok : tr_ok E) (s0 : stat ad h) (f : fis ad h m mk) (v : vok m one two H L) (q : Q (.inl (some (.inl (ii (unl m mk))))) h) : tr_C E 5 [.inr (.inr (ad 3))] h Q := by
  refine T_X0_unlikeMixes ok ?_
  have vm := v_m v
  refine k_unlikeMixes_4 ok s0 f v (m 106).toNat 0 0 (by omega) (by omega) (by omega) (by omega) ?_
  rw [Int.zero_add]; exact q
end FI2
