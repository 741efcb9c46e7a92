/-! ASKING, GONE ON: bestMask, bestKey, print, unlike -/
theorem mixL_congr {b mk : Int} {g g' : Int → Int} : ∀ (n : Nat) (v f : Int), 0 ≤ f → f + n ≤ 5 → (∀ j, 0 ≤ j → j < 5 → g j = g' j) → mixL b mk g v f n = mixL b mk g' v f n
  | 0, v, f, _, _, _ => rfl
  | n + 1, v, f, h0, h1, hg => by
    unfold mixL
    rw [hg f h0 (by omega)]
    exact mixL_congr n _ (f + 1) (by omega) (by omega) hg
theorem hshL_congr {g g' : Int → Int} : ∀ (n : Nat) (v f : Int), 0 ≤ f → f + n ≤ 4 → (∀ j, 0 ≤ j → j < 5 → g j = g' j) → hshL g v f n = hshL g' v f n
  | 0, v, f, _, _, _ => rfl
  | n + 1, v, f, h0, h1, hg => by
    unfold hshL
    rw [hg f h0 (by omega)]
    exact hshL_congr n _ (f + 1) (by omega) (by omega) hg
theorem mixB_c {m m' : Int → Int} {p k mk : Int} (h2 : m' 2 = m 2) (hf : ∀ w, 0 ≤ w → w < 5 → fd m' p w = fd m p w) : mixB m' p k mk = mixB m p k mk := by
  unfold mixB
  rw [h2]
  refine mixL_congr 5 0 0 (by omega) (by omega) (fun j h0 h1 => ?_)
  unfold fa
  rw [hf j h0 h1, hf 4 (by omega) (by omega)]
theorem hsh_c {m m' : Int → Int} {p : Int} (hf : ∀ w, 0 ≤ w → w < 5 → fd m' p w = fd m p w) : hsh m' p = hsh m p := by
  unfold hsh
  exact hshL_congr 4 0 0 (by omega) (by omega) hf
theorem fd_ud4 {m : Int → Int} {key p w : Int} (h1 : 0 ≤ p) (h2 : 0 ≤ w) : fd (ud m 4 key) p w = fd m p w := ud_ne (by omega)
theorem mixB_u {m : Int → Int} {key p k mk : Int} (h1 : 0 ≤ p) : mixB (ud m 4 key) p k mk = mixB m p k mk := mixB_c (ud_ne (by decide)) (fun w h0 _ => fd_ud4 h1 h0)
theorem hsh_u {m : Int → Int} {key p : Int} (h1 : 0 ≤ p) : hsh (ud m 4 key) p = hsh m p := hsh_c (fun w h0 _ => fd_ud4 h1 h0)
theorem chs_u {m : Int → Int} {key p : Int} (h1 : 0 ≤ p) : chs (ud m 4 key) p 0 = chk m (m 1) key p := by
  unfold chs mixA chk
  rw [mixB_u h1, ud_eq, ud_ne (by decide), ud_ne (by decide), ud_ne (by decide)]
theorem cnt_u {m : Int → Int} {key : Int} : cnt (ud m 4 key) 1 = cnk m (m 1) key := by
  unfold cnt cnk
  rw [ud_ne (by decide : (106 : Int) ≠ 4)]
  refine sm_congr _ _ (fun j h0 _ => ?_)
  rw [if_neg (by decide), if_pos rfl, chs_u h0]
theorem clh_u {m : Int → Int} {key l : Int} : clh (ud m 4 key) l = ckl m (m 1) key l := by
  unfold clh ckl
  rw [ud_ne (by decide : (106 : Int) ≠ 4)]
  refine sm_congr _ _ (fun j h0 _ => ?_)
  refine sm_congr _ _ (fun k h0' _ => ?_)
  unfold clb ckb
  rw [chs_u h0, chs_u h0', hsh_u h0, hsh_u h0']
theorem vok_u {m one two : Int → Int} {H L key : Int} (v : vok m one two H L) (h1 : 0 ≤ key) (h2 : key < m 2) : vok (ud m 4 key) one two H L := by
  obtain ⟨vH, vL, vl, v0, v1, v2, v3, v4, v5, vr, vm, vp⟩ := id v
  have hk : ∀ k, k ≠ 4 → ud m 4 key k = m k := fun k hk => ud_ne hk
  refine ⟨vH, vL, vl, ?_, ?_, ?_, ?_, ?_, ?_, fun k k0 k1 => ?_, ?_, fun p p0 p1 => ?_⟩
  · rw [hk 0 (by omega)]; exact v0
  · rw [hk 1 (by omega)]; exact v1
  · rw [hk 2 (by omega)]; exact v2
  · rw [hk 2 (by omega), hk 3 (by omega)]; exact v3
  · rw [hk 2 (by omega), ud_eq]; exact ⟨h1, h2⟩
  · rw [hk 5 (by omega)]; exact v5
  · rw [hk (6 + k) (by omega)]; exact vr k k0 k1
  · rw [hk 106 (by omega)]; exact vm
  · rw [hk 106 (by omega)] at p1
    have := vp p p0 p1
    unfold pok at this ⊢
    rw [fd_ud4 p0 (by omega), fd_ud4 p0 (by omega), fd_ud4 p0 (by omega), fd_ud4 p0 (by omega), fd_ud4 p0 (by omega), fd_ud4 p0 (by omega), fd_ud4 p0 (by omega)]
    obtain ⟨a0, a1, a2, a3, a4, a5, a6, a7⟩ := this
    refine ⟨a0, a1, a2, a3, a4, a5, a6, fun k k0 k1 => ?_⟩
    unfold lk
    rw [fd_ud4 p0 (by omega)]
    exact a7 k k0 k1
theorem hsI_2 (h : tr_H) (r k : Nat) (a b : Int32) : hsI (hsI h r k a) r k b = hsI h r k b := by
  have : up2 (up2 (hI h) r k a) r k b = up2 (hI h) r k b := by
    funext x y
    unfold up2
    split
    · split <;> rfl
    · rfl
  show (_, _, _, _, _) = (_, _, _, _, _)
  rw [← this]; rfl
theorem hsI_id (h : tr_H) (r k : Nat) : hsI h r k (hI h r k) = h := by
  have : up2 (hI h) r k (hI h r k) = hI h := by
    funext x y
    unfold up2
    split
    · next e =>
      split
      · next e2 => rw [e, e2]
      · rw [e]
    · rfl
  show (_, _, up2 (hI h) r k (hI h r k), _, _) = h
  rw [this]; rfl
theorem jz : jj ((0 : Fin 2).val : Nat) = jj 0 := rfl
theorem jo : jj ((1 : Fin 2).val : Nat) = jj 1 := rfl
def bmL (m : Int → Int) : Int → Int → Int → Nat → Int × Int
  | b, o, _, 0 => (b, o)
  | b, o, k, n + 1 => if unl m k ≤ o then bmL m b o (k + 1) n else bmL m k (unl m k) (k + 1) n
def bm (m : Int → Int) : Int → Int → Nat → Int
  | b, _, 0 => b
  | b, k, n + 1 => if unl m k ≤ unl m b then bm m b (k + 1) n else bm m k (k + 1) n
theorem bmL_bm (m : Int → Int) : ∀ (n : Nat) (b k : Int), bmL m b (unl m b) k n = (bm m b k n, unl m (bm m b k n))
  | 0, b, k => rfl
  | n + 1, b, k => by
    unfold bmL bm
    split
    · exact bmL_bm m n b (k + 1)
    · exact bmL_bm m n k (k + 1)
def bkL (m : Int → Int) (least : Int) : Int → Int → Int → Nat → Int × Int
  | b, o, _, 0 => (b, o)
  | b, o, k, n + 1 => if cnk m (m 1) k < least then bkL m least b o (k + 1) n else if b = -1 ∨ ckl m (m 1) k (m 5) < o then bkL m least k (ckl m (m 1) k (m 5)) (k + 1) n else bkL m least b o (k + 1) n
theorem cnk_rg {m : Int → Int} {mk key : Int} (hm : 0 ≤ m 106) (hm2 : m 106 ≤ 40) : 0 ≤ cnk m mk key ∧ cnk m mk key ≤ 40 := by
  have := sm_rg (f := fun p => b2 (chk m mk key p)) (lo := 0) (hi := 1) (m 106).toNat 0 (fun j h1 h2 => b2_rg _)
  unfold cnk
  constructor <;> omega
theorem ckl_rg {m : Int → Int} {mk key l : Int} (hm : 0 ≤ m 106) (hm2 : m 106 ≤ 40) : 0 ≤ ckl m mk key l ∧ ckl m mk key l ≤ 1600 := by
  unfold ckl
  have := sm_rg (f := fun a => sm (fun b => b2 (ckb m mk key l a b)) 0 a.toNat) (lo := 0) (hi := 40) (m 106).toNat 0 (fun j h1 h2 => by
    have := sm_rg (f := fun b => b2 (ckb m mk key l j b)) (lo := 0) (hi := 1) j.toNat 0 (fun j _ _ => b2_rg _)
    constructor <;> omega)
  constructor <;> omega
section ASK4
variable {E : tr_Env} {ad : Nat → Nat} {h : tr_H} {Q : tr_Q} {m one two : Int → Int} {H L : Int}
def bmS (m : Int → Int) (w : Int) : Int := if w = 0 then bm m 1 2 14 else unl m (bm m 1 2 14)
theorem k_bestMask_25 (ok : tr_ok E) {h0 : tr_H} (c0 : kst ad h0 m one two H L) (v : vok m one two H L) {w : Int} (w1 : 0 ≤ w) (w2 : w ≤ 1) : ∀ (n : Nat) (b o k : Int) (h : tr_H), k + n = 16 → 1 ≤ k → -1 ≤ b → b ≤ 15 → -1 ≤ o → o ≤ 40 → fr ad pC f0 false h0 h → (∀ h', fr ad pC f0 false h0 h' → Q (.inl (some (.inl (ii (if w = 0 then (bmL m b o k n).1 else (bmL m b o k n).2))))) h') → tr_G E 100 Q 25 [some (.inr (.inr (ad 1))), some (.inl (ii w)), some (.inl (ii b)), some (.inl (ii o)), some (.inl (ii k)), none] [] h 0 0
  | n, b, o, k, h, hk, k1, b1, b2, o1, o2, a, q => by
    refine T_X7_bestMask_25 ok ?_
    have c := kst_fr c0 a pC_lt
    have s0 := c.1
    have vm := v_m v
    have hc := unl_rg (mk := k) vm.1 vm.2
    simp (disch := first | omega | decide | assumption | exact st_ne s0 (by decide) (by decide) (by decide) | exact dyn_ne (by assumption) (by decide) | fail) only [Int.reduceAdd, Int.reduceSub, Int.reduceNeg, ii_add, ii_sub, ii_mul, ii_lt, ii_le, ii_eq, ixn_ii, ixo_ii, rem_ii, nb_1, nb_0, nb_bb, bb_0, hI_gv, Int.toNat_of_nonneg, Int.cast_ofNat_Int, ht_sI, ht_sJ, ht_sR, hn_sI, hn_sJ, hn_sR, hR_sI, hR_sJ, kI_v, kV_v, kJ_v, true_and, and_true, forall_eq, tg, ln, rf, ne_eq, not_false_eq_true, forall_const, not_true_eq_false, false_implies, W_X7_bestMask_25, st_t s0, st_r s0]
    refine ⟨fun g => ?_, fun g => ?_⟩
    · obtain ⟨n, rfl⟩ : ∃ n', n = n' + 1 := ⟨n - 1, by omega⟩
      refine k_gatherF ok s0 c.2 v (by omega) (by omega) (fun h1 a1 f => ?_)
      have t0 := st_fr s0 a1
      unfold bmL at q
      simp (disch := first | omega | decide | assumption | exact st_ne s0 (by decide) (by decide) (by decide) | exact dyn_ne (by assumption) (by decide) | fail) only [Int.reduceAdd, Int.reduceSub, Int.reduceNeg, ii_add, ii_sub, ii_mul, ii_lt, ii_le, ii_eq, ixn_ii, ixo_ii, rem_ii, nb_1, nb_0, nb_bb, bb_0, hI_gv, Int.toNat_of_nonneg, Int.cast_ofNat_Int, ht_sI, ht_sJ, ht_sR, hn_sI, hn_sJ, hn_sR, hR_sI, hR_sJ, kI_v, kV_v, kJ_v, true_and, and_true, forall_eq, tg, ln, rf, ne_eq, not_false_eq_true, forall_const, not_true_eq_false, false_implies, st_t t0, st_r t0]
      refine k_unlikeMixes ok t0 f v ?_
      simp (disch := first | omega | decide | assumption | exact st_ne s0 (by decide) (by decide) (by decide) | exact dyn_ne (by assumption) (by decide) | fail) only [Int.reduceAdd, Int.reduceSub, Int.reduceNeg, ii_add, ii_sub, ii_mul, ii_lt, ii_le, ii_eq, ixn_ii, ixo_ii, rem_ii, nb_1, nb_0, nb_bb, bb_0, hI_gv, Int.toNat_of_nonneg, Int.cast_ofNat_Int, ht_sI, ht_sJ, ht_sR, hn_sI, hn_sJ, hn_sR, hR_sI, hR_sJ, kI_v, kV_v, kJ_v, true_and, and_true, forall_eq, tg, ln, rf, ne_eq, not_false_eq_true, forall_const, not_true_eq_false, false_implies]
      refine ⟨fun g2 => ?_, fun g2 => ?_⟩
      · rw [if_pos g2] at q
        exact k_bestMask_25 ok c0 v w1 w2 n b o (k + 1) h1 (by omega) (by omega) b1 b2 o1 o2 (fr_tr a a1) q
      · rw [if_neg g2] at q
        exact k_bestMask_25 ok c0 v w1 w2 n k _ (k + 1) h1 (by omega) (by omega) (by omega) (by omega) (by omega) (by omega) (fr_tr a a1) q
    · obtain rfl : n = 0 := by omega
      have hq := q h a
      unfold bmL at hq
      refine ⟨fun g2 => ?_, fun g2 => ?_⟩
      · rw [if_pos g2] at hq; exact hq
      · rw [if_neg g2] at hq; exact hq
theorem K_bestMask (ok : tr_ok E) (c : kst ad h m one two H L) (v : vok m one two H L) {w : Int} (h3 : -2147483648 ≤ w) (h4 : w ≤ 2147483647) (q : 0 ≤ w ∧ w ≤ 1 → ∀ h', fr ad pC f0 false h h' → Q (.inl (some (.inl (ii (bmS m w))))) h') (r : ¬ (0 ≤ w ∧ w ≤ 1) → Q (.inr 1) (rfz ad h 1)) : tr_C E 100 [.inr (.inr (ad 1)), .inl (ii w)] h Q := by
  refine T_X7_bestMask ok ?_
  have s0 := c.1
  have vm := v_m v
  have hc := unl_rg (mk := 1) vm.1 vm.2
  have key : 0 ≤ w ∧ w ≤ 1 → tr_G E 100 Q 25 [some (.inr (.inr (ad 1))), some (.inl (ii w)), some (.inl (ii (-1))), some (.inl (ii (-1))), some (.inl (ii 1)), none] [] h 0 0 := by
    intro g
    refine k_bestMask_25 ok c v g.1 g.2 15 (-1) (-1) 1 h (by omega) (by omega) (by omega) (by omega) (by omega) (by omega) fr_rfl (fun h' a => ?_)
    have hq := q g h' a
    have e : bmL m (-1) (-1) 1 15 = bmL m 1 (unl m 1) 2 14 := by
      show (if unl m 1 ≤ -1 then _ else _) = _
      rw [if_neg (by omega)]
      rfl
    rw [e, bmL_bm]
    exact hq
  simp (disch := first | omega | decide | assumption | exact st_ne s0 (by decide) (by decide) (by decide) | exact dyn_ne (by assumption) (by decide) | fail) only [Int.reduceAdd, Int.reduceSub, Int.reduceNeg, ii_add, ii_sub, ii_mul, ii_lt, ii_le, ii_eq, ixn_ii, ixo_ii, rem_ii, nb_1, nb_0, nb_bb, bb_0, hI_gv, Int.toNat_of_nonneg, Int.cast_ofNat_Int, ht_sI, ht_sJ, ht_sR, hn_sI, hn_sJ, hn_sR, hR_sI, hR_sJ, kI_v, kV_v, kJ_v, true_and, and_true, forall_eq, tg, ln, rf, ne_eq, not_false_eq_true, forall_const, not_true_eq_false, false_implies, W_X7_bestMask, st_t s0]
  refine ⟨fun g => k_req1 ok ?_, fun g => ⟨fun g2 => k_req1 ok ?_, fun g2 => k_req0 ok s0 (r (by omega))⟩⟩
  · exact key (by omega)
  · exact key (by omega)
theorem c_bestMask_26 (ok : tr_ok E) (s : mst ad h m one two H L) (v : vok m one two H L) {w : Int} (w1 : 0 ≤ w) (w2 : w ≤ 1) : ∀ (n : Nat) (b k : Int), k + n = 16 → 1 ≤ k → 1 ≤ b → b ≤ 15 → Q (.inl (some (.inl (ii (if w = 0 then bm m b k n else unl m (bm m b k n)))))) h → tr_G E 203 Q 26 [some (.inr (.inr (ad 23))), some (.inl (ii w)), some (.inl (ii b)), some (.inl (ii k))] [] h 0 0
  | n, b, k, hk, k1, b1, b2, q => by
    refine T_X8_bestMask_26 ok ?_
    have vm := v_m v
    have hc := unl_rg (mk := k) vm.1 vm.2
    have hb := unl_rg (mk := b) vm.1 vm.2
    simp (disch := first | omega | decide | assumption | exact st_ne s0 (by decide) (by decide) (by decide) | exact dyn_ne (by assumption) (by decide) | fail) only [Int.reduceAdd, Int.reduceSub, Int.reduceNeg, ii_add, ii_sub, ii_mul, ii_lt, ii_le, ii_eq, ixn_ii, ixo_ii, rem_ii, nb_1, nb_0, nb_bb, bb_0, hI_gv, Int.toNat_of_nonneg, Int.cast_ofNat_Int, ht_sI, ht_sJ, ht_sR, hn_sI, hn_sJ, hn_sR, hR_sI, hR_sJ, kI_v, kV_v, kJ_v, true_and, and_true, forall_eq, tg, ln, rf, ne_eq, not_false_eq_true, forall_const, not_true_eq_false, false_implies, W_X8_bestMask_26, st_t s.1]
    refine ⟨fun g => ?_, fun g => ?_⟩
    · obtain ⟨n, rfl⟩ : ∃ n', n = n' + 1 := ⟨n - 1, by omega⟩
      unfold bm at q
      refine c_unlikeBy ok s v (by omega) (by omega) ?_
      simp (disch := first | omega | decide | assumption | exact st_ne s0 (by decide) (by decide) (by decide) | exact dyn_ne (by assumption) (by decide) | fail) only [Int.reduceAdd, Int.reduceSub, Int.reduceNeg, ii_add, ii_sub, ii_mul, ii_lt, ii_le, ii_eq, ixn_ii, ixo_ii, rem_ii, nb_1, nb_0, nb_bb, bb_0, hI_gv, Int.toNat_of_nonneg, Int.cast_ofNat_Int, ht_sI, ht_sJ, ht_sR, hn_sI, hn_sJ, hn_sR, hR_sI, hR_sJ, kI_v, kV_v, kJ_v, true_and, and_true, forall_eq, tg, ln, rf, ne_eq, not_false_eq_true, forall_const, not_true_eq_false, false_implies, st_t s.1]
      refine c_unlikeBy ok s v (by omega) (by omega) ?_
      simp (disch := first | omega | decide | assumption | exact st_ne s0 (by decide) (by decide) (by decide) | exact dyn_ne (by assumption) (by decide) | fail) only [Int.reduceAdd, Int.reduceSub, Int.reduceNeg, ii_add, ii_sub, ii_mul, ii_lt, ii_le, ii_eq, ixn_ii, ixo_ii, rem_ii, nb_1, nb_0, nb_bb, bb_0, hI_gv, Int.toNat_of_nonneg, Int.cast_ofNat_Int, ht_sI, ht_sJ, ht_sR, hn_sI, hn_sJ, hn_sR, hR_sI, hR_sJ, kI_v, kV_v, kJ_v, true_and, and_true, forall_eq, tg, ln, rf, ne_eq, not_false_eq_true, forall_const, not_true_eq_false, false_implies]
      refine ⟨fun g2 => ?_, fun g2 => ?_⟩
      · rw [if_pos g2] at q
        exact c_bestMask_26 ok s v w1 w2 n b (k + 1) (by omega) (by omega) b1 b2 q
      · rw [if_neg g2] at q
        exact c_bestMask_26 ok s v w1 w2 n k (k + 1) (by omega) (by omega) (by omega) (by omega) q
    · obtain rfl : n = 0 := by omega
      unfold bm at q
      refine ⟨fun g2 => ?_, fun g2 => ?_⟩
      · rw [if_pos g2] at q; exact q
      · rw [if_neg g2] at q
        refine c_unlikeBy ok s v (by omega) (by omega) ?_
        exact q
theorem M_bestMask (ok : tr_ok E) (s : mst ad h m one two H L) (v : vok m one two H L) {w : Int} (h3 : -2147483648 ≤ w) (h4 : w ≤ 2147483647) (q : 0 ≤ w ∧ w ≤ 1 → ∀ h', mpo ad h 0 0 h' → Q (.inl (some (.inl (ii (bmS m w))))) h') (r : ¬ (0 ≤ w ∧ w ≤ 1) → ∀ h', mpo ad h 1 1 h' → Q (.inl (some (.inl (ii 0)))) h') : tr_C E 203 [.inr (.inr (ad 23)), .inl (ii w)] h Q := by
  refine T_X8_bestMask ok ?_
  have ms := m_start s.1
  have s1 := mst_q s ms.1
  simp (disch := first | omega | decide | assumption | exact st_ne s0 (by decide) (by decide) (by decide) | exact dyn_ne (by assumption) (by decide) | fail) only [Int.reduceAdd, Int.reduceSub, Int.reduceNeg, ii_add, ii_sub, ii_mul, ii_lt, ii_le, ii_eq, ixn_ii, ixo_ii, rem_ii, nb_1, nb_0, nb_bb, bb_0, hI_gv, Int.toNat_of_nonneg, Int.cast_ofNat_Int, ht_sI, ht_sJ, ht_sR, hn_sI, hn_sJ, hn_sR, hR_sI, hR_sJ, kI_v, kV_v, kJ_v, true_and, and_true, forall_eq, tg, ln, rf, ne_eq, not_false_eq_true, forall_const, not_true_eq_false, false_implies, W_X8_bestMask, st_t s.1]
  refine c_within ok h3 h4 (by omega) (by omega) (by omega) (by omega) ?_
  simp (disch := first | omega | decide | assumption | exact st_ne s0 (by decide) (by decide) (by decide) | exact dyn_ne (by assumption) (by decide) | fail) only [Int.reduceAdd, Int.reduceSub, Int.reduceNeg, ii_add, ii_sub, ii_mul, ii_lt, ii_le, ii_eq, ixn_ii, ixo_ii, rem_ii, nb_1, nb_0, nb_bb, bb_0, hI_gv, Int.toNat_of_nonneg, Int.cast_ofNat_Int, ht_sI, ht_sJ, ht_sR, hn_sI, hn_sJ, hn_sR, hR_sI, hR_sJ, kI_v, kV_v, kJ_v, true_and, and_true, forall_eq, tg, ln, rf, ne_eq, not_false_eq_true, forall_const, not_true_eq_false, false_implies, st_t s.1]
  refine c_fineb ok s.1 ms (by omega) (by omega) (by omega) (by omega) (fun g => ?_) (fun g h' p => ?_)
  · rw [decide_eq_true_eq] at g
    simp (disch := first | omega | decide | assumption | exact st_ne s0 (by decide) (by decide) (by decide) | exact dyn_ne (by assumption) (by decide) | fail) only [Int.reduceAdd, Int.reduceSub, Int.reduceNeg, ii_add, ii_sub, ii_mul, ii_lt, ii_le, ii_eq, ixn_ii, ixo_ii, rem_ii, nb_1, nb_0, nb_bb, bb_0, hI_gv, Int.toNat_of_nonneg, Int.cast_ofNat_Int, ht_sI, ht_sJ, ht_sR, hn_sI, hn_sJ, hn_sR, hR_sI, hR_sJ, kI_v, kV_v, kJ_v, true_and, and_true, forall_eq, tg, ln, rf, ne_eq, not_false_eq_true, forall_const, not_true_eq_false, false_implies, Int.reduceEq, Int.reduceLT, Int.reduceLE, implies_true, and_self, reduceCtorEq, false_and,]
    exact c_bestMask_26 ok s1 v g.1 g.2 14 1 2 (by omega) (by omega) (by omega) (by omega) (q g _ ms)
  · rw [decide_eq_false_iff_not] at g
    simp (disch := first | omega | decide | assumption | exact st_ne s0 (by decide) (by decide) (by decide) | exact dyn_ne (by assumption) (by decide) | fail) only [Int.reduceAdd, Int.reduceSub, Int.reduceNeg, ii_add, ii_sub, ii_mul, ii_lt, ii_le, ii_eq, ixn_ii, ixo_ii, rem_ii, nb_1, nb_0, nb_bb, bb_0, hI_gv, Int.toNat_of_nonneg, Int.cast_ofNat_Int, ht_sI, ht_sJ, ht_sR, hn_sI, hn_sJ, hn_sR, hR_sI, hR_sJ, kI_v, kV_v, kJ_v, true_and, and_true, forall_eq, tg, ln, rf, ne_eq, not_false_eq_true, forall_const, not_true_eq_false, false_implies, Int.reduceEq, Int.reduceLT, Int.reduceLE, implies_true, and_self, reduceCtorEq, false_and,]
    exact r g h' p
def bkS (m : Int → Int) (least w : Int) : Int := if w = 0 then (bkL m least (-1) (-1) 0 (m 2).toNat).1 else (bkL m least (-1) (-1) 0 (m 2).toNat).2
theorem k_bestKey_68 (ok : tr_ok E) {h0 : tr_H} (c0 : kst ad h0 m one two H L) (v : vok m one two H L) {e w : Int} (e1 : 0 ≤ e) (e2 : e ≤ 40) (w1 : 0 ≤ w) (w2 : w ≤ 1) : ∀ (n : Nat) (b o k : Int) (h : tr_H), k + n = m 2 → 0 ≤ k → -1 ≤ b → b ≤ 1000 → -1 ≤ o → o ≤ 1600 → fr ad pC f0 false h0 h → fis ad h m (m 1) → (∀ h', fr ad pC f0 false h0 h' → Q (.inl (some (.inl (ii (if w = 0 then (bkL m e b o k n).1 else (bkL m e b o k n).2))))) h') → tr_G E 99 Q 68 [some (.inr (.inr (ad 1))), some (.inl (ii e)), some (.inl (ii w)), some (.inl (ii b)), some (.inl (ii o)), some (.inl (ii k)), none] [] h 0 0
  | n, b, o, k, h, hk, k1, b1, b2, o1, o2, a, f, q => by
    refine T_X7_bestKey_68 ok ?_
    have c := kst_fr c0 a pC_lt
    have s0 := c.1
    obtain ⟨d0, n', d2, d3, d4, d5⟩ := id c.2
    obtain ⟨n0, n1, n2, -, -, -, -, ⟨ga, gb, g0, g1, g2, g3, g4⟩, nd⟩ := id n'
    obtain ⟨vH, vL, vl, v0, v1, v2, v3, v4, v5, vr, vm, vp⟩ := id v
    have hc := cnk_rg (mk := m 1) (key := k) vm.1 vm.2
    have hl := ckl_rg (mk := m 1) (key := k) (l := m 5) vm.1 vm.2
    simp (disch := first | omega | decide | assumption | exact st_ne s0 (by decide) (by decide) (by decide) | exact dyn_ne (by assumption) (by decide) | fail) only [Int.reduceAdd, Int.reduceSub, Int.reduceNeg, ii_add, ii_sub, ii_mul, ii_lt, ii_le, ii_eq, ixn_ii, ixo_ii, rem_ii, nb_1, nb_0, nb_bb, bb_0, hI_gv, Int.toNat_of_nonneg, Int.cast_ofNat_Int, ht_sI, ht_sJ, ht_sR, hn_sI, hn_sJ, hn_sR, hR_sI, hR_sJ, kI_v, kV_v, kJ_v, true_and, and_true, forall_eq, tg, ln, rf, ne_eq, not_false_eq_true, forall_const, not_true_eq_false, false_implies, W_X7_bestKey_68, st_t s0, st_r s0, d0, n0, ga, gb, g1]
    refine ⟨by omega, fun g => ?_, fun g => ?_⟩
    · obtain ⟨n, rfl⟩ : ∃ n', n = n' + 1 := ⟨n - 1, by omega⟩
      unfold bkL at q
      refine k_chosenByF ok s0 f v (by omega) (by omega) ?_
      simp (disch := first | omega | decide | assumption | exact st_ne s0 (by decide) (by decide) (by decide) | exact dyn_ne (by assumption) (by decide) | fail) only [Int.reduceAdd, Int.reduceSub, Int.reduceNeg, ii_add, ii_sub, ii_mul, ii_lt, ii_le, ii_eq, ixn_ii, ixo_ii, rem_ii, nb_1, nb_0, nb_bb, bb_0, hI_gv, Int.toNat_of_nonneg, Int.cast_ofNat_Int, ht_sI, ht_sJ, ht_sR, hn_sI, hn_sJ, hn_sR, hR_sI, hR_sJ, kI_v, kV_v, kJ_v, true_and, and_true, forall_eq, tg, ln, rf, ne_eq, not_false_eq_true, forall_const, not_true_eq_false, false_implies, st_t s0, st_r s0, d0, n0, ga, gb, g4]
      refine ⟨fun g2 => ?_, fun g2 => ⟨by omega, ?_⟩⟩
      · rw [if_pos g2] at q
        exact k_bestKey_68 ok c0 v e1 e2 w1 w2 n b o (k + 1) h (by omega) (by omega) b1 b2 o1 o2 a f q
      · rw [if_neg g2] at q
        refine k_clashesByF ok s0 f v (by omega) (by omega) (by omega) (by omega) (fun h2 a2 f2 => ?_)
        simp (disch := first | omega | decide | assumption | exact st_ne s0 (by decide) (by decide) (by decide) | exact dyn_ne (by assumption) (by decide) | fail) only [Int.reduceAdd, Int.reduceSub, Int.reduceNeg, ii_add, ii_sub, ii_mul, ii_lt, ii_le, ii_eq, ixn_ii, ixo_ii, rem_ii, nb_1, nb_0, nb_bb, bb_0, hI_gv, Int.toNat_of_nonneg, Int.cast_ofNat_Int, ht_sI, ht_sJ, ht_sR, hn_sI, hn_sJ, hn_sR, hR_sI, hR_sJ, kI_v, kV_v, kJ_v, true_and, and_true, forall_eq, tg, ln, rf, ne_eq, not_false_eq_true, forall_const, not_true_eq_false, false_implies]
        refine ⟨fun g3 => ?_, fun g3 => ⟨fun g4 => ?_, fun g4 => ?_⟩⟩
        · rw [if_pos (show b = -1 ∨ ckl m (m 1) k (m 5) < o by omega)] at q
          exact k_bestKey_68 ok c0 v e1 e2 w1 w2 n k _ (k + 1) h2 (by omega) (by omega) (by omega) (by omega) (by omega) (by omega) (fr_tr a a2) f2 q
        · rw [if_pos (show b = -1 ∨ ckl m (m 1) k (m 5) < o by omega)] at q
          exact k_bestKey_68 ok c0 v e1 e2 w1 w2 n k _ (k + 1) h2 (by omega) (by omega) (by omega) (by omega) (by omega) (by omega) (fr_tr a a2) f2 q
        · rw [if_neg (show ¬ (b = -1 ∨ ckl m (m 1) k (m 5) < o) by omega)] at q
          exact k_bestKey_68 ok c0 v e1 e2 w1 w2 n b o (k + 1) h2 (by omega) (by omega) b1 b2 o1 o2 (fr_tr a a2) f2 q
    · obtain rfl : n = 0 := by omega
      have hq := q h a
      unfold bkL at hq
      refine ⟨fun g2 => ?_, fun g2 => ?_⟩
      · rw [if_pos g2] at hq; exact hq
      · rw [if_neg g2] at hq; exact hq
theorem K_bestKey (ok : tr_ok E) (c : kst ad h m one two H L) (v : vok m one two H L) {e w : Int} (h3 : -2147483648 ≤ w) (h4 : w ≤ 2147483647) (h5 : -2147483648 ≤ e) (h6 : e ≤ 2147483647) (q : (0 ≤ e ∧ e ≤ 40) ∧ (0 ≤ w ∧ w ≤ 1) → ∀ h', fr ad pC f0 false h h' → Q (.inl (some (.inl (ii (bkS m e w))))) h') (r : ¬ ((0 ≤ e ∧ e ≤ 40) ∧ (0 ≤ w ∧ w ≤ 1)) → Q (.inr 1) (rfz ad h 1)) : tr_C E 99 [.inr (.inr (ad 1)), .inl (ii e), .inl (ii w)] h Q := by
  refine T_X7_bestKey ok ?_
  have s0 := c.1
  obtain ⟨c0, n, c2, c3, c4, c5⟩ := id c.2
  obtain ⟨n0, n1, n2, ⟨sa, sb, sc⟩, ⟨ea, eb, ec⟩, ⟨ua, ub, uc⟩, ⟨ra, rb, rc⟩, ⟨ga, gb, g0, g1, g2, g3, g4⟩, nd⟩ := id n
  obtain ⟨vH, vL, vl, v0, v1, v2, v3, v4, v5, vr, vm, vp⟩ := id v
  have key : (0 ≤ e ∧ e ≤ 40) ∧ (0 ≤ w ∧ w ≤ 1) → tr_G E 99 Q 34 [some (.inr (.inr (ad 1))), some (.inl (ii e)), some (.inl (ii w)), none, none, none, none] [.inl (ii 1), .inr (.inr (ad 1))] h 1 6 := by
    intro g
    refine T_X7_bestKey_34 ok ?_
    simp (disch := first | omega | decide | assumption | exact st_ne s0 (by decide) (by decide) (by decide) | exact dyn_ne (by assumption) (by decide) | fail) only [Int.reduceAdd, Int.reduceSub, Int.reduceNeg, ii_add, ii_sub, ii_mul, ii_lt, ii_le, ii_eq, ixn_ii, ixo_ii, rem_ii, nb_1, nb_0, nb_bb, bb_0, hI_gv, Int.toNat_of_nonneg, Int.cast_ofNat_Int, ht_sI, ht_sJ, ht_sR, hn_sI, hn_sJ, hn_sR, hR_sI, hR_sJ, kI_v, kV_v, kJ_v, true_and, and_true, forall_eq, tg, ln, rf, ne_eq, not_false_eq_true, forall_const, not_true_eq_false, false_implies, W_X7_bestKey_34, st_t s0]
    refine k_req1 ok ?_
    simp (disch := first | omega | decide | assumption | exact st_ne s0 (by decide) (by decide) (by decide) | exact dyn_ne (by assumption) (by decide) | fail) only [Int.reduceAdd, Int.reduceSub, Int.reduceNeg, ii_add, ii_sub, ii_mul, ii_lt, ii_le, ii_eq, ixn_ii, ixo_ii, rem_ii, nb_1, nb_0, nb_bb, bb_0, hI_gv, Int.toNat_of_nonneg, Int.cast_ofNat_Int, ht_sI, ht_sJ, ht_sR, hn_sI, hn_sJ, hn_sR, hR_sI, hR_sJ, kI_v, kV_v, kJ_v, true_and, and_true, forall_eq, tg, ln, rf, ne_eq, not_false_eq_true, forall_const, not_true_eq_false, false_implies, st_t s0, st_r s0, c0, n0, ga, gb, g0]
    refine ⟨by omega, k_gatherF ok s0 c.2 v (by omega) (by omega) (fun h1 a f => ?_)⟩
    simp (disch := first | omega | decide | assumption | exact st_ne s0 (by decide) (by decide) (by decide) | exact dyn_ne (by assumption) (by decide) | fail) only [Int.reduceAdd, Int.reduceSub, Int.reduceNeg, ii_add, ii_sub, ii_mul, ii_lt, ii_le, ii_eq, ixn_ii, ixo_ii, rem_ii, nb_1, nb_0, nb_bb, bb_0, hI_gv, Int.toNat_of_nonneg, Int.cast_ofNat_Int, ht_sI, ht_sJ, ht_sR, hn_sI, hn_sJ, hn_sR, hR_sI, hR_sJ, kI_v, kV_v, kJ_v, true_and, and_true, forall_eq, tg, ln, rf, ne_eq, not_false_eq_true, forall_const, not_true_eq_false, false_implies]
    exact k_bestKey_68 ok c v g.1.1 g.1.2 g.2.1 g.2.2 (m 2).toNat (-1) (-1) 0 h1 (by omega) (by omega) (by omega) (by omega) (by omega) (by omega) a f (q g)
  have bad : ¬ ((0 ≤ e ∧ e ≤ 40) ∧ (0 ≤ w ∧ w ≤ 1)) → tr_G E 99 Q 34 [some (.inr (.inr (ad 1))), some (.inl (ii e)), some (.inl (ii w)), none, none, none, none] [.inl (ii 0), .inr (.inr (ad 1))] h 1 6 := by
    intro g
    refine T_X7_bestKey_34 ok ?_
    simp (disch := first | omega | decide | assumption | exact st_ne s0 (by decide) (by decide) (by decide) | exact dyn_ne (by assumption) (by decide) | fail) only [Int.reduceAdd, Int.reduceSub, Int.reduceNeg, ii_add, ii_sub, ii_mul, ii_lt, ii_le, ii_eq, ixn_ii, ixo_ii, rem_ii, nb_1, nb_0, nb_bb, bb_0, hI_gv, Int.toNat_of_nonneg, Int.cast_ofNat_Int, ht_sI, ht_sJ, ht_sR, hn_sI, hn_sJ, hn_sR, hR_sI, hR_sJ, kI_v, kV_v, kJ_v, true_and, and_true, forall_eq, tg, ln, rf, ne_eq, not_false_eq_true, forall_const, not_true_eq_false, false_implies, W_X7_bestKey_34, st_t s0]
    exact k_req0 ok s0 (r g)
  simp (disch := first | omega | decide | assumption | exact st_ne s0 (by decide) (by decide) (by decide) | exact dyn_ne (by assumption) (by decide) | fail) only [Int.reduceAdd, Int.reduceSub, Int.reduceNeg, ii_add, ii_sub, ii_mul, ii_lt, ii_le, ii_eq, ixn_ii, ixo_ii, rem_ii, nb_1, nb_0, nb_bb, bb_0, hI_gv, Int.toNat_of_nonneg, Int.cast_ofNat_Int, ht_sI, ht_sJ, ht_sR, hn_sI, hn_sJ, hn_sR, hR_sI, hR_sJ, kI_v, kV_v, kJ_v, true_and, and_true, forall_eq, tg, ln, rf, ne_eq, not_false_eq_true, forall_const, not_true_eq_false, false_implies, W_X7_bestKey, st_t s0]
  refine ⟨fun g => k_req0 ok s0 (r (by omega)), fun g => ⟨fun g2 => k_req1 ok ?_, fun g2 => k_req0 ok s0 (r (by omega))⟩⟩
  simp (disch := first | omega | decide | assumption | exact st_ne s0 (by decide) (by decide) (by decide) | exact dyn_ne (by assumption) (by decide) | fail) only [Int.reduceAdd, Int.reduceSub, Int.reduceNeg, ii_add, ii_sub, ii_mul, ii_lt, ii_le, ii_eq, ixn_ii, ixo_ii, rem_ii, nb_1, nb_0, nb_bb, bb_0, hI_gv, Int.toNat_of_nonneg, Int.cast_ofNat_Int, ht_sI, ht_sJ, ht_sR, hn_sI, hn_sJ, hn_sR, hR_sI, hR_sJ, kI_v, kV_v, kJ_v, true_and, and_true, forall_eq, tg, ln, rf, ne_eq, not_false_eq_true, forall_const, not_true_eq_false, false_implies]
  refine ⟨fun g3 => key (by omega), fun g3 => ⟨fun g4 => key (by omega), fun g4 => bad (by omega)⟩⟩
theorem c_bestKey_56 (ok : tr_ok E) (s : mst ad h m one two H L) (v : vok m one two H L) {e w : Int} (e1 : 0 ≤ e) (e2 : e ≤ 40) (w1 : 0 ≤ w) (w2 : w ≤ 1) : ∀ (n : Nat) (b o k y : Int), k + n = m 2 → 0 ≤ k → -1 ≤ b → b ≤ 1000 → -1 ≤ o → o ≤ 1600 → 0 ≤ y → y < m 2 → Q (.inl (some (.inl (ii (if w = 0 then (bkL m e b o k n).1 else (bkL m e b o k n).2))))) h → tr_G E 201 Q 56 [some (.inr (.inr (ad 23))), some (.inl (ii e)), some (.inl (ii w)), some (.inl (ii (m 4))), some (.inl (ii b)), some (.inl (ii o)), some (.inl (ii k)), none] [] (hsI h (ad 25) 4 (ii y)) 0 0
  | n, b, o, k, y, hk, k1, b1, b2, o1, o2, y1, y2, q => by
    refine T_X8_bestKey_56 ok ?_
    have s0 := s.1
    obtain ⟨vH, vL, vl, v0, v1, v2, v3, v4, v5, vr, vm, vp⟩ := id v
    obtain ⟨-, em, -⟩ := id s
    have hc := cnk_rg (mk := m 1) (key := k) vm.1 vm.2
    have hl := ckl_rg (mk := m 1) (key := k) (l := m 5) vm.1 vm.2
    have x2 : ud m 4 y 2 = m 2 := ud_ne (by decide)
    have x5 : ud m 4 k 5 = m 5 := ud_ne (by decide)
    have x4 : ((4 : Nat) : Int) = 4 := rfl
    have e3 : (4 : Int).toNat = 4 := rfl
    simp (disch := first | omega | decide | assumption | exact st_ne s0 (by decide) (by decide) (by decide) | exact dyn_ne (by assumption) (by decide) | fail) only [Int.reduceAdd, Int.reduceSub, Int.reduceNeg, ii_add, ii_sub, ii_mul, ii_lt, ii_le, ii_eq, ixn_ii, ixo_ii, rem_ii, nb_1, nb_0, nb_bb, bb_0, hI_gv, Int.toNat_of_nonneg, Int.cast_ofNat_Int, ht_sI, ht_sJ, ht_sR, hn_sI, hn_sJ, hn_sR, hR_sI, hR_sJ, kI_v, kV_v, kJ_v, true_and, and_true, forall_eq, tg, ln, rf, ne_eq, not_false_eq_true, forall_const, not_true_eq_false, false_implies, W_X8_bestKey_56, st_t s0, st_n s0, st_r s0, gv_sIi, em, x4, x2, e3, hsI_2]
    refine ⟨by omega, fun g => ⟨by omega, ?_⟩, fun g => ⟨by omega, ?_⟩⟩
    · obtain ⟨n, rfl⟩ : ∃ n', n = n' + 1 := ⟨n - 1, by omega⟩
      unfold bkL at q
      have sk : mst ad (hsI h (ad 25) 4 (ii k)) (ud m 4 k) one two H L := by
        obtain ⟨t0, tm, t1, t2, t3, t4⟩ := s
        refine ⟨t0, ?_, ?_, ?_, ?_, ?_⟩
        · rw [gv_sIi (by omega) (by omega), tm]; rfl
        · rw [gv_sIn (st_ne t0 (by decide) (by decide) (by decide))]; exact t1
        · rw [gv_sIn (st_ne t0 (by decide) (by decide) (by decide))]; exact t2
        · rw [gv_sIn (st_ne t0 (by decide) (by decide) (by decide))]; exact t3
        · rw [gv_sIn (st_ne t0 (by decide) (by decide) (by decide))]; exact t4
      have vk := vok_u v k1 g
      refine c_counted ok sk vk (by omega) (by omega) ?_
      rw [cnt_u]
      simp (disch := first | omega | decide | assumption | exact st_ne s0 (by decide) (by decide) (by decide) | exact dyn_ne (by assumption) (by decide) | fail) only [Int.reduceAdd, Int.reduceSub, Int.reduceNeg, ii_add, ii_sub, ii_mul, ii_lt, ii_le, ii_eq, ixn_ii, ixo_ii, rem_ii, nb_1, nb_0, nb_bb, bb_0, hI_gv, Int.toNat_of_nonneg, Int.cast_ofNat_Int, ht_sI, ht_sJ, ht_sR, hn_sI, hn_sJ, hn_sR, hR_sI, hR_sJ, kI_v, kV_v, kJ_v, true_and, and_true, forall_eq, tg, ln, rf, ne_eq, not_false_eq_true, forall_const, not_true_eq_false, false_implies, st_t s0, st_n s0, st_r s0, gv_sIi, em, x4, x5]
      refine ⟨fun g2 => ?_, fun g2 => ⟨by omega, ?_⟩⟩
      · rw [if_pos g2] at q
        exact c_bestKey_56 ok s v e1 e2 w1 w2 n b o (k + 1) k (by omega) (by omega) b1 b2 o1 o2 k1 g q
      · rw [if_neg g2] at q
        refine c_clashesBy ok sk vk (by omega) (by omega) ?_
        rw [clh_u]
        simp (disch := first | omega | decide | assumption | exact st_ne s0 (by decide) (by decide) (by decide) | exact dyn_ne (by assumption) (by decide) | fail) only [Int.reduceAdd, Int.reduceSub, Int.reduceNeg, ii_add, ii_sub, ii_mul, ii_lt, ii_le, ii_eq, ixn_ii, ixo_ii, rem_ii, nb_1, nb_0, nb_bb, bb_0, hI_gv, Int.toNat_of_nonneg, Int.cast_ofNat_Int, ht_sI, ht_sJ, ht_sR, hn_sI, hn_sJ, hn_sR, hR_sI, hR_sJ, kI_v, kV_v, kJ_v, true_and, and_true, forall_eq, tg, ln, rf, ne_eq, not_false_eq_true, forall_const, not_true_eq_false, false_implies]
        refine ⟨fun g3 => ?_, fun g3 => ⟨fun g4 => ?_, fun g4 => ?_⟩⟩
        · rw [if_pos (show b = -1 ∨ ckl m (m 1) k (m 5) < o by omega)] at q
          exact c_bestKey_56 ok s v e1 e2 w1 w2 n k _ (k + 1) k (by omega) (by omega) (by omega) (by omega) (by omega) (by omega) k1 g q
        · rw [if_pos (show b = -1 ∨ ckl m (m 1) k (m 5) < o by omega)] at q
          exact c_bestKey_56 ok s v e1 e2 w1 w2 n k _ (k + 1) k (by omega) (by omega) (by omega) (by omega) (by omega) (by omega) k1 g q
        · rw [if_neg (show ¬ (b = -1 ∨ ckl m (m 1) k (m 5) < o) by omega)] at q
          exact c_bestKey_56 ok s v e1 e2 w1 w2 n b o (k + 1) k (by omega) (by omega) b1 b2 o1 o2 k1 g q
    · obtain rfl : n = 0 := by omega
      have e0 : hsI h (ad 25) 4 (ii (m 4)) = h := by
        have := hsI_id h (ad 25) 4
        rw [hI_gv, em] at this
        exact this
      rw [e0]
      unfold bkL at q
      refine ⟨fun g2 => ?_, fun g2 => ?_⟩
      · rw [if_pos g2] at q; exact q
      · rw [if_neg g2] at q; exact q
theorem M_bestKey (ok : tr_ok E) (s : mst ad h m one two H L) (v : vok m one two H L) {e w : Int} (h3 : -2147483648 ≤ w) (h4 : w ≤ 2147483647) (h5 : -2147483648 ≤ e) (h6 : e ≤ 2147483647) (q : (0 ≤ e ∧ e ≤ 40) ∧ (0 ≤ w ∧ w ≤ 1) → ∀ h', mpo ad h 0 0 h' → Q (.inl (some (.inl (ii (bkS m e w))))) h') (r : ¬ ((0 ≤ e ∧ e ≤ 40) ∧ (0 ≤ w ∧ w ≤ 1)) → ∀ h', mpo ad h 1 1 h' → Q (.inl (some (.inl (ii 0)))) h') : tr_C E 201 [.inr (.inr (ad 23)), .inl (ii e), .inl (ii w)] h Q := by
  refine T_X8_bestKey ok ?_
  have ms := m_start s.1
  have s1 := mst_q s ms.1
  have em := s1.2.1
  obtain ⟨vH, vL, vl, v0, v1, v2, v3, v4, v5, vr, vm, vp⟩ := id v
  simp (disch := first | omega | decide | assumption | exact st_ne s0 (by decide) (by decide) (by decide) | exact dyn_ne (by assumption) (by decide) | fail) only [Int.reduceAdd, Int.reduceSub, Int.reduceNeg, ii_add, ii_sub, ii_mul, ii_lt, ii_le, ii_eq, ixn_ii, ixo_ii, rem_ii, nb_1, nb_0, nb_bb, bb_0, hI_gv, Int.toNat_of_nonneg, Int.cast_ofNat_Int, ht_sI, ht_sJ, ht_sR, hn_sI, hn_sJ, hn_sR, hR_sI, hR_sJ, kI_v, kV_v, kJ_v, true_and, and_true, forall_eq, tg, ln, rf, ne_eq, not_false_eq_true, forall_const, not_true_eq_false, false_implies, W_X8_bestKey, st_t s.1]
  refine c_within ok h5 h6 (by omega) (by omega) (by omega) (by omega) ?_
  simp (disch := first | omega | decide | assumption | exact st_ne s0 (by decide) (by decide) (by decide) | exact dyn_ne (by assumption) (by decide) | fail) only [Int.reduceAdd, Int.reduceSub, Int.reduceNeg, ii_add, ii_sub, ii_mul, ii_lt, ii_le, ii_eq, ixn_ii, ixo_ii, rem_ii, nb_1, nb_0, nb_bb, bb_0, hI_gv, Int.toNat_of_nonneg, Int.cast_ofNat_Int, ht_sI, ht_sJ, ht_sR, hn_sI, hn_sJ, hn_sR, hR_sI, hR_sJ, kI_v, kV_v, kJ_v, true_and, and_true, forall_eq, tg, ln, rf, ne_eq, not_false_eq_true, forall_const, not_true_eq_false, false_implies, st_t s.1]
  refine ⟨fun g => ?_, fun g => ?_⟩
  · rw [decide_eq_false_iff_not] at g
    refine c_fine0 ok s.1 ms (by omega) (by omega) (by omega) (by omega) (fun h' p => ?_)
    simp (disch := first | omega | decide | assumption | exact st_ne s0 (by decide) (by decide) (by decide) | exact dyn_ne (by assumption) (by decide) | fail) only [Int.reduceAdd, Int.reduceSub, Int.reduceNeg, ii_add, ii_sub, ii_mul, ii_lt, ii_le, ii_eq, ixn_ii, ixo_ii, rem_ii, nb_1, nb_0, nb_bb, bb_0, hI_gv, Int.toNat_of_nonneg, Int.cast_ofNat_Int, ht_sI, ht_sJ, ht_sR, hn_sI, hn_sJ, hn_sR, hR_sI, hR_sJ, kI_v, kV_v, kJ_v, true_and, and_true, forall_eq, tg, ln, rf, ne_eq, not_false_eq_true, forall_const, not_true_eq_false, false_implies, Int.reduceEq, Int.reduceLT, Int.reduceLE, implies_true, and_self, reduceCtorEq, false_and,]
    exact r (fun e => g e.1) h' p
  · rw [Bool.not_eq_false, decide_eq_true_eq] at g
    refine c_within ok h3 h4 (by omega) (by omega) (by omega) (by omega) ?_
    simp (disch := first | omega | decide | assumption | exact st_ne s0 (by decide) (by decide) (by decide) | exact dyn_ne (by assumption) (by decide) | fail) only [Int.reduceAdd, Int.reduceSub, Int.reduceNeg, ii_add, ii_sub, ii_mul, ii_lt, ii_le, ii_eq, ixn_ii, ixo_ii, rem_ii, nb_1, nb_0, nb_bb, bb_0, hI_gv, Int.toNat_of_nonneg, Int.cast_ofNat_Int, ht_sI, ht_sJ, ht_sR, hn_sI, hn_sJ, hn_sR, hR_sI, hR_sJ, kI_v, kV_v, kJ_v, true_and, and_true, forall_eq, tg, ln, rf, ne_eq, not_false_eq_true, forall_const, not_true_eq_false, false_implies, st_t s.1]
    refine ⟨fun g2 => ?_, fun g2 => ?_⟩
    · rw [decide_eq_false_iff_not] at g2
      refine c_fine0 ok s.1 ms (by omega) (by omega) (by omega) (by omega) (fun h' p => ?_)
      simp (disch := first | omega | decide | assumption | exact st_ne s0 (by decide) (by decide) (by decide) | exact dyn_ne (by assumption) (by decide) | fail) only [Int.reduceAdd, Int.reduceSub, Int.reduceNeg, ii_add, ii_sub, ii_mul, ii_lt, ii_le, ii_eq, ixn_ii, ixo_ii, rem_ii, nb_1, nb_0, nb_bb, bb_0, hI_gv, Int.toNat_of_nonneg, Int.cast_ofNat_Int, ht_sI, ht_sJ, ht_sR, hn_sI, hn_sJ, hn_sR, hR_sI, hR_sJ, kI_v, kV_v, kJ_v, true_and, and_true, forall_eq, tg, ln, rf, ne_eq, not_false_eq_true, forall_const, not_true_eq_false, false_implies, Int.reduceEq, Int.reduceLT, Int.reduceLE, implies_true, and_self, reduceCtorEq, false_and,]
      exact r (fun e => g2 e.2) h' p
    · rw [Bool.not_eq_false, decide_eq_true_eq] at g2
      refine c_fine1 ok s1.1 ms.2.1 ?_
      simp (disch := first | omega | decide | assumption | exact st_ne s0 (by decide) (by decide) (by decide) | exact dyn_ne (by assumption) (by decide) | fail) only [Int.reduceAdd, Int.reduceSub, Int.reduceNeg, ii_add, ii_sub, ii_mul, ii_lt, ii_le, ii_eq, ixn_ii, ixo_ii, rem_ii, nb_1, nb_0, nb_bb, bb_0, hI_gv, Int.toNat_of_nonneg, Int.cast_ofNat_Int, ht_sI, ht_sJ, ht_sR, hn_sI, hn_sJ, hn_sR, hR_sI, hR_sJ, kI_v, kV_v, kJ_v, true_and, and_true, forall_eq, tg, ln, rf, ne_eq, not_false_eq_true, forall_const, not_true_eq_false, false_implies, Int.reduceEq, Int.reduceLT, Int.reduceLE, implies_true, and_self, reduceCtorEq, false_and, st_t s.1, st_n s.1, st_r s.1, em]
      have := c_bestKey_56 ok s1 v g.1 g.2 g2.1 g2.2 (m 2).toNat (-1) (-1) 0 (m 4) (by omega) (by omega) (by omega) (by omega) (by omega) (by omega) v4.1 v4.2 (q ⟨g, g2⟩ _ ms)
      have e0 : hsI (hsI h (ad 23) 0 (ii 0)) (ad 25) 4 (ii (m 4)) = hsI h (ad 23) 0 (ii 0) := by
        have := hsI_id (hsI h (ad 23) 0 (ii 0)) (ad 25) 4
        rw [hI_gv, em] at this
        exact this
      rw [e0] at this
      exact this
end ASK4
