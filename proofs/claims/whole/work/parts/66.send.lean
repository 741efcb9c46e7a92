/-! SEND: the trail, and the reference -/
def rt (m : Int → Int) (x de : Int) : Int := m (6 + 10 * x + de)
def fz (m : Int → Int) (x de : Int) : Int := if x = de then 0 else if rt m x de = -1 then 1 else if bt (m 0) (rt m x de) then 2 else 3
def nz (m two : Int → Int) (de : Int) : Int → Nat → Int
  | _, 0 => 0
  | x, n + 1 => if fz m x de = 3 then 1 + nz m two de (two (rt m x de)) n else 0
def fq (m two : Int → Int) (de : Int) : Int → Nat → Int
  | x, 0 => fz m x de
  | x, n + 1 => if fz m x de = 3 then fq m two de (two (rt m x de)) n else fz m x de
def rwS (m two : Int → Int) (de b : Int) : Int → Nat → Int → (Int → Int) → (Int → Int)
  | _, 0, _, r => r
  | x, n + 1, k, r => if fz m x de = 3 then rwS m two de b (two (rt m x de)) n (k + 1) (ud r (b + 7 + k) (rt m x de)) else r
def xs (m two : Int → Int) (de : Int) (x : Int) : Nat → Int
  | 0 => x
  | k + 1 => two (rt m (xs m two de x k) de)
section SND
variable {E : tr_Env} {ad : Nat → Nat} {h h0 : tr_H} {Q : tr_Q} {m one two : Int → Int} {H L de : Int}
theorem rt_rg (v : vok m one two H L) {x : Int} (x0 : 0 ≤ x) (x1 : x < H) (d0 : 0 ≤ de) (d1 : de < H) : -1 ≤ rt m x de ∧ rt m x de < L := by
  have vH := v_H v
  have := v_r v (k := 10 * x + de) (by omega) (by omega)
  unfold rt
  rw [show 6 + 10 * x + de = 6 + (10 * x + de) by omega]
  exact this
theorem fz_rg (m : Int → Int) (x de : Int) : 0 ≤ fz m x de ∧ fz m x de ≤ 3 := by
  unfold fz
  split
  · omega
  · split
    · omega
    · split <;> omega
theorem fz_3 {x : Int} (g : fz m x de = 3) : x ≠ de ∧ rt m x de ≠ -1 ∧ bt (m 0) (rt m x de) = false := by
  unfold fz at g
  split at g
  · omega
  · next g1 =>
    split at g
    · omega
    · next g2 =>
      split at g
      · omega
      · next g3 => exact ⟨g1, g2, by rw [Bool.not_eq_true] at g3; exact g3⟩
theorem nx_rg (v : vok m one two H L) {x : Int} (x0 : 0 ≤ x) (x1 : x < H) (d0 : 0 ≤ de) (d1 : de < H) (g : fz m x de = 3) : (0 ≤ rt m x de ∧ rt m x de < L) ∧ 0 ≤ two (rt m x de) ∧ two (rt m x de) < H := by
  have a := rt_rg v x0 x1 d0 d1
  have b := fz_3 g
  have c : 0 ≤ rt m x de ∧ rt m x de < L := by omega
  exact ⟨c, (v_l v c.1 c.2).2.2⟩
theorem nz_rg (x : Int) : ∀ (n : Nat) (x : Int), 0 ≤ nz m two de x n ∧ nz m two de x n ≤ n
  | 0, x => ⟨Int.le_refl _, Int.le_refl _⟩
  | n + 1, x => by
    have := nz_rg x n (two (rt m x de))
    unfold nz
    split <;> omega
theorem fq_rg : ∀ (n : Nat) (x : Int), 0 ≤ fq m two de x n ∧ fq m two de x n ≤ 3
  | 0, x => fz_rg m x de
  | n + 1, x => by
    unfold fq
    split
    · exact fq_rg n _
    · exact fz_rg m x de
/-- the row of links: what it holds -/
theorem rwS_ne {b : Int} : ∀ (n : Nat) (x k : Int) (r : Int → Int) (z : Int), (z < b + 7 + k ∨ b + 7 + k + n ≤ z) → rwS m two de b x n k r z = r z
  | 0, _, _, _, _, _ => rfl
  | n + 1, x, k, r, z, hz => by
    unfold rwS
    split
    · rw [rwS_ne n _ (k + 1) _ z (by omega), ud_ne (by omega)]
    · rfl
theorem xs_s (x : Int) : ∀ k : Nat, xs m two de (two (rt m x de)) k = xs m two de x (k + 1)
  | 0 => rfl
  | k + 1 => by
    show two (rt m (xs m two de (two (rt m x de)) k) de) = two (rt m (xs m two de x (k + 1)) de)
    rw [xs_s x k]
theorem rwS_in {b : Int} : ∀ (n : Nat) (x k : Int) (r : Int → Int) (j : Nat), (j : Int) < nz m two de x n → rwS m two de b x n k r (b + 7 + k + j) = rt m (xs m two de x j) de
  | 0, x, k, r, j, hj => by
    have : (j : Int) < 0 := hj
    omega
  | n + 1, x, k, r, j, hj => by
    unfold nz at hj
    unfold rwS
    split at hj
    · next g =>
      rw [if_pos g]
      cases j with
      | zero =>
        rw [rwS_ne n _ (k + 1) _ _ (by omega)]
        rw [show b + 7 + k + ((0 : Nat) : Int) = b + 7 + k by omega, ud_eq]
        rfl
      | succ j =>
        have := rwS_in (b := b) n (two (rt m x de)) (k + 1) (ud r (b + 7 + k) (rt m x de)) j (by omega)
        rw [show b + 7 + k + ((j + 1 : Nat) : Int) = b + 7 + (k + 1) + j by omega, this, xs_s]
    · omega
theorem xs_rg (v : vok m one two H L) (d0 : 0 ≤ de) (d1 : de < H) : ∀ (n : Nat) (x : Int) (j : Nat), 0 ≤ x → x < H → (j : Int) ≤ nz m two de x n → (0 ≤ xs m two de x j ∧ xs m two de x j < H) ∧ ((j : Int) < nz m two de x n → fz m (xs m two de x j) de = 3)
  | 0, x, j, x0, x1, hj => by
    have : (j : Int) ≤ 0 := hj
    have : j = 0 := by omega
    subst this
    exact ⟨⟨x0, x1⟩, fun h => by have : ((0 : Nat) : Int) < 0 := h; omega⟩
  | n + 1, x, j, x0, x1, hj => by
    have es : nz m two de x (n + 1) = if fz m x de = 3 then 1 + nz m two de (two (rt m x de)) n else 0 := rfl
    rw [es] at hj ⊢
    cases j with
    | zero =>
      refine ⟨⟨x0, x1⟩, fun h => ?_⟩
      split at h
      · next g => exact g
      · omega
    | succ j =>
      split at hj
      · next g =>
        rw [if_pos g]
        have nx := nx_rg v x0 x1 d0 d1 g
        have := xs_rg v d0 d1 n (two (rt m x de)) j nx.2.1 nx.2.2 (by omega)
        rw [xs_s] at this
        exact ⟨this.1, fun h => this.2 (by omega)⟩
      · omega
theorem c_isCut0 (ok : tr_ok E) (s : mst ad h m one two H L) (v0 : 0 ≤ m 0 ∧ m 0 ≤ 16777215) {l : Int} (h1 : 0 ≤ l) (h2 : l < 24) (q : Q (.inl (some (.inl (bb (bt (m 0) l))))) h) : tr_C E 125 [.inr (.inr (ad 23)), .inl (ii l)] h Q := by
  refine T_X8_isCut ok ?_
  simp (disch := first | omega | decide | assumption | exact st_ne s0 (by decide) (by decide) (by decide) | exact dyn_ne (by assumption) (by decide) | fail) only [Int.reduceAdd, Int.reduceSub, Int.reduceNeg, ii_add, ii_sub, ii_mul, ii_lt, ii_le, ii_eq, ixn_ii, ixo_ii, rem_ii, nb_1, nb_0, nb_bb, bb_0, hI_gv, Int.toNat_of_nonneg, Int.cast_ofNat_Int, ht_sI, ht_sJ, ht_sR, hn_sI, hn_sJ, hn_sR, hR_sI, hR_sJ, kI_v, kV_v, kJ_v, true_and, and_true, forall_eq, tg, ln, rf, ne_eq, not_false_eq_true, forall_const, not_true_eq_false, false_implies, W_X8_isCut, st_t s.1, st_n s.1, st_r s.1, s.2.1, bt_ii]
  refine ⟨by omega, fun g => ?_, fun g => ?_⟩
  · rw [g] at q; exact q
  · rw [Bool.not_eq_true] at g; rw [g] at q; exact q
theorem mst_w {R : Int → Int} (s : mst ad h R one two H L) {k x : Int} (k0 : 0 ≤ k) (x0 : -2147483648 ≤ x) (x1 : x ≤ 2147483647) : mst ad (hsI h (ad 25) k.toNat (ii x)) (ud R k x) one two H L := by
  obtain ⟨t0, tm, t1, t2, t3, t4⟩ := s
  refine ⟨t0, ?_, ?_, ?_, ?_, ?_⟩
  · rw [gv_sIi x0 x1, tm, Int.toNat_of_nonneg k0]
  · rw [gv_sIn (st_ne t0 (by decide) (by decide) (by decide))]; exact t1
  · rw [gv_sIn (st_ne t0 (by decide) (by decide) (by decide))]; exact t2
  · rw [gv_sIn (st_ne t0 (by decide) (by decide) (by decide))]; exact t3
  · rw [gv_sIn (st_ne t0 (by decide) (by decide) (by decide))]; exact t4
def p25 (i : Nat) : Bool := Nat.beq i 25
theorem c_goes_end (ok : tr_ok E) {R : Int → Int} (s : mst ad h R one two H L) {p x y k f : Int} (p0 : 0 ≤ p) (p1 : p < 40) (k0 : 0 ≤ k) (k1 : k ≤ 12) (f0' : 0 ≤ f) (f1 : f ≤ 3) (q : ∀ h', fr ad p25 f0 false h h' → mst ad h' (ud (ud R (107 + 19 * p + 5) f) (107 + 19 * p + 6) k) one two H L → Q (.inl none) h') : tr_G E 127 Q 20 [some (.inr (.inr (ad 23))), some (.inl (ii p)), some (.inl (ii x)), some (.inl (ii y)), some (.inl (ii k)), some (.inl (ii f)), none] [] h 0 0 := by
  refine T_X8_goes_20 ok ?_
  have s0 := s.1
  have nf : ¬ f = -1 := by omega
  simp (disch := first | omega | decide | assumption | exact st_ne s0 (by decide) (by decide) (by decide) | exact dyn_ne (by assumption) (by decide) | fail) only [Int.reduceAdd, Int.reduceSub, Int.reduceNeg, ii_add, ii_sub, ii_mul, ii_lt, ii_le, ii_eq, ixn_ii, ixo_ii, rem_ii, nb_1, nb_0, nb_bb, bb_0, hI_gv, Int.toNat_of_nonneg, Int.cast_ofNat_Int, ht_sI, ht_sJ, ht_sR, hn_sI, hn_sJ, hn_sR, hR_sI, hR_sJ, kI_v, kV_v, kJ_v, true_and, and_true, forall_eq, tg, ln, rf, ne_eq, not_false_eq_true, forall_const, not_true_eq_false, false_implies, W_X8_goes_20, st_t s0, st_n s0, st_r s0]
  refine ⟨fun g => absurd g nf, fun _ => ⟨by omega, by omega, ?_⟩⟩
  exact q _ (fr_sI (fr_sI fr_rfl rfl) rfl) (mst_w (mst_w s (by omega) (by omega) (by omega)) (by omega) (by omega) (by omega))
theorem c_goes_20 (ok : tr_ok E) (v : vok m one two H L) (d0 : 0 ≤ de) (d1 : de < H) {p : Int} (p0 : 0 ≤ p) (p1 : p < 40) : ∀ (n : Nat) (x k : Int) (R : Int → Int) (h : tr_H), 0 ≤ x → x < H → 0 ≤ k → k + n ≤ 12 → mst ad h R one two H L → (∀ z, 0 ≤ z → z < 106 → R z = m z) → R (107 + 19 * p + 1) = de → (∀ h', fr ad p25 f0 false h h' → mst ad h' (ud (ud (rwS m two de (107 + 19 * p) x n k R) (107 + 19 * p + 5) (fq m two de x n)) (107 + 19 * p + 6) (k + nz m two de x n)) one two H L → Q (.inl none) h') → tr_G E 127 Q 20 [some (.inr (.inr (ad 23))), some (.inl (ii p)), some (.inl (ii x)), some (.inl (ii (n : Int))), some (.inl (ii k)), some (.inl (ii (-1))), none] [] h 0 0
  | n, x, k, R, h, x0, x1, k0, k1, s, eR, ed, q => by
    have vH := v_H v
    have vL := v_L v
    have v0 := v_0 v
    have s0 := s.1
    have rg := rt_rg v x0 x1 d0 d1
    have e0 := eR 0 (by omega) (by omega)
    have er : R (6 + 10 * x + de) = rt m x de := eR _ (by omega) (by omega)
    have edf : fd R p 1 = de := ed
    -- the fate, once the link is known
    have key : ∀ l, (l = if x = de then -1 else rt m x de) → tr_G E 127 Q 51 [some (.inr (.inr (ad 23))), some (.inl (ii p)), some (.inl (ii x)), some (.inl (ii (n : Int))), some (.inl (ii k)), some (.inl (ii (-1))), none] [.inl (ii l)] h 0 0 := by
      intro l hl
      refine T_X8_goes_51 ok ?_
      simp (disch := first | omega | decide | assumption | exact st_ne s0 (by decide) (by decide) (by decide) | exact dyn_ne (by assumption) (by decide) | fail) only [Int.reduceAdd, Int.reduceSub, Int.reduceNeg, ii_add, ii_sub, ii_mul, ii_lt, ii_le, ii_eq, ixn_ii, ixo_ii, rem_ii, nb_1, nb_0, nb_bb, bb_0, hI_gv, Int.toNat_of_nonneg, Int.cast_ofNat_Int, ht_sI, ht_sJ, ht_sR, hn_sI, hn_sJ, hn_sR, hR_sI, hR_sJ, kI_v, kV_v, kJ_v, true_and, and_true, forall_eq, tg, ln, rf, ne_eq, not_false_eq_true, forall_const, not_true_eq_false, false_implies, W_X8_goes_51, st_t s0]
      refine c_of ok s p0 p1 (by omega) (by omega) ?_
      rw [edf]
      have lr : -1 ≤ l ∧ l < 24 := by
        rw [hl]
        split <;> omega
      have fin : ∀ f, fz m x de = f → ¬ f = 3 → tr_G E 127 Q 20 [some (.inr (.inr (ad 23))), some (.inl (ii p)), some (.inl (ii x)), some (.inl (ii (n : Int))), some (.inl (ii k)), some (.inl (ii f)), none] [] h 0 0 := by
        intro f ef nf
        have fr' := fz_rg m x de
        refine c_goes_end ok s p0 p1 k0 (by omega) (by omega) (by omega) ?_
        have e1 : fq m two de x n = f := by
          cases n with
          | zero => exact ef
          | succ n => unfold fq; rw [if_neg (by omega)]; exact ef
        have e2 : nz m two de x n = 0 := by
          cases n with
          | zero => rfl
          | succ n => unfold nz; rw [if_neg (by omega)]
        have e3 : rwS m two de (107 + 19 * p) x n k R = R := by
          cases n with
          | zero => rfl
          | succ n => unfold rwS; rw [if_neg (by omega)]
        rw [e1, e2, e3, Int.add_zero] at q
        exact q
      simp (disch := first | omega | decide | assumption | exact st_ne s0 (by decide) (by decide) (by decide) | exact dyn_ne (by assumption) (by decide) | fail) only [Int.reduceAdd, Int.reduceSub, Int.reduceNeg, ii_add, ii_sub, ii_mul, ii_lt, ii_le, ii_eq, ixn_ii, ixo_ii, rem_ii, nb_1, nb_0, nb_bb, bb_0, hI_gv, Int.toNat_of_nonneg, Int.cast_ofNat_Int, ht_sI, ht_sJ, ht_sR, hn_sI, hn_sJ, hn_sR, hR_sI, hR_sJ, kI_v, kV_v, kJ_v, true_and, and_true, forall_eq, tg, ln, rf, ne_eq, not_false_eq_true, forall_const, not_true_eq_false, false_implies, st_t s0]
      refine ⟨fun g => fin 0 (by unfold fz; rw [if_pos g]) (by omega), fun g => ⟨fun g2 => ?_, fun g2 => ?_⟩⟩
      · rw [if_neg g] at hl
        exact fin 1 (by unfold fz; rw [if_neg g, if_pos (by omega)]) (by omega)
      · rw [if_neg g] at hl
        subst hl
        have l0 : 0 ≤ rt m x de := by omega
        refine c_isCut0 ok s (by rw [e0]; exact v0) l0 (by omega) ?_
        rw [e0]
        have ez : (n : Int) + -1 = (n : Int) - 1 := rfl
        simp (disch := first | omega | decide | assumption | exact st_ne s0 (by decide) (by decide) (by decide) | exact dyn_ne (by assumption) (by decide) | fail) only [Int.reduceAdd, Int.reduceSub, Int.reduceNeg, ii_add, ii_sub, ii_mul, ii_lt, ii_le, ii_eq, ixn_ii, ixo_ii, rem_ii, nb_1, nb_0, nb_bb, bb_0, hI_gv, Int.toNat_of_nonneg, Int.cast_ofNat_Int, ht_sI, ht_sJ, ht_sR, hn_sI, hn_sJ, hn_sR, hR_sI, hR_sJ, kI_v, kV_v, kJ_v, true_and, and_true, forall_eq, tg, ln, rf, ne_eq, not_false_eq_true, forall_const, not_true_eq_false, false_implies, st_t s0, st_n s0, st_r s0, ez]
        refine ⟨fun g3 => ⟨fun g4 => ?_, fun g4 => ?_⟩, fun g3 => ?_⟩
        · have n0 : n = 0 := by omega
          subst n0
          have ef : fz m x de = 3 := by unfold fz; rw [if_neg g, if_neg g2, if_neg (by rw [g3]; decide)]
          refine c_goes_end ok s p0 p1 k0 (by omega) (by omega) (by omega) ?_
          have e1 : fq m two de x 0 = 3 := ef
          have e2 : nz m two de x 0 = 0 := rfl
          have e3 : rwS m two de (107 + 19 * p) x 0 k R = R := rfl
          rw [e1, e2, e3, Int.add_zero] at q
          exact q
        · have ef : fz m x de = 3 := by unfold fz; rw [if_neg g, if_neg g2, if_neg (by rw [g3]; decide)]
          obtain ⟨n, rfl⟩ : ∃ n', n = n' + 1 := ⟨n - 1, by omega⟩
          have nx := nx_rg v x0 x1 d0 d1 ef
          have e2 := s.2.2.2.1
          have tw : gv (hsI h (ad 25) (107 + 19 * p + 7 + k).toNat (ii (rt m x de))) (ad 29) (rt m x de) = two (rt m x de) := by
            rw [gv_sIn (st_ne s0 (by decide) (by decide) (by decide)), e2]
          have en : ((n + 1 : Nat) : Int) - 1 = (n : Int) := by omega
          simp (disch := first | omega | decide | assumption | exact st_ne s0 (by decide) (by decide) (by decide) | exact dyn_ne (by assumption) (by decide) | fail) only [Int.reduceAdd, Int.reduceSub, Int.reduceNeg, ii_add, ii_sub, ii_mul, ii_lt, ii_le, ii_eq, ixn_ii, ixo_ii, rem_ii, nb_1, nb_0, nb_bb, bb_0, hI_gv, Int.toNat_of_nonneg, Int.cast_ofNat_Int, ht_sI, ht_sJ, ht_sR, hn_sI, hn_sJ, hn_sR, hR_sI, hR_sJ, kI_v, kV_v, kJ_v, true_and, and_true, forall_eq, tg, ln, rf, ne_eq, not_false_eq_true, forall_const, not_true_eq_false, false_implies, tw, en]
          refine ⟨by omega, by omega, ?_⟩
          refine c_goes_20 ok v d0 d1 p0 p1 n (two (rt m x de)) (k + 1) (ud R (107 + 19 * p + 7 + k) (rt m x de)) _ nx.2.1 nx.2.2 (by omega) (by omega) (mst_w s (by omega) (by omega) (by omega)) (fun z z0 z1 => by rw [ud_ne (by omega)]; exact eR z z0 z1) (by rw [ud_ne (by omega)]; exact ed) (fun h' f' s' => ?_)
          refine q h' (fr_tr (fr_sI fr_rfl rfl) f') ?_
          unfold rwS fq nz
          rw [if_pos ef, if_pos ef, if_pos ef, ← Int.add_assoc]
          exact s'
        · rw [Bool.not_eq_false] at g3
          exact fin 2 (by unfold fz; rw [if_neg g, if_neg g2, if_pos g3]) (by omega)
    refine T_X8_goes_20 ok ?_
    simp (disch := first | omega | decide | assumption | exact st_ne s0 (by decide) (by decide) (by decide) | exact dyn_ne (by assumption) (by decide) | fail) only [Int.reduceAdd, Int.reduceSub, Int.reduceNeg, ii_add, ii_sub, ii_mul, ii_lt, ii_le, ii_eq, ixn_ii, ixo_ii, rem_ii, nb_1, nb_0, nb_bb, bb_0, hI_gv, Int.toNat_of_nonneg, Int.cast_ofNat_Int, ht_sI, ht_sJ, ht_sR, hn_sI, hn_sJ, hn_sR, hR_sI, hR_sJ, kI_v, kV_v, kJ_v, true_and, and_true, forall_eq, tg, ln, rf, ne_eq, not_false_eq_true, forall_const, not_true_eq_false, false_implies, Int.reduceEq, Int.reduceLT, Int.reduceLE, implies_true, and_self, reduceCtorEq, false_and, W_X8_goes_20, st_t s0]
    refine c_of ok s p0 p1 (by omega) (by omega) ?_
    rw [edf]
    simp (disch := first | omega | decide | assumption | exact st_ne s0 (by decide) (by decide) (by decide) | exact dyn_ne (by assumption) (by decide) | fail) only [Int.reduceAdd, Int.reduceSub, Int.reduceNeg, ii_add, ii_sub, ii_mul, ii_lt, ii_le, ii_eq, ixn_ii, ixo_ii, rem_ii, nb_1, nb_0, nb_bb, bb_0, hI_gv, Int.toNat_of_nonneg, Int.cast_ofNat_Int, ht_sI, ht_sJ, ht_sR, hn_sI, hn_sJ, hn_sR, hR_sI, hR_sJ, kI_v, kV_v, kJ_v, true_and, and_true, forall_eq, tg, ln, rf, ne_eq, not_false_eq_true, forall_const, not_true_eq_false, false_implies, st_t s0]
    refine ⟨fun g => key (-1) (by rw [if_pos g]), fun g => ?_⟩
    refine c_of ok s p0 p1 (by omega) (by omega) ?_
    rw [edf]
    simp (disch := first | omega | decide | assumption | exact st_ne s0 (by decide) (by decide) (by decide) | exact dyn_ne (by assumption) (by decide) | fail) only [Int.reduceAdd, Int.reduceSub, Int.reduceNeg, ii_add, ii_sub, ii_mul, ii_lt, ii_le, ii_eq, ixn_ii, ixo_ii, rem_ii, nb_1, nb_0, nb_bb, bb_0, hI_gv, Int.toNat_of_nonneg, Int.cast_ofNat_Int, ht_sI, ht_sJ, ht_sR, hn_sI, hn_sJ, hn_sR, hR_sI, hR_sJ, kI_v, kV_v, kJ_v, true_and, and_true, forall_eq, tg, ln, rf, ne_eq, not_false_eq_true, forall_const, not_true_eq_false, false_implies, st_t s0]
    refine c_routeOf ok s (by omega) (by omega) (by omega) (by omega) ?_
    rw [er]
    simp (disch := first | omega | decide | assumption | exact st_ne s0 (by decide) (by decide) (by decide) | exact dyn_ne (by assumption) (by decide) | fail) only [Int.reduceAdd, Int.reduceSub, Int.reduceNeg, ii_add, ii_sub, ii_mul, ii_lt, ii_le, ii_eq, ixn_ii, ixo_ii, rem_ii, nb_1, nb_0, nb_bb, bb_0, hI_gv, Int.toNat_of_nonneg, Int.cast_ofNat_Int, ht_sI, ht_sJ, ht_sR, hn_sI, hn_sJ, hn_sR, hR_sI, hR_sJ, kI_v, kV_v, kJ_v, true_and, and_true, forall_eq, tg, ln, rf, ne_eq, not_false_eq_true, forall_const, not_true_eq_false, false_implies]
    exact key (rt m x de) (by rw [if_neg g])
end SND
