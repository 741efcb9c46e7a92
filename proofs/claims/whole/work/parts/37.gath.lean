/-! THE REPORTS OF A LABEL -/
def eK (m : Int → Int) (x p k : Int) : Int := b2 (chs m p k && decide (k = 0 ∧ fd m p 0 = x))
def cK (m : Int → Int) (y p k : Int) : Int := b2 (chs m p k && decide (k ≠ 0 ∧ lkk m p k = y))
def eR (m : Int → Int) (p k : Int) : Int := b2 (chs m p k && decide (k = 0))
def cR (m : Int → Int) (p k : Int) : Int := b2 (chs m p k && decide (k ≠ 0))
def ov (m : Int → Int) (l : Int) (f : Int → Int → Int) (p : Int) : Int := if lab m p = l then sm (f p) 0 (fd m p 6 + 1).toNat else 0
def en (m : Int → Int) (l x : Int) : Int := sm (ov m l (eK m x)) 0 (m 106).toNat
def ca (m : Int → Int) (l y : Int) : Int := sm (ov m l (cK m y)) 0 (m 106).toNat
def el (m : Int → Int) (l : Int) : Int := sm (ov m l (eR m)) 0 (m 106).toNat
def cl (m : Int → Int) (l : Int) : Int := sm (ov m l (cR m)) 0 (m 106).toNat
theorem ov_rg {m one two : Int → Int} {H L p l : Int} {f : Int → Int → Int} (v : vok m one two H L) (h1 : 0 ≤ p) (h2 : p < m 106) (hf : ∀ k, 0 ≤ f p k ∧ f p k ≤ 1) : 0 ≤ ov m l f p ∧ ov m l f p ≤ 13 := by
  obtain ⟨q0, q1, q2, q3, q4, q5, q6, q7⟩ := v_p v h1 h2
  have := sm_rg (f := f p) (lo := 0) (hi := 1) (fd m p 6 + 1).toNat 0 (fun k _ _ => hf k)
  unfold ov
  split <;> constructor <;> omega
theorem so_rg {m one two : Int → Int} {H L l : Int} {f : Int → Int → Int} (v : vok m one two H L) (hf : ∀ p k, 0 ≤ f p k ∧ f p k ≤ 1) : 0 ≤ sm (ov m l f) 0 (m 106).toNat ∧ sm (ov m l f) 0 (m 106).toNat ≤ 520 := by
  have vm := v_m v
  have := sm_rg (f := ov m l f) (lo := 0) (hi := 13) (m 106).toNat 0 (fun p h1 h2 => ov_rg v h1 (by omega) (hf p))
  constructor <;> omega
theorem en_rg {m one two : Int → Int} {H L l x : Int} (v : vok m one two H L) : 0 ≤ en m l x ∧ en m l x ≤ 520 := so_rg v (fun _ _ => b2_rg _)
theorem ca_rg {m one two : Int → Int} {H L l x : Int} (v : vok m one two H L) : 0 ≤ ca m l x ∧ ca m l x ≤ 520 := so_rg v (fun _ _ => b2_rg _)
theorem el_rg {m one two : Int → Int} {H L l : Int} (v : vok m one two H L) : 0 ≤ el m l ∧ el m l ≤ 520 := so_rg v (fun _ _ => b2_rg _)
theorem cl_rg {m one two : Int → Int} {H L l : Int} (v : vok m one two H L) : 0 ≤ cl m l ∧ cl m l ≤ 520 := so_rg v (fun _ _ => b2_rg _)
/-- what was gathered -/
def gst (ad : Nat → Nat) (h : tr_H) (A B : Int → Int) (a b : Int) : Prop := (∀ x, 0 ≤ x → x < 10 → gv h (ad 8) x = A x) ∧ (∀ y, 0 ≤ y → y < 24 → gv h (ad 9) y = B y) ∧ gv h (ad 2) 2 = a ∧ gv h (ad 2) 3 = b
def rst (ad : Nat → Nat) (h : tr_H) (A B : Int → Int) (a : Int) : Prop := (∀ x, 0 ≤ x → x < 10 → gv h (ad 34) x = A x) ∧ (∀ y, 0 ≤ y → y < 24 → gv h (ad 35) y = B y) ∧ gv h (ad 23) 25 = a
def bnd (A B : Int → Int) (a b z : Int) : Prop := (∀ x, 0 ≤ x → x < 10 → 0 ≤ A x ∧ A x ≤ z) ∧ (∀ y, 0 ≤ y → y < 24 → 0 ≤ B y ∧ B y ≤ z) ∧ (0 ≤ a ∧ a ≤ z) ∧ (0 ≤ b ∧ b ≤ z)
theorem bnd_s {A B : Int → Int} {a b z : Int} (h : bnd A B a b z) {z' : Int} (hz : z ≤ z') {A' B' : Int → Int} {a' b' : Int} (h1 : ∀ x, 0 ≤ A' x ∧ A' x ≤ z' - z) (h2 : ∀ x, 0 ≤ B' x ∧ B' x ≤ z' - z) (h3 : 0 ≤ a' ∧ a' ≤ z' - z) (h4 : 0 ≤ b' ∧ b' ≤ z' - z) : bnd (fun x => A x + A' x) (fun y => B y + B' y) (a + a') (b + b') z' := by
  obtain ⟨k1, k2, k3, k4⟩ := h
  refine ⟨fun x x0 x1 => ?_, fun x x0 x1 => ?_, by omega, by omega⟩
  · have i1 := k1 x x0 x1; have i2 := h1 x
    show 0 ≤ A x + A' x ∧ A x + A' x ≤ z'
    omega
  · have i1 := k2 x x0 x1; have i2 := h2 x
    show 0 ≤ B x + B' x ∧ B x + B' x ≤ z'
    omega
section GATH
variable {E : tr_Env} {ad : Nat → Nat} {h h0 : tr_H} {Q : tr_Q} {m one two : Int → Int} {H L : Int}
theorem gst_c {A B A' B' : Int → Int} {a b a' b' : Int} (g : gst ad h A B a b) (e1 : ∀ x, 0 ≤ x → x < 10 → A x = A' x) (e2 : ∀ x, 0 ≤ x → x < 24 → B x = B' x) (e3 : a = a') (e4 : b = b') : gst ad h A' B' a' b' := by
  subst e3 e4
  exact ⟨fun x x0 x1 => (g.1 x x0 x1).trans (e1 x x0 x1), fun x x0 x1 => (g.2.1 x x0 x1).trans (e2 x x0 x1), g.2.2⟩
theorem rst_c {A B A' B' : Int → Int} {a a' : Int} (g : rst ad h A B a) (e1 : ∀ x, 0 ≤ x → x < 10 → A x = A' x) (e2 : ∀ x, 0 ≤ x → x < 24 → B x = B' x) (e3 : a = a') : rst ad h A' B' a' := by
  subst e3
  exact ⟨fun x x0 x1 => (g.1 x x0 x1).trans (e1 x x0 x1), fun x x0 x1 => (g.2.1 x x0 x1).trans (e2 x x0 x1), g.2.2⟩
theorem k_gatherOf_2 (ok : tr_ok E) (t0 : stat ad h0) {nn qq : Nat} (nw : nst ad h0 nn m one two H L) {p : Int} (pw : pst ad h0 qq m two p) (v : vok m one two H L) (h1 : 0 ≤ p) (h2 : p < m 106) {z : Int} (z0 : 0 ≤ z) (z1 : z ≤ 1000) : ∀ (n : Nat) (k : Int) (A B : Int → Int) (a b : Int) (h : tr_H), k + n = fd m p 6 + 1 → 0 ≤ k → bnd A B a b (z + k) → fr ad pC f0 false h0 h → gst ad h A B a b → (∀ h', fr ad pC f0 false h0 h' → gst ad h' (fun x => A x + sm (eK m x p) k n) (fun y => B y + sm (cK m y p) k n) (a + sm (eR m p) k n) (b + sm (cR m p) k n) → Q (.inl none) h') → tr_G E 9 Q 2 [some (.inr (.inr (ad 2))), some (.inr (.inr nn)), some (.inr (.inr qq)), some (.inl (ii k))] [] h 0 0
  | n, k, A, B, a, b, h, hk, k1, bd, fa, g, q => by
    refine T_X1_gatherOf_2 ok ?_
    have s0 := st_fr t0 fa
    have pk := pst_fr t0 fa pC_lt pw
    have nv := nst_fr t0 fa pC_lt nw
    have dq : dyn ad qq := dyn_t s0 (by rw [pk.1]; decide) (by rw [pk.1]; decide)
    obtain ⟨q0, q1, q2, q3, q4, q5, q6, q7⟩ := v_p v h1 h2
    obtain ⟨k0, ka, kb, kc, kd, ke, kf, kg, kh, ⟨ha, hb, hc⟩, ⟨la, lb, lc⟩, kdy⟩ := id pk
    have vm := v_m v
    have vH := v_H v
    have vL := v_L v
    obtain ⟨gA, gB, gC, gD⟩ := id g
    obtain ⟨bA, bB, bC, bD⟩ := id bd
    simp (disch := first | omega | decide | assumption | exact st_ne s0 (by decide) (by decide) (by decide) | exact dyn_ne (by assumption) (by decide) | fail) only [Int.reduceAdd, Int.reduceSub, Int.reduceNeg, ii_add, ii_sub, ii_mul, ii_lt, ii_le, ii_eq, ixn_ii, ixo_ii, rem_ii, nb_1, nb_0, nb_bb, bb_0, hI_gv, Int.toNat_of_nonneg, Int.cast_ofNat_Int, ht_sI, ht_sJ, ht_sR, hn_sI, hn_sJ, hn_sR, hR_sI, hR_sJ, kI_v, kV_v, kJ_v, true_and, and_true, forall_eq, tg, ln, rf, ne_eq, not_false_eq_true, forall_const, not_true_eq_false, false_implies, W_X1_gatherOf_2, nv.1, k0, kg]
    refine ⟨fun g2 => ?_, fun g2 => ?_⟩
    · obtain ⟨n, rfl⟩ : ∃ n', n = n' + 1 := ⟨n - 1, by omega⟩
      refine k_chooses ok nv pk v h1 h2 k1 (by omega) ?_
      have eA := gA (fd m p 0) (by omega) (by omega)
      have iA := bA (fd m p 0) (by omega) (by omega)
      simp (disch := first | omega | decide | assumption | exact st_ne s0 (by decide) (by decide) (by decide) | exact dyn_ne (by assumption) (by decide) | fail) only [Int.reduceAdd, Int.reduceSub, Int.reduceNeg, ii_add, ii_sub, ii_mul, ii_lt, ii_le, ii_eq, ixn_ii, ixo_ii, rem_ii, nb_1, nb_0, nb_bb, bb_0, hI_gv, Int.toNat_of_nonneg, Int.cast_ofNat_Int, ht_sI, ht_sJ, ht_sR, hn_sI, hn_sJ, hn_sR, hR_sI, hR_sJ, kI_v, kV_v, kJ_v, true_and, and_true, forall_eq, tg, ln, rf, ne_eq, not_false_eq_true, forall_const, not_true_eq_false, false_implies, st_t s0, st_n s0, st_r s0, k0, ka, la, lb, gC, gD, eA, gv_sIn]
      refine ⟨fun g3 => ?_, fun g3 => ⟨fun g4 => ⟨by omega, by omega, ?_⟩, fun g4 => ?_⟩⟩
      · refine k_gatherOf_2 ok t0 nw pw v h1 h2 z0 z1 n (k + 1) A B a b h (by omega) (by omega) ⟨fun x x0 x1 => by have := bA x x0 x1; omega, fun x x0 x1 => by have := bB x x0 x1; omega, by omega, by omega⟩ fa g (fun h' a' g' => q h' a' (gst_c g' (fun x _ _ => ?_) (fun x _ _ => ?_) ?_ ?_))
        · rw [sm_s]; unfold eK; rw [g3, Bool.false_and]; show _ = A x + (0 + _); omega
        · rw [sm_s]; unfold cK; rw [g3, Bool.false_and]; show _ = B x + (0 + _); omega
        · rw [sm_s]; unfold eR; rw [g3, Bool.false_and]; show _ = a + (0 + _); omega
        · rw [sm_s]; unfold cR; rw [g3, Bool.false_and]; show _ = b + (0 + _); omega
      · rw [Bool.not_eq_false] at g3
        subst g4
        refine k_gatherOf_2 ok t0 nw pw v h1 h2 z0 z1 n (0 + 1) (fun x => A x + eK m x p 0) B (a + 1) b _ (by omega) (by omega) ⟨fun x x0 x1 => ?_, fun x x0 x1 => by have := bB x x0 x1; omega, by omega, by omega⟩ (fr_sI (fr_sI fa rfl) rfl) ?_ (fun h' a' g' => q h' a' (gst_c g' (fun x _ _ => ?_) (fun x _ _ => ?_) ?_ ?_))
        · have i1 := bA x x0 x1
          have i2 := b2_rg (chs m p 0 && decide ((0 : Int) = 0 ∧ fd m p 0 = x))
          show 0 ≤ A x + b2 _ ∧ A x + b2 _ ≤ _
          omega
        · refine ⟨fun x x0 x1 => ?_, fun x x0 x1 => ?_, ?_, ?_⟩
          · simp (disch := first | omega | decide | assumption | exact st_ne s0 (by decide) (by decide) (by decide) | exact dyn_ne (by assumption) (by decide) | fail) only [Int.reduceAdd, Int.reduceSub, Int.reduceNeg, ii_add, ii_sub, ii_mul, ii_lt, ii_le, ii_eq, ixn_ii, ixo_ii, rem_ii, nb_1, nb_0, nb_bb, bb_0, hI_gv, Int.toNat_of_nonneg, Int.cast_ofNat_Int, ht_sI, ht_sJ, ht_sR, hn_sI, hn_sJ, hn_sR, hR_sI, hR_sJ, kI_v, kV_v, kJ_v, true_and, and_true, forall_eq, tg, ln, rf, ne_eq, not_false_eq_true, forall_const, not_true_eq_false, false_implies, gv_sIn, gv_sIi]
            unfold eK
            rw [g3, Bool.true_and]
            by_cases e : x = fd m p 0
            · subst e; rw [ud_eq, decide_eq_true ⟨rfl, rfl⟩]; rfl
            · rw [ud_ne e, gA x x0 x1, decide_eq_false (fun e2 => e e2.2.symm)]
              show A x = A x + 0
              omega
          · simp (disch := first | omega | decide | assumption | exact st_ne s0 (by decide) (by decide) (by decide) | exact dyn_ne (by assumption) (by decide) | fail) only [Int.reduceAdd, Int.reduceSub, Int.reduceNeg, ii_add, ii_sub, ii_mul, ii_lt, ii_le, ii_eq, ixn_ii, ixo_ii, rem_ii, nb_1, nb_0, nb_bb, bb_0, hI_gv, Int.toNat_of_nonneg, Int.cast_ofNat_Int, ht_sI, ht_sJ, ht_sR, hn_sI, hn_sJ, hn_sR, hR_sI, hR_sJ, kI_v, kV_v, kJ_v, true_and, and_true, forall_eq, tg, ln, rf, ne_eq, not_false_eq_true, forall_const, not_true_eq_false, false_implies, gv_sIn, gv_sIi]
            exact gB x x0 x1
          · simp (disch := first | omega | decide | assumption | exact st_ne s0 (by decide) (by decide) (by decide) | exact dyn_ne (by assumption) (by decide) | fail) only [Int.reduceAdd, Int.reduceSub, Int.reduceNeg, ii_add, ii_sub, ii_mul, ii_lt, ii_le, ii_eq, ixn_ii, ixo_ii, rem_ii, nb_1, nb_0, nb_bb, bb_0, hI_gv, Int.toNat_of_nonneg, Int.cast_ofNat_Int, ht_sI, ht_sJ, ht_sR, hn_sI, hn_sJ, hn_sR, hR_sI, hR_sJ, kI_v, kV_v, kJ_v, true_and, and_true, forall_eq, tg, ln, rf, ne_eq, not_false_eq_true, forall_const, not_true_eq_false, false_implies, gv_sIn, gv_sIi]
            exact ud_eq _ _ _
          · simp (disch := first | omega | decide | assumption | exact st_ne s0 (by decide) (by decide) (by decide) | exact dyn_ne (by assumption) (by decide) | fail) only [Int.reduceAdd, Int.reduceSub, Int.reduceNeg, ii_add, ii_sub, ii_mul, ii_lt, ii_le, ii_eq, ixn_ii, ixo_ii, rem_ii, nb_1, nb_0, nb_bb, bb_0, hI_gv, Int.toNat_of_nonneg, Int.cast_ofNat_Int, ht_sI, ht_sJ, ht_sR, hn_sI, hn_sJ, hn_sR, hR_sI, hR_sJ, kI_v, kV_v, kJ_v, true_and, and_true, forall_eq, tg, ln, rf, ne_eq, not_false_eq_true, forall_const, not_true_eq_false, false_implies, gv_sIn, gv_sIi]
            rw [ud_ne (by decide)]; exact gD
        · rw [sm_s]; exact Int.add_assoc _ _ _
        · rw [sm_s]; unfold cK
          rw [decide_eq_false (fun e => e.1 rfl), Bool.and_false]
          show _ = B x + (0 + _); omega
        · rw [sm_s]; unfold eR
          rw [g3, decide_eq_true rfl]
          show _ = a + (1 + _); omega
        · rw [sm_s]; unfold cR
          rw [decide_eq_false (fun e => e rfl), Bool.and_false]
          show _ = b + (0 + _); omega
      · rw [Bool.not_eq_false] at g3
        have lq := q7 (k - 1) (by omega) (by omega)
        have el : lkk m p k = lk m p (k - 1) := by unfold lkk; rw [if_neg g4]
        have el2 := lc k k1 (by omega)
        rw [el] at el2
        have eB := gB (lk m p (k - 1)) (by omega) (by omega)
        have iB := bB (lk m p (k - 1)) (by omega) (by omega)
        simp (disch := first | omega | decide | assumption | exact st_ne s0 (by decide) (by decide) (by decide) | exact dyn_ne (by assumption) (by decide) | fail) only [Int.reduceAdd, Int.reduceSub, Int.reduceNeg, ii_add, ii_sub, ii_mul, ii_lt, ii_le, ii_eq, ixn_ii, ixo_ii, rem_ii, nb_1, nb_0, nb_bb, bb_0, hI_gv, Int.toNat_of_nonneg, Int.cast_ofNat_Int, ht_sI, ht_sJ, ht_sR, hn_sI, hn_sJ, hn_sR, hR_sI, hR_sJ, kI_v, kV_v, kJ_v, true_and, and_true, forall_eq, tg, ln, rf, ne_eq, not_false_eq_true, forall_const, not_true_eq_false, false_implies, st_t s0, st_n s0, st_r s0, k0, ka, la, lb, el2, gC, gD, eB, gv_sIn]
        refine ⟨by omega, by omega, by omega, ?_⟩
        refine k_gatherOf_2 ok t0 nw pw v h1 h2 z0 z1 n (k + 1) A (fun y => B y + cK m y p k) a (b + 1) _ (by omega) (by omega) ⟨fun x x0 x1 => by have := bA x x0 x1; omega, fun x x0 x1 => ?_, by omega, by omega⟩ (fr_sI (fr_sI fa rfl) rfl) ?_ (fun h' a' g' => q h' a' (gst_c g' (fun x _ _ => ?_) (fun x _ _ => ?_) ?_ ?_))
        · have i1 := bB x x0 x1
          have i2 := b2_rg (chs m p k && decide (k ≠ 0 ∧ lkk m p k = x))
          show 0 ≤ B x + b2 _ ∧ B x + b2 _ ≤ _
          omega
        · refine ⟨fun x x0 x1 => ?_, fun x x0 x1 => ?_, ?_, ?_⟩
          · simp (disch := first | omega | decide | assumption | exact st_ne s0 (by decide) (by decide) (by decide) | exact dyn_ne (by assumption) (by decide) | fail) only [Int.reduceAdd, Int.reduceSub, Int.reduceNeg, ii_add, ii_sub, ii_mul, ii_lt, ii_le, ii_eq, ixn_ii, ixo_ii, rem_ii, nb_1, nb_0, nb_bb, bb_0, hI_gv, Int.toNat_of_nonneg, Int.cast_ofNat_Int, ht_sI, ht_sJ, ht_sR, hn_sI, hn_sJ, hn_sR, hR_sI, hR_sJ, kI_v, kV_v, kJ_v, true_and, and_true, forall_eq, tg, ln, rf, ne_eq, not_false_eq_true, forall_const, not_true_eq_false, false_implies, gv_sIn, gv_sIi]
            exact gA x x0 x1
          · simp (disch := first | omega | decide | assumption | exact st_ne s0 (by decide) (by decide) (by decide) | exact dyn_ne (by assumption) (by decide) | fail) only [Int.reduceAdd, Int.reduceSub, Int.reduceNeg, ii_add, ii_sub, ii_mul, ii_lt, ii_le, ii_eq, ixn_ii, ixo_ii, rem_ii, nb_1, nb_0, nb_bb, bb_0, hI_gv, Int.toNat_of_nonneg, Int.cast_ofNat_Int, ht_sI, ht_sJ, ht_sR, hn_sI, hn_sJ, hn_sR, hR_sI, hR_sJ, kI_v, kV_v, kJ_v, true_and, and_true, forall_eq, tg, ln, rf, ne_eq, not_false_eq_true, forall_const, not_true_eq_false, false_implies, gv_sIn, gv_sIi]
            unfold cK
            rw [g3, Bool.true_and, el]
            by_cases e : x = lk m p (k - 1)
            · subst e; rw [ud_eq, decide_eq_true ⟨g4, rfl⟩]; rfl
            · rw [ud_ne e, gB x x0 x1, decide_eq_false (fun e2 => e e2.2.symm)]
              show B x = B x + 0
              omega
          · simp (disch := first | omega | decide | assumption | exact st_ne s0 (by decide) (by decide) (by decide) | exact dyn_ne (by assumption) (by decide) | fail) only [Int.reduceAdd, Int.reduceSub, Int.reduceNeg, ii_add, ii_sub, ii_mul, ii_lt, ii_le, ii_eq, ixn_ii, ixo_ii, rem_ii, nb_1, nb_0, nb_bb, bb_0, hI_gv, Int.toNat_of_nonneg, Int.cast_ofNat_Int, ht_sI, ht_sJ, ht_sR, hn_sI, hn_sJ, hn_sR, hR_sI, hR_sJ, kI_v, kV_v, kJ_v, true_and, and_true, forall_eq, tg, ln, rf, ne_eq, not_false_eq_true, forall_const, not_true_eq_false, false_implies, gv_sIn, gv_sIi]
            rw [ud_ne (by decide)]; exact gC
          · simp (disch := first | omega | decide | assumption | exact st_ne s0 (by decide) (by decide) (by decide) | exact dyn_ne (by assumption) (by decide) | fail) only [Int.reduceAdd, Int.reduceSub, Int.reduceNeg, ii_add, ii_sub, ii_mul, ii_lt, ii_le, ii_eq, ixn_ii, ixo_ii, rem_ii, nb_1, nb_0, nb_bb, bb_0, hI_gv, Int.toNat_of_nonneg, Int.cast_ofNat_Int, ht_sI, ht_sJ, ht_sR, hn_sI, hn_sJ, hn_sR, hR_sI, hR_sJ, kI_v, kV_v, kJ_v, true_and, and_true, forall_eq, tg, ln, rf, ne_eq, not_false_eq_true, forall_const, not_true_eq_false, false_implies, gv_sIn, gv_sIi]
            exact ud_eq _ _ _
        · rw [sm_s]; unfold eK
          rw [decide_eq_false (fun e => g4 e.1), Bool.and_false]
          show _ = A x + (0 + _); omega
        · rw [sm_s]; exact Int.add_assoc _ _ _
        · rw [sm_s]; unfold eR
          rw [decide_eq_false g4, Bool.and_false]
          show _ = a + (0 + _); omega
        · rw [sm_s]; unfold cR
          rw [g3, decide_eq_true g4]
          show _ = b + (1 + _); omega
    · obtain rfl : n = 0 := by omega
      refine q h fa (gst_c g (fun x _ _ => ?_) (fun x _ _ => ?_) ?_ ?_)
      · rw [sm_0, Int.add_zero]
      · rw [sm_0, Int.add_zero]
      · rw [sm_0, Int.add_zero]
      · rw [sm_0, Int.add_zero]
theorem k_gatherJ_28 (ok : tr_ok E) (t0 : stat ad h0) {ss : Nat} (c : cst ad h0 ss m one two H L) (v : vok m one two H L) {l : Int} (l0 : 0 ≤ l) (l1 : l ≤ 64) : ∀ (n : Nat) (p : Int) (A B : Int → Int) (a b : Int) (h : tr_H), p + n = m 106 → 0 ≤ p → bnd A B a b (13 * p) → fr ad pC f0 false h0 h → gst ad h A B a b → (∀ h', fr ad pC f0 false h0 h' → gst ad h' (fun x => A x + sm (ov m l (eK m x)) p n) (fun y => B y + sm (ov m l (cK m y)) p n) (a + sm (ov m l (eR m)) p n) (b + sm (ov m l (cR m)) p n) → Q (.inl none) h') → tr_G E 8 Q 28 [some (.inr (.inr (ad 2))), some (.inr (.inr ss)), some (.inl (ii l)), some (.inl (ii p)), none] [] h 0 0
  | n, p, A, B, a, b, h, hk, h1, bd, fa, g, q => by
    refine T_X1_gather_28 ok ?_
    have s0 := st_fr t0 fa
    have c' := cst_fr t0 fa pC_lt c
    obtain ⟨c0, nv, c2, c3, c4, c5⟩ := id c'
    have vm := v_m v
    have v5 := v_5 v
    have hl := lab_rg (p := p) v
    simp (disch := first | omega | decide | assumption | exact st_ne s0 (by decide) (by decide) (by decide) | exact dyn_ne (by assumption) (by decide) | fail) only [Int.reduceAdd, Int.reduceSub, Int.reduceNeg, ii_add, ii_sub, ii_mul, ii_lt, ii_le, ii_eq, ixn_ii, ixo_ii, rem_ii, nb_1, nb_0, nb_bb, bb_0, hI_gv, Int.toNat_of_nonneg, Int.cast_ofNat_Int, ht_sI, ht_sJ, ht_sR, hn_sI, hn_sJ, hn_sR, hR_sI, hR_sJ, kI_v, kV_v, kJ_v, true_and, and_true, forall_eq, tg, ln, rf, ne_eq, not_false_eq_true, forall_const, not_true_eq_false, false_implies, W_X1_gather_28, st_t s0, c0, c2, c3, c4, nv.1]
    refine ⟨fun h2 => ⟨by omega, ?_⟩, fun g2 => ?_⟩
    · obtain ⟨n, rfl⟩ : ∃ n', n = n' + 1 := ⟨n - 1, by omega⟩
      have pk := c5 p h1 h2
      obtain ⟨q0, q1, q2, q3, q4, q5, q6, q7⟩ := v_p v h1 h2
      refine k_labelOf ok nv pk v ?_
      simp (disch := first | omega | decide | assumption | exact st_ne s0 (by decide) (by decide) (by decide) | exact dyn_ne (by assumption) (by decide) | fail) only [Int.reduceAdd, Int.reduceSub, Int.reduceNeg, ii_add, ii_sub, ii_mul, ii_lt, ii_le, ii_eq, ixn_ii, ixo_ii, rem_ii, nb_1, nb_0, nb_bb, bb_0, hI_gv, Int.toNat_of_nonneg, Int.cast_ofNat_Int, ht_sI, ht_sJ, ht_sR, hn_sI, hn_sJ, hn_sR, hR_sI, hR_sJ, kI_v, kV_v, kJ_v, true_and, and_true, forall_eq, tg, ln, rf, ne_eq, not_false_eq_true, forall_const, not_true_eq_false, false_implies, st_t s0, c0, nv.1]
      refine ⟨fun g3 => ?_, fun g3 => ?_⟩
      · refine T_X1_gatherOf ok ?_
        refine k_gatherOf_2 ok s0 nv pk v h1 h2 (z := 13 * p) (by omega) (by omega) (fd m p 6 + 1).toNat 0 A B a b h (by omega) (by omega) ?_ fr_rfl g (fun h2 a2 g2 => ?_)
        · rw [Int.add_zero]; exact bd
        simp (disch := first | omega | decide | assumption | exact st_ne s0 (by decide) (by decide) (by decide) | exact dyn_ne (by assumption) (by decide) | fail) only [Int.reduceAdd, Int.reduceSub, Int.reduceNeg, ii_add, ii_sub, ii_mul, ii_lt, ii_le, ii_eq, ixn_ii, ixo_ii, rem_ii, nb_1, nb_0, nb_bb, bb_0, hI_gv, Int.toNat_of_nonneg, Int.cast_ofNat_Int, ht_sI, ht_sJ, ht_sR, hn_sI, hn_sJ, hn_sR, hR_sI, hR_sJ, kI_v, kV_v, kJ_v, true_and, and_true, forall_eq, tg, ln, rf, ne_eq, not_false_eq_true, forall_const, not_true_eq_false, false_implies]
        refine k_gatherJ_28 ok t0 c v l0 l1 n (p + 1) _ _ _ _ h2 (by omega) (by omega) ?_ (fr_tr fa a2) g2 (fun h' a' g' => q h' a' (gst_c g' (fun x _ _ => ?_) (fun x _ _ => ?_) ?_ ?_))
        · have hs := fun (f : Int → Int) (hf : ∀ k, 0 ≤ f k ∧ f k ≤ 1) => sm_rg (f := f) (lo := 0) (hi := 1) (fd m p 6 + 1).toNat 0 (fun k _ _ => hf k)
          refine bnd_s bd (by omega) (fun x => ?_) (fun x => ?_) ?_ ?_
          · have := hs (eK m x p) (fun k => b2_rg _); omega
          · have := hs (cK m x p) (fun k => b2_rg _); omega
          · have := hs (eR m p) (fun k => b2_rg _); omega
          · have := hs (cR m p) (fun k => b2_rg _); omega
        · rw [sm_s, ov, if_pos g3]; exact Int.add_assoc _ _ _
        · rw [sm_s, ov, if_pos g3]; exact Int.add_assoc _ _ _
        · rw [sm_s, ov, if_pos g3]; exact Int.add_assoc _ _ _
        · rw [sm_s, ov, if_pos g3]; exact Int.add_assoc _ _ _
      · refine k_gatherJ_28 ok t0 c v l0 l1 n (p + 1) A B a b h (by omega) (by omega) ?_ fa g (fun h' a' g' => q h' a' (gst_c g' (fun x _ _ => ?_) (fun x _ _ => ?_) ?_ ?_))
        · obtain ⟨bA, bB, bC, bD⟩ := bd
          exact ⟨fun x x0 x1 => by have := bA x x0 x1; omega, fun x x0 x1 => by have := bB x x0 x1; omega, by omega, by omega⟩
        · rw [sm_s, ov, if_neg g3, Int.zero_add]
        · rw [sm_s, ov, if_neg g3, Int.zero_add]
        · rw [sm_s, ov, if_neg g3, Int.zero_add]
        · rw [sm_s, ov, if_neg g3, Int.zero_add]
    · obtain rfl : n = 0 := by omega
      refine q h fa (gst_c g (fun x _ _ => ?_) (fun x _ _ => ?_) ?_ ?_)
      · rw [sm_0, Int.add_zero]
      · rw [sm_0, Int.add_zero]
      · rw [sm_0, Int.add_zero]
      · rw [sm_0, Int.add_zero]
theorem k_gatherJ (ok : tr_ok E) (s0 : stat ad h) {ss : Nat} (c : cst ad h ss m one two H L) (v : vok m one two H L) {l : Int} (l0 : 0 ≤ l) (l1 : l ≤ 64) (q : ∀ h', fr ad pC f0 false h h' → gst ad h' (en m l) (ca m l) (el m l) (cl m l) → Q (.inl none) h') : tr_C E 8 [.inr (.inr (ad 2)), .inr (.inr ss), .inl (ii l)] h Q := by
  refine T_X1_gather ok ?_
  have vm := v_m v
  simp (disch := first | omega | decide | assumption | exact st_ne s0 (by decide) (by decide) (by decide) | exact dyn_ne (by assumption) (by decide) | fail) only [Int.reduceAdd, Int.reduceSub, Int.reduceNeg, ii_add, ii_sub, ii_mul, ii_lt, ii_le, ii_eq, ixn_ii, ixo_ii, rem_ii, nb_1, nb_0, nb_bb, bb_0, hI_gv, Int.toNat_of_nonneg, Int.cast_ofNat_Int, ht_sI, ht_sJ, ht_sR, hn_sI, hn_sJ, hn_sR, hR_sI, hR_sJ, kI_v, kV_v, kJ_v, true_and, and_true, forall_eq, tg, ln, rf, ne_eq, not_false_eq_true, forall_const, not_true_eq_false, false_implies, W_X1_gather, st_t s0, st_r s0]
  refine k_fill ok (st_t s0 (by decide)) (by rw [st_n s0 (by decide)]; decide) ?_
  rw [kV_v, st_n s0 (by decide)]
  simp (disch := first | omega | decide | assumption | exact st_ne s0 (by decide) (by decide) (by decide) | exact dyn_ne (by assumption) (by decide) | fail) only [Int.reduceAdd, Int.reduceSub, Int.reduceNeg, ii_add, ii_sub, ii_mul, ii_lt, ii_le, ii_eq, ixn_ii, ixo_ii, rem_ii, nb_1, nb_0, nb_bb, bb_0, hI_gv, Int.toNat_of_nonneg, Int.cast_ofNat_Int, ht_sI, ht_sJ, ht_sR, hn_sI, hn_sJ, hn_sR, hR_sI, hR_sJ, kI_v, kV_v, kJ_v, true_and, and_true, forall_eq, tg, ln, rf, ne_eq, not_false_eq_true, forall_const, not_true_eq_false, false_implies, ht_fl, hn_fl, hR_fl, st_t s0, st_r s0]
  refine k_fill ok (st_t s0 (by decide)) (by rw [hn_fl, st_n s0 (by decide)]; decide) ?_
  rw [kV_v, hn_fl, st_n s0 (by decide)]
  simp (disch := first | omega | decide | assumption | exact st_ne s0 (by decide) (by decide) (by decide) | exact dyn_ne (by assumption) (by decide) | fail) only [Int.reduceAdd, Int.reduceSub, Int.reduceNeg, ii_add, ii_sub, ii_mul, ii_lt, ii_le, ii_eq, ixn_ii, ixo_ii, rem_ii, nb_1, nb_0, nb_bb, bb_0, hI_gv, Int.toNat_of_nonneg, Int.cast_ofNat_Int, ht_sI, ht_sJ, ht_sR, hn_sI, hn_sJ, hn_sR, hR_sI, hR_sJ, kI_v, kV_v, kJ_v, true_and, and_true, forall_eq, tg, ln, rf, ne_eq, not_false_eq_true, forall_const, not_true_eq_false, false_implies, ht_fl, hn_fl, hR_fl, st_t s0, st_r s0]
  refine k_gatherJ_28 ok s0 c v l0 l1 (m 106).toNat 0 (fun _ => 0) (fun _ => 0) 0 0 _ (by omega) (by omega) ⟨fun x _ _ => ⟨Int.le_refl _, Int.le_refl _⟩, fun x _ _ => ⟨Int.le_refl _, Int.le_refl _⟩, by omega, by omega⟩ (fr_sI (fr_sI (fr_fl (fr_fl fr_rfl rfl) rfl) rfl) rfl) ⟨fun x x0 x1 => ?_, fun x x0 x1 => ?_, ?_, ?_⟩ (fun h' a' g' => q h' a' (gst_c g' (fun x _ _ => ?_) (fun x _ _ => ?_) ?_ ?_))
  · rw [gv_sIn (st_ne s0 (by decide) (by decide) (by decide)), gv_sIn (st_ne s0 (by decide) (by decide) (by decide)), gv_fln (st_ne s0 (by decide) (by decide) (by decide)), gv_fl _ _ _ _ (by decide) (by decide)]
    exact if_pos ⟨x0, x1⟩
  · rw [gv_sIn (st_ne s0 (by decide) (by decide) (by decide)), gv_sIn (st_ne s0 (by decide) (by decide) (by decide)), gv_fl _ _ _ _ (by decide) (by decide)]
    exact if_pos ⟨x0, x1⟩
  · rw [gv_sIi (by decide) (by decide), ud_ne (by decide), gv_sIi (by decide) (by decide)]
    exact ud_eq _ _ _
  · rw [gv_sIi (by decide) (by decide)]
    exact ud_eq _ _ _
  · show 0 + _ = _; rw [Int.zero_add]; rfl
  · show 0 + _ = _; rw [Int.zero_add]; rfl
  · rw [Int.zero_add]; rfl
  · rw [Int.zero_add]; rfl
theorem k_hasReports (ok : tr_ok E) (s0 : stat ad h) {A B : Int → Int} {a b : Int} (g : gst ad h A B a b) (a0 : 0 ≤ a) (a1 : a ≤ 1000) (b0 : 0 ≤ b) (b1 : b ≤ 1000) (q : Q (.inl (some (.inl (bb (decide (a + b ≠ 0)))))) h) : tr_C E 10 [.inr (.inr (ad 2))] h Q := by
  refine T_X1_hasReports ok ?_
  obtain ⟨gA, gB, gC, gD⟩ := g
  simp (disch := first | omega | decide | assumption | exact st_ne s0 (by decide) (by decide) (by decide) | exact dyn_ne (by assumption) (by decide) | fail) only [Int.reduceAdd, Int.reduceSub, Int.reduceNeg, ii_add, ii_sub, ii_mul, ii_lt, ii_le, ii_eq, ixn_ii, ixo_ii, rem_ii, nb_1, nb_0, nb_bb, bb_0, hI_gv, Int.toNat_of_nonneg, Int.cast_ofNat_Int, ht_sI, ht_sJ, ht_sR, hn_sI, hn_sJ, hn_sR, hR_sI, hR_sJ, kI_v, kV_v, kJ_v, true_and, and_true, forall_eq, tg, ln, rf, ne_eq, not_false_eq_true, forall_const, not_true_eq_false, false_implies, W_X1_hasReports, st_t s0, gC, gD]
  refine ⟨fun g2 => ?_, fun g2 => ?_⟩
  · rw [decide_eq_false (by omega)] at q; exact q
  · rw [decide_eq_true (by omega)] at q; exact q
end GATH
