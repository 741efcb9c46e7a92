/-! TEXT: all lines; the reference -/
def txL (t : Int → Int) (n H : Int) : Nat → Int → (Int → Int) → (Int → Int) → (Int → Int) → Int → LR
  | 0, p, m, o, w, L => .inr (p, m, o, w, L)
  | k + 1, p, m, o, w, L => if bl t n p < n then (match lnE t n (lnOne t m o w n (bl t n p) H L) with
    | .inl x => .inl x
    | .inr (p', m', o', w', L') => txL t n H k p' m' o' w' L') else .inr (bl t n p, m, o, w, L)
section TX9
variable {E : tr_Env} {ad : Nat → Nat} {h h0 h1 : tr_H} {Q : tr_Q} {t m one two : Int → Int} {n s p H L a b k z : Int}
theorem txL_X {k : Nat} {x y : Int} (g : bl t n p < n) (e : lnE t n (lnOne t m one two n (bl t n p) H L) = .inl (x, y)) : txL t n H (k + 1) p m one two L = .inl (x, y) := by
  have e1 : txL t n H (k + 1) p m one two L = (match lnE t n (lnOne t m one two n (bl t n p) H L) with
    | .inl x => .inl x
    | .inr (p', m', o', w', L') => txL t n H k p' m' o' w' L') := if_pos g
  rw [e1, e]
theorem txL_Y {k : Nat} {p' L' : Int} {m' o' w' : Int → Int} (g : bl t n p < n) (e : lnE t n (lnOne t m one two n (bl t n p) H L) = .inr (p', m', o', w', L')) : txL t n H (k + 1) p m one two L = txL t n H k p' m' o' w' L' := by
  have e1 : txL t n H (k + 1) p m one two L = (match lnE t n (lnOne t m one two n (bl t n p) H L) with
    | .inl x => .inl x
    | .inr (p', m', o', w', L') => txL t n H k p' m' o' w' L') := if_pos g
  rw [e1, e]
theorem txL_Z {k : Nat} (g : ¬ bl t n p < n) : txL t n H (k + 1) p m one two L = .inr (bl t n p, m, one, two, L) := if_neg g
theorem c_115X (ok : tr_ok E) {k w : Int} (r : rY ad h k w) (q : ∀ h', fr ad pN fNx false h h' → gv h' (ad 23) 20 = w → Q (.inl (some (.inl (ii (k - 10))))) h') : tr_G E 151 Q 115 [some (.inr (.inr (ad 23))), none, none] [] h 0 0 := by
  refine T_X8_text_115 ok ?_
  obtain ⟨s, e18, e19, k0⟩ := r
  have kb := gv_rg h (ad 23) 18
  rw [e18] at kb
  have wb := gv_rg h (ad 23) 19
  rw [e19] at wb
  have e2 : gv (hsI h (ad 23) 20 (ii w)) (ad 23) = ud (gv h (ad 23)) 20 w := gv_sIi (by omega) (by omega)
  have e28 : gv (hsI h (ad 23) 20 (ii w)) (ad 23) 18 = k := by rw [e2, ud_ne (by decide)]; exact e18
  have fin := q (hsI h (ad 23) 20 (ii w)) (fr_sFs rfl) (by rw [e2, ud_eq])
  simp (disch := first | omega | decide | assumption | exact st_ne s0 (by decide) (by decide) (by decide) | exact dyn_ne (by assumption) (by decide) | fail) only [Int.reduceAdd, Int.reduceSub, Int.reduceNeg, ii_add, ii_sub, ii_mul, ii_lt, ii_le, ii_eq, ixn_ii, ixo_ii, rem_ii, nb_1, nb_0, nb_bb, bb_0, hI_gv, Int.toNat_of_nonneg, Int.cast_ofNat_Int, ht_sI, ht_sJ, ht_sR, hn_sI, hn_sJ, hn_sR, hR_sI, hR_sJ, kI_v, kV_v, kJ_v, true_and, and_true, forall_eq, tg, ln, rf, ne_eq, not_false_eq_true, forall_const, not_true_eq_false, false_implies, W_X8_text_115, st_t s, e18, e19, e28]
  exact ⟨fun g => by omega, fun _ => ⟨fun g => by omega, fun _ => ⟨fun g => by omega, fun _ => fin⟩⟩⟩
theorem c_text_115 (ok : tr_ok E) : ∀ (k : Nat) (h : tr_H) (p : Int) (m one two : Int → Int) (L : Int), n - p < k → rS ad h t n p → rN ad h m one two H L → vk m one two H L → (∀ kd wh, txL t n H k p m one two L = .inl (kd, wh) → ∀ h', fr ad pN fNx false h h' → gv h' (ad 23) 20 = wh → Q (.inl (some (.inl (ii (kd - 10))))) h') → (∀ p' m' o' w' L', txL t n H k p m one two L = .inr (p', m', o', w', L') → vk m' o' w' H L' → ∀ h', fr ad pN fNx false h h' → rN ad h' m' o' w' H L' → gv h' (ad 23) 20 = -1 → tr_G E 151 Q 183 [some (.inr (.inr (ad 23))), none, some (.inl (ii 0))] [] h' 0 0) → tr_G E 151 Q 115 [some (.inr (.inr (ad 23))), none, none] [] h 0 0 := by
  intro k
  induction k with
  | zero =>
    intro h p m one two L hk r
    have := r.1.2.2.2.2.2.1
    omega
  | succ k ih =>
    intro h p m one two L hk r rn v qX qY
    refine T_X8_text_115 ok ?_
    obtain ⟨rb, e18⟩ := id r
    have s0 := rb.1
    simp (disch := first | omega | decide | assumption | exact st_ne s0 (by decide) (by decide) (by decide) | exact dyn_ne (by assumption) (by decide) | fail) only [Int.reduceAdd, Int.reduceSub, Int.reduceNeg, ii_add, ii_sub, ii_mul, ii_lt, ii_le, ii_eq, ixn_ii, ixo_ii, rem_ii, nb_1, nb_0, nb_bb, bb_0, hI_gv, Int.toNat_of_nonneg, Int.cast_ofNat_Int, ht_sI, ht_sJ, ht_sR, hn_sI, hn_sJ, hn_sR, hR_sI, hR_sJ, kI_v, kV_v, kJ_v, true_and, and_true, forall_eq, tg, ln, rf, ne_eq, not_false_eq_true, forall_const, not_true_eq_false, false_implies, Int.reduceEq, Int.reduceLT, Int.reduceLE, implies_true, and_self, reduceCtorEq, false_and, W_X8_text_115, st_t s0, e18]
    refine c_sign ok rb (fun h1 f1 g1 r1 => ?_)
    change gv h1 (ad 23) = ud (gv h (ad 23)) 16 (bl t n p) at g1
    change rB ad h1 t n (bl t n p) at r1
    show kI _ _ (.inl (some (.inl (ii (if bl t n p < n then t (bl t n p) else 0))))) h1
    obtain ⟨s1, e33, e15, e16, p0, p1, n0, n1⟩ := id r1
    have a18 : gv h1 (ad 23) 18 = 0 := by rw [g1, ud_ne (by decide)]; exact e18
    have tb := gv_rg h1 (ad 33) (bl t n p)
    rw [e33] at tb
    have rn1 := rN_fr s0 f1 rn
    have rS1 : rS ad h1 t n (bl t n p) := ⟨r1, a18⟩
    have hs : bl t n (bl t n p) = bl t n p := skp_i _ _ _
    by_cases c : bl t n p < n
    · rw [if_pos c]
      have vv := v.1
      have vH := v_H vv
      have vL := v_L vv
      have v0 := v_0 vv
      have v24 : (2 ≤ m 2 ∧ m 2 ≤ 997) ∧ (0 ≤ m 4 ∧ m 4 < m 2) := ⟨vv.2.2.2.2.2.1, vv.2.2.2.2.2.2.2.1⟩
      have go : tr_C E 150 [.inr (.inr (ad 23))] h1 (kV (fun h3 => tr_G E 151 Q 115 [some (.inr (.inr (ad 23))), none, none] [] h3 0 0) (fun E h' => Q (.inr E) h')) := by
        refine c_oneLine ok rS1 rn1 vH.1 vH.2 vL.1 vL.2 v0.1 v0.2 v24.1.1 v24.1.2 v24.2.1 (by omega) (fun x y e h2 f2 r2 => ?_) (fun p' m' o' w' L' e h2 f2 r2 n2 => ?_)
        · rw [hs] at e
          exact c_115X ok r2 (fun h3 f3 g3 => qX _ _ (txL_X c e) h3 (fr_tr (fNm f1) (fr_tr f2 f3)) g3)
        · rw [hs] at e
          have w := lnE_ok (s := bl t n p) (fun _ _ _ _ _ e' => lnOne_ok v e') e
          have bg := bl_ge (t := t) (n := n) (p := p)
          refine ih h2 p' m' o' w' L' (by omega) r2 n2 w.1 (fun kd wh e3 h3 f3 g3 => qX kd wh (by rw [txL_Y c e]; exact e3) h3 (fr_tr (fNm f1) (fr_tr f2 f3)) g3) (fun p2 m2 o2 w2 L2 e3 v3 h3 f3 n3 g3 => qY p2 m2 o2 w2 L2 (by rw [txL_Y c e]; exact e3) v3 h3 (fr_tr (fNm f1) (fr_tr f2 f3)) n3 g3)
      simp (disch := first | omega | decide | assumption | exact st_ne s0 (by decide) (by decide) (by decide) | exact dyn_ne (by assumption) (by decide) | fail) only [Int.reduceAdd, Int.reduceSub, Int.reduceNeg, ii_add, ii_sub, ii_mul, ii_lt, ii_le, ii_eq, ixn_ii, ixo_ii, rem_ii, nb_1, nb_0, nb_bb, bb_0, hI_gv, Int.toNat_of_nonneg, Int.cast_ofNat_Int, ht_sI, ht_sJ, ht_sR, hn_sI, hn_sJ, hn_sR, hR_sI, hR_sJ, kI_v, kV_v, kJ_v, true_and, and_true, forall_eq, tg, ln, rf, ne_eq, not_false_eq_true, forall_const, not_true_eq_false, false_implies, st_t s1, e15, e16, a18]
      exact ⟨fun g => ⟨fun _ => go, fun g2 => absurd c g2⟩, fun g => go⟩
    · rw [if_neg c]
      have e2 : gv (hsI h1 (ad 23) 20 (ii (-1))) (ad 23) = ud (gv h1 (ad 23)) 20 (-1) := gv_sIi (by omega) (by omega)
      have e28 : gv (hsI h1 (ad 23) 20 (ii (-1))) (ad 23) 18 = 0 := by rw [e2, ud_ne (by decide)]; exact a18
      have f2 : fr ad pN fNx false h1 (hsI h1 (ad 23) 20 (ii (-1))) := fr_sFs rfl
      obtain ⟨j1, j2, j3, j4, j5⟩ := id rn1
      have fin := qY _ _ _ _ _ (txL_Z c) v _ (fr_tr (fNm f1) f2) ⟨by rw [gv_sIn (st_ne s1 (by decide) (by decide) (by decide))]; exact j1, by rw [gv_sIn (st_ne s1 (by decide) (by decide) (by decide))]; exact j2, by rw [gv_sIn (st_ne s1 (by decide) (by decide) (by decide))]; exact j3, by rw [e2, ud_ne (by decide)]; exact j4, by rw [e2, ud_ne (by decide)]; exact j5⟩ (by rw [e2, ud_eq])
      simp (disch := first | omega | decide | assumption | exact st_ne s0 (by decide) (by decide) (by decide) | exact dyn_ne (by assumption) (by decide) | fail) only [Int.reduceAdd, Int.reduceSub, Int.reduceNeg, ii_add, ii_sub, ii_mul, ii_lt, ii_le, ii_eq, ixn_ii, ixo_ii, rem_ii, nb_1, nb_0, nb_bb, bb_0, hI_gv, Int.toNat_of_nonneg, Int.cast_ofNat_Int, ht_sI, ht_sJ, ht_sR, hn_sI, hn_sJ, hn_sR, hR_sI, hR_sJ, kI_v, kV_v, kJ_v, true_and, and_true, forall_eq, tg, ln, rf, ne_eq, not_false_eq_true, forall_const, not_true_eq_false, false_implies, Int.reduceEq, Int.reduceLT, Int.reduceLE, implies_true, and_self, reduceCtorEq, false_and, st_t s1, e15, e16, a18, e28]
      exact ⟨fun g => absurd g c, fun _ => fin⟩
end TX9
