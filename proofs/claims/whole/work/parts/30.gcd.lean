/-! FRACTIONS -/
theorem lrem_jj (x y : Int64) : tr_lrem x y = jj (x.toInt.tmod y.toInt) := by
  have hx := Int64.le_toInt x
  have hx2 := Int64.toInt_lt x
  have hy := Int64.le_toInt y
  have hy2 := Int64.toInt_lt y
  have hd : x / y = jj (x.toInt.tdiv y.toInt) := by
    have := Int64.ofInt_tdiv (a := x.toInt) (b := y.toInt) (by rw [Int64.toInt_minValue]; omega) (by rw [Int64.toInt_maxValue]; omega) (by rw [Int64.toInt_minValue]; omega) (by rw [Int64.toInt_maxValue]; omega)
    rw [Int64.ofInt_toInt, Int64.ofInt_toInt] at this
    exact this.symm
  unfold tr_lrem
  rw [hd]
  have e1 : y = jj y.toInt := (jj_tj y).symm
  have e2 : x = jj x.toInt := (jj_tj x).symm
  have e3 : x - jj (x.toInt.tdiv y.toInt) * y = jj x.toInt - jj (x.toInt.tdiv y.toInt) * jj y.toInt := by rw [jj_tj, jj_tj]
  rw [e3, jj_mul, jj_sub, Int.tmod_def, Int.mul_comm y.toInt]
def gcJ (x y : Int64) : Nat → Int64
  | 0 => x
  | n + 1 => if y = jj 0 then x else gcJ y (tr_lrem x y) n
def enJ (x y : Int64) : Nat → Prop
  | 0 => y = jj 0
  | n + 1 => y = jj 0 ∨ enJ y (tr_lrem x y) n
def fb2 (n : Nat) : Nat × Nat := Nat.rec (0, 1) (fun _ p => (p.2, p.1 + p.2)) n
theorem fb2_s (n : Nat) : fb2 (n + 1) = ((fb2 n).2, (fb2 n).1 + (fb2 n).2) := rfl
theorem jj_ne {y : Int64} (h : ¬ y = jj 0) : y.toInt ≠ 0 := by
  intro e
  apply h
  rw [← jj_tj y, e]
theorem lrem_ti {x y : Int64} (h : ¬ y = jj 0) : (tr_lrem x y).toInt = x.toInt.tmod y.toInt ∧ (tr_lrem x y).toInt.natAbs < y.toInt.natAbs ∧ (tr_lrem x y).toInt.natAbs = x.toInt.natAbs % y.toInt.natAbs := by
  have h0 := jj_ne h
  have hy := Int64.le_toInt y
  have hy2 := Int64.toInt_lt y
  have hm : (x.toInt.tmod y.toInt).natAbs = x.toInt.natAbs % y.toInt.natAbs := Int.natAbs_tmod _ _
  have hl : x.toInt.natAbs % y.toInt.natAbs < y.toInt.natAbs := Nat.mod_lt _ (by omega)
  have e : (tr_lrem x y).toInt = x.toInt.tmod y.toInt := by
    rw [lrem_jj, tj_jj (by omega) (by omega)]
  rw [e, hm]
  exact ⟨rfl, hl, rfl⟩
theorem enJ_fb : ∀ (n : Nat) (x y : Int64), y.toInt.natAbs < x.toInt.natAbs → ¬ enJ x y n → (fb2 (n + 1)).1 ≤ y.toInt.natAbs ∧ (fb2 (n + 1)).2 ≤ x.toInt.natAbs
  | 0, x, y, h1, h2 => by
    have h0 := jj_ne h2
    show 1 ≤ _ ∧ 1 ≤ _
    constructor <;> omega
  | n + 1, x, y, h1, h2 => by
    unfold enJ at h2
    have h3 : ¬ y = jj 0 := fun e => h2 (Or.inl e)
    have h4 : ¬ enJ y (tr_lrem x y) n := fun e => h2 (Or.inr e)
    obtain ⟨e1, e2, e3⟩ := lrem_ti (x := x) h3
    obtain ⟨a, b⟩ := enJ_fb n y (tr_lrem x y) e2 h4
    rw [fb2_s (n + 1)]
    refine ⟨b, ?_⟩
    have h0 := jj_ne h3
    have hq := Nat.div_add_mod x.toInt.natAbs y.toInt.natAbs
    have hp : 1 ≤ x.toInt.natAbs / y.toInt.natAbs := (Nat.le_div_iff_mul_le (by omega)).mpr (by omega)
    have hm : y.toInt.natAbs * 1 ≤ y.toInt.natAbs * (x.toInt.natAbs / y.toInt.natAbs) := Nat.mul_le_mul_left _ hp
    omega
theorem fb_big : Nat.ble 9223372036854775809 (fb2 100).1 = true := by decide +kernel
theorem enJ_100 (x y : Int64) : enJ x y 100 := by
  by_cases h : y = jj 0
  · exact Or.inl h
  · refine Or.inr (Classical.byContradiction fun h4 => ?_)
    obtain ⟨e1, e2, e3⟩ := lrem_ti (x := x) h
    obtain ⟨a, b⟩ := enJ_fb 99 y (tr_lrem x y) e2 h4
    have h5 := Nat.le_of_ble_eq_true fb_big
    have h6 := Int64.le_toInt (tr_lrem x y)
    have h7 := Int64.toInt_lt (tr_lrem x y)
    have h8 : (fb2 (99 + 1)).1 = (fb2 100).1 := rfl
    omega
theorem gcJ_ne : ∀ (n : Nat) (x y : Int64), ¬ x = jj 0 → ¬ gcJ x y n = jj 0
  | 0, x, y, h => h
  | n + 1, x, y, h => by
    unfold gcJ
    split
    · exact h
    · next h2 => exact gcJ_ne n y _ h2
theorem gcJ_n0 {x y : Int64} (h : ¬ y = jj 0) : ¬ gcJ x y 100 = jj 0 := by
  show ¬ gcJ x y (99 + 1) = jj 0
  unfold gcJ
  rw [if_neg h]
  exact gcJ_ne 99 y _ h
def frc (x y : Int64) (low : Bool) : Int64 := (if low then y else x) / gcJ x y 100
section GCD
variable {E : tr_Env} {ad : Nat → Nat} {h : tr_H} {Q : tr_Q}
theorem k_cd_9 (ok : tr_ok E) : ∀ (n : Nat) (x y : Int64) (i : Int), i + n = 100 → 0 ≤ i → Q (.inl (some (.inr (.inl (gcJ x y n))))) h → tr_G E 118 Q 9 [none, none, none, none, some (.inr (.inl x)), none, some (.inr (.inl y)), none, some (.inl (ii i)), none, none] [] h 0 0
  | n, x, y, i, hk, g0, q => by
    refine T_X7_commonDivisor_9 ok ?_
    have z0 : jj ((0 : Fin 2).val : Nat) = jj 0 := rfl
    simp (disch := first | omega | decide | assumption | exact st_ne s0 (by decide) (by decide) (by decide) | exact dyn_ne (by assumption) (by decide) | fail) only [Int.reduceAdd, Int.reduceSub, Int.reduceNeg, ii_add, ii_sub, ii_mul, ii_lt, ii_le, ii_eq, ixn_ii, ixo_ii, rem_ii, nb_1, nb_0, nb_bb, bb_0, hI_gv, Int.toNat_of_nonneg, Int.cast_ofNat_Int, ht_sI, ht_sJ, ht_sR, hn_sI, hn_sJ, hn_sR, hR_sI, hR_sJ, kI_v, kV_v, kJ_v, true_and, and_true, forall_eq, tg, ln, rf, ne_eq, not_false_eq_true, forall_const, not_true_eq_false, false_implies, W_X7_commonDivisor_9, z0, cmp0]
    refine ⟨fun g => ?_, fun g => ?_⟩
    · obtain ⟨n, rfl⟩ : ∃ n', n = n' + 1 := ⟨n - 1, by omega⟩
      unfold gcJ at q
      refine ⟨fun g2 => ?_, fun g2 => ⟨g2, ?_⟩⟩
      · rw [if_pos g2] at q; exact q
      · rw [if_neg g2] at q
        exact k_cd_9 ok n y _ (i + 1) (by omega) (by omega) q
    · obtain rfl : n = 0 := by omega
      exact q
theorem k_reduced (ok : tr_ok E) {x y : Int64} {b : Bool} (hy : ¬ y = jj 0) (q : Q (.inl (some (.inr (.inl (frc x y b))))) h) : tr_C E 117 [.inr (.inl x), .inr (.inl y), .inl (bb b)] h Q := by
  refine T_X7_reduced ok ?_
  have z0 : jj ((0 : Fin 2).val : Nat) = jj 0 := rfl
  have hg := gcJ_n0 (x := x) hy
  refine T_X7_commonDivisor ok (k_cd_9 ok 100 x y 0 (by omega) (by omega) ?_)
  simp (disch := first | omega | decide | assumption | exact st_ne s0 (by decide) (by decide) (by decide) | exact dyn_ne (by assumption) (by decide) | fail) only [Int.reduceAdd, Int.reduceSub, Int.reduceNeg, ii_add, ii_sub, ii_mul, ii_lt, ii_le, ii_eq, ixn_ii, ixo_ii, rem_ii, nb_1, nb_0, nb_bb, bb_0, hI_gv, Int.toNat_of_nonneg, Int.cast_ofNat_Int, ht_sI, ht_sJ, ht_sR, hn_sI, hn_sJ, hn_sR, hR_sI, hR_sJ, kI_v, kV_v, kJ_v, true_and, and_true, forall_eq, tg, ln, rf, ne_eq, not_false_eq_true, forall_const, not_true_eq_false, false_implies, z0, cmp0]
  refine ⟨fun g => absurd g hg, fun _ => ⟨fun g => ⟨hg, ?_⟩, fun g => ⟨hg, ?_⟩⟩⟩
  · rw [g] at q; exact q
  · rw [Bool.not_eq_false] at g
    rw [g] at q; exact q
theorem c_common_6 (ok : tr_ok E) : ∀ (n : Nat) (x y : Int64), enJ x y n → Q (.inl (some (.inr (.inl (gcJ x y n))))) h → tr_G E 191 Q 6 [none, none, none, none, some (.inr (.inl x)), none, some (.inr (.inl y)), none, none, none] [] h 0 0
  | n, x, y, he, q => by
    refine T_X8_common_6 ok ?_
    have z0 : jj ((0 : Fin 2).val : Nat) = jj 0 := rfl
    simp (disch := first | omega | decide | assumption | exact st_ne s0 (by decide) (by decide) (by decide) | exact dyn_ne (by assumption) (by decide) | fail) only [Int.reduceAdd, Int.reduceSub, Int.reduceNeg, ii_add, ii_sub, ii_mul, ii_lt, ii_le, ii_eq, ixn_ii, ixo_ii, rem_ii, nb_1, nb_0, nb_bb, bb_0, hI_gv, Int.toNat_of_nonneg, Int.cast_ofNat_Int, ht_sI, ht_sJ, ht_sR, hn_sI, hn_sJ, hn_sR, hR_sI, hR_sJ, kI_v, kV_v, kJ_v, true_and, and_true, forall_eq, tg, ln, rf, ne_eq, not_false_eq_true, forall_const, not_true_eq_false, false_implies, W_X8_common_6, z0, cmp0]
    cases n with
    | zero =>
      have : y = jj 0 := he
      exact ⟨fun _ => q, fun g => absurd this g⟩
    | succ n =>
      unfold gcJ at q
      refine ⟨fun g2 => ?_, fun g2 => ⟨g2, ?_⟩⟩
      · rw [if_pos g2] at q; exact q
      · rw [if_neg g2] at q
        exact c_common_6 ok n y _ (he.resolve_left g2) q
theorem c_part (ok : tr_ok E) {x y : Int64} {b : Bool} (hy : ¬ y = jj 0) (q : Q (.inl (some (.inr (.inl (frc x y b))))) h) : tr_C E 192 [.inr (.inl x), .inr (.inl y), .inl (bb b)] h Q := by
  refine T_X8_part ok ?_
  have hg := gcJ_n0 (x := x) hy
  refine T_X8_common ok (c_common_6 ok 100 x y (enJ_100 x y) ?_)
  simp (disch := first | omega | decide | assumption | exact st_ne s0 (by decide) (by decide) (by decide) | exact dyn_ne (by assumption) (by decide) | fail) only [Int.reduceAdd, Int.reduceSub, Int.reduceNeg, ii_add, ii_sub, ii_mul, ii_lt, ii_le, ii_eq, ixn_ii, ixo_ii, rem_ii, nb_1, nb_0, nb_bb, bb_0, hI_gv, Int.toNat_of_nonneg, Int.cast_ofNat_Int, ht_sI, ht_sJ, ht_sR, hn_sI, hn_sJ, hn_sR, hR_sI, hR_sJ, kI_v, kV_v, kJ_v, true_and, and_true, forall_eq, tg, ln, rf, ne_eq, not_false_eq_true, forall_const, not_true_eq_false, false_implies]
  refine ⟨fun g => ⟨hg, ?_⟩, fun g => ⟨hg, ?_⟩⟩
  · rw [g] at q; exact q
  · rw [Bool.not_eq_false] at g
    rw [g] at q; exact q
end GCD
