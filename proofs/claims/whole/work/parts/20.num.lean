/-! NUMBERS: ints and longs as integers within their range -/
theorem ii_add (a b : Int) : ii a + ii b = ii (a + b) := (Int32.ofInt_add a b).symm
theorem ii_sub (a b : Int) : ii a - ii b = ii (a - b) := (Int32.ofInt_sub a b).symm
theorem ii_mul (a b : Int) : ii a * ii b = ii (a * b) := (Int32.ofInt_mul a b).symm
theorem ii_ti (x : Int32) : ii x.toInt = x := Int32.ofInt_toInt x
theorem ti_ii {a : Int} (h1 : -2147483648 ≤ a) (h2 : a ≤ 2147483647) : (ii a).toInt = a := Int32.toInt_ofInt_of_le (by omega) (by omega)
theorem ti_rg (x : Int32) : -2147483648 ≤ x.toInt ∧ x.toInt ≤ 2147483647 := by
  have h1 := Int32.toInt_lt x
  have h2 := Int32.le_toInt x
  constructor <;> omega
theorem ii_lt {a b : Int} (h1 : -2147483648 ≤ a) (h2 : a ≤ 2147483647) (h3 : -2147483648 ≤ b) (h4 : b ≤ 2147483647) : (ii a < ii b) = (a < b) := by
  rw [Int32.lt_iff_toInt_lt, ti_ii h1 h2, ti_ii h3 h4]
theorem ii_le {a b : Int} (h1 : -2147483648 ≤ a) (h2 : a ≤ 2147483647) (h3 : -2147483648 ≤ b) (h4 : b ≤ 2147483647) : (ii a ≤ ii b) = (a ≤ b) := by
  rw [Int32.le_iff_toInt_le, ti_ii h1 h2, ti_ii h3 h4]
theorem ii_eq {a b : Int} (h1 : -2147483648 ≤ a) (h2 : a ≤ 2147483647) (h3 : -2147483648 ≤ b) (h4 : b ≤ 2147483647) : (ii a = ii b) = (a = b) := by
  rw [← Int32.toInt_inj, ti_ii h1 h2, ti_ii h3 h4]
theorem ixn_ii {a : Int} (h1 : 0 ≤ a) (h2 : a ≤ 2147483647) : ixn (ii a) = a.toNat := by
  have := ti_ii (a := a) (by omega) h2
  show (ii a).toInt.toNat = a.toNat
  rw [this]
theorem ixo_ii {a : Int} {n : Nat} (h1 : -2147483648 ≤ a) (h2 : a ≤ 2147483647) : ixo (ii a) n = (0 ≤ a ∧ a < n) := by
  unfold ixo; rw [ti_ii h1 h2]
theorem rem_ii {a b : Int} (h1 : 0 ≤ a) (h2 : a ≤ 2147483647) (h3 : 0 < b) (h4 : b ≤ 2147483647) : tr_rem (ii a) (ii b) = ii (a % b) := by
  have hd : ii a / ii b = ii (a / b) := by
    have := Int32.ofInt_tdiv (a := a) (b := b) (by rw [Int32.toInt_minValue]; omega) (by rw [Int32.toInt_maxValue]; omega) (by rw [Int32.toInt_minValue]; omega) (by rw [Int32.toInt_maxValue]; omega)
    rw [Int.tdiv_eq_ediv_of_nonneg h1] at this
    exact this.symm
  unfold tr_rem
  rw [hd, ii_mul, ii_sub, Int.emod_def, Int.mul_comm b]
theorem nb_1 : tr_nb (ii 1) = ii 1 := by decide
theorem nb_0 : tr_nb (ii 0) = ii 0 := by decide
theorem i64_ii {a : Int} (h1 : -2147483648 ≤ a) (h2 : a ≤ 2147483647) : (ii a).toInt64 = jj a := Int32.toInt64_ofInt (by rw [Int32.toInt_minValue]; omega) (by rw [Int32.toInt_maxValue]; omega)
theorem jj_add (a b : Int) : jj a + jj b = jj (a + b) := (Int64.ofInt_add a b).symm
theorem jj_sub (a b : Int) : jj a - jj b = jj (a - b) := (Int64.ofInt_sub a b).symm
theorem jj_mul (a b : Int) : jj a * jj b = jj (a * b) := (Int64.ofInt_mul a b).symm
theorem tj_jj {a : Int} (h1 : -9223372036854775808 ≤ a) (h2 : a ≤ 9223372036854775807) : (jj a).toInt = a := Int64.toInt_ofInt_of_le (by omega) (by omega)
theorem jj_eq {a b : Int} (h1 : -9223372036854775808 ≤ a) (h2 : a ≤ 9223372036854775807) (h3 : -9223372036854775808 ≤ b) (h4 : b ≤ 9223372036854775807) : (jj a = jj b) = (a = b) := by
  rw [← Int64.toInt_inj, tj_jj h1 h2, tj_jj h3 h4]
theorem jj_tj (x : Int64) : jj x.toInt = x := Int64.ofInt_toInt x
theorem cmp0 (x y : Int64) : (lg_cmp x y = ii 0) = (x = y) := by
  have : ii 0 = 0 := by decide
  rw [this]; exact propext (lg_cmp_eq x y)
/-- a row changed at a place -/
def ud (f : Int → Int) (k v : Int) : Int → Int := fun z => if z = k then v else f z
theorem ud_eq (f : Int → Int) (k v : Int) : ud f k v k = v := if_pos rfl
theorem ud_ne {f : Int → Int} {k v z : Int} (h : z ≠ k) : ud f k v z = f z := if_neg h
/-- what a cell holds, as integers -/
def gv (h : tr_H) (r : Nat) (z : Int) : Int := if z < 0 then 0 else (hI h r z.toNat).toInt
theorem gv_nat (h : tr_H) (r k : Nat) : gv h r (k : Int) = (hI h r k).toInt := by
  unfold gv
  rw [if_neg (by omega)]
  rfl
theorem hI_gv (h : tr_H) (r k : Nat) : hI h r k = ii (gv h r (k : Int)) := by rw [gv_nat, ii_ti]
theorem gv_rg (h : tr_H) (r : Nat) (z : Int) : -2147483648 ≤ gv h r z ∧ gv h r z ≤ 2147483647 := by
  unfold gv
  split
  · constructor <;> omega
  · exact ti_rg _
theorem gv_lo (h : tr_H) (r : Nat) (z : Int) : -2147483648 ≤ gv h r z := (gv_rg h r z).1
theorem gv_hi (h : tr_H) (r : Nat) (z : Int) : gv h r z ≤ 2147483647 := (gv_rg h r z).2
theorem gv_sI (h : tr_H) (r k : Nat) (v : Int32) : gv (hsI h r k v) r = ud (gv h r) (k : Int) v.toInt := by
  funext z
  unfold ud
  by_cases hz : z < 0
  · rw [if_neg (by omega)]; unfold gv; rw [if_pos hz, if_pos hz]
  · by_cases hk : z = k
    · subst hk
      rw [if_pos rfl, gv_nat]
      show (up2 (hI h) r k v r k).toInt = _
      unfold up2; rw [if_pos rfl, if_pos rfl]
    · rw [if_neg hk]; unfold gv; rw [if_neg hz, if_neg hz]
      show (up2 (hI h) r k v r z.toNat).toInt = _
      unfold up2; rw [if_pos rfl, if_neg (by omega)]
theorem gv_sIi {h : tr_H} {r k : Nat} {a : Int} (h1 : -2147483648 ≤ a) (h2 : a ≤ 2147483647) : gv (hsI h r k (ii a)) r = ud (gv h r) (k : Int) a := by
  rw [gv_sI, ti_ii h1 h2]
theorem gv_sIn {h : tr_H} {r k r2 : Nat} {v : Int32} (hr : r2 ≠ r) : gv (hsI h r k v) r2 = gv h r2 := by
  funext z
  unfold gv
  split
  · rfl
  · show (up2 (hI h) r k v r2 z.toNat).toInt = _
    unfold up2; rw [if_neg hr]
theorem gv_sJ (h : tr_H) (r k : Nat) (v : Int64) : gv (hsJ h r k v) = gv h := rfl
theorem gv_sR (h : tr_H) (r k v : Nat) : gv (hsR h r k v) = gv h := rfl
theorem gv_cp (h : tr_H) (q sp r dp n : Nat) : gv (hcp h q sp r dp n) = gv h := rfl
theorem ht_sI (h : tr_H) (r k : Nat) (v : Int32) : ht (hsI h r k v) = ht h := rfl
theorem ht_sJ (h : tr_H) (r k : Nat) (v : Int64) : ht (hsJ h r k v) = ht h := rfl
theorem ht_sR (h : tr_H) (r k v : Nat) : ht (hsR h r k v) = ht h := rfl
theorem ht_cp (h : tr_H) (q sp r dp n : Nat) : ht (hcp h q sp r dp n) = ht h := rfl
theorem hn_sI (h : tr_H) (r k : Nat) (v : Int32) : hn (hsI h r k v) = hn h := rfl
theorem hn_sJ (h : tr_H) (r k : Nat) (v : Int64) : hn (hsJ h r k v) = hn h := rfl
theorem hn_sR (h : tr_H) (r k v : Nat) : hn (hsR h r k v) = hn h := rfl
theorem hn_cp (h : tr_H) (q sp r dp n : Nat) : hn (hcp h q sp r dp n) = hn h := rfl
theorem hR_sI (h : tr_H) (r k : Nat) (v : Int32) : hR (hsI h r k v) = hR h := rfl
theorem hR_sJ (h : tr_H) (r k : Nat) (v : Int64) : hR (hsJ h r k v) = hR h := rfl
theorem hJ_sI (h : tr_H) (r k : Nat) (v : Int32) : hJ (hsI h r k v) = hJ h := rfl
theorem hJ_sR (h : tr_H) (r k v : Nat) : hJ (hsR h r k v) = hJ h := rfl
theorem hJ_sJ (h : tr_H) (r k : Nat) (v : Int64) : hJ (hsJ h r k v) r k = v := by
  show up2 (hJ h) r k v r k = v
  unfold up2; rw [if_pos rfl, if_pos rfl]
theorem kI_v (f : Int32 → tr_H → Prop) (x : Nat → tr_H → Prop) (v : Int32) (h : tr_H) : kI f x (.inl (some (.inl v))) h = f v h := rfl
theorem kI_x (f : Int32 → tr_H → Prop) (x : Nat → tr_H → Prop) (v : Nat) (h : tr_H) : kI f x (.inr v) h = x v h := rfl
theorem kJ_v (f : Int64 → tr_H → Prop) (x : Nat → tr_H → Prop) (v : Int64) (h : tr_H) : kJ f x (.inl (some (.inr (.inl v)))) h = f v h := rfl
theorem kJ_x (f : Int64 → tr_H → Prop) (x : Nat → tr_H → Prop) (v : Nat) (h : tr_H) : kJ f x (.inr v) h = x v h := rfl
theorem kV_v (f : tr_H → Prop) (x : Nat → tr_H → Prop) (h : tr_H) : kV f x (.inl none) h = f h := rfl
theorem kV_x (f : tr_H → Prop) (x : Nat → tr_H → Prop) (v : Nat) (h : tr_H) : kV f x (.inr v) h = x v h := rfl
/-- a truth value as an int -/
def bb (b : Bool) : Int32 := if b then ii 1 else ii 0
theorem bb_t : bb true = ii 1 := rfl
theorem bb_f : bb false = ii 0 := rfl
theorem bb_0 (b : Bool) : (bb b = ii 0) = (b = false) := by cases b <;> decide
theorem bb_1 (b : Bool) : (bb b = ii 1) = (b = true) := by cases b <;> decide
theorem nb_bb (b : Bool) : tr_nb (bb b) = bb b := by cases b <;> decide
/-- a sum over a stretch -/
def sm (f : Int → Int) : Int → Nat → Int
  | _, 0 => 0
  | i, n + 1 => f i + sm f (i + 1) n
theorem sm_0 (f : Int → Int) (i : Int) : sm f i 0 = 0 := rfl
theorem sm_s (f : Int → Int) (i : Int) (n : Nat) : sm f i (n + 1) = f i + sm f (i + 1) n := rfl
theorem sm_congr {f g : Int → Int} : ∀ (n : Nat) (i : Int), (∀ j, i ≤ j → j < i + n → f j = g j) → sm f i n = sm g i n
  | 0, _, _ => rfl
  | n + 1, i, h => by
    rw [sm_s, sm_s, h i (Int.le_refl _) (by omega), sm_congr n (i + 1) (fun j h1 h2 => h j (by omega) (by omega))]
theorem sm_rg {f : Int → Int} {lo hi : Int} : ∀ (n : Nat) (i : Int), (∀ j, i ≤ j → j < i + n → lo ≤ f j ∧ f j ≤ hi) → lo * n ≤ sm f i n ∧ sm f i n ≤ hi * n
  | 0, _, _ => by simp [sm_0]
  | n + 1, i, h => by
    have h1 := h i (Int.le_refl _) (by omega)
    have h2 := sm_rg n (i + 1) (fun j h1 h2 => h j (by omega) (by omega))
    rw [sm_s]
    have e1 : lo * ((n + 1 : Nat) : Int) = lo * n + lo := by rw [Int.natCast_succ, Int.mul_add, Int.mul_one]
    have e2 : hi * ((n + 1 : Nat) : Int) = hi * n + hi := by rw [Int.natCast_succ, Int.mul_add, Int.mul_one]
    rw [e1, e2]
    constructor <;> omega
theorem sm_snoc (f : Int → Int) : ∀ (n : Nat) (i : Int), sm f i (n + 1) = sm f i n + f (i + n)
  | 0, i => by simp [sm_s, sm_0]
  | n + 1, i => by
    rw [sm_s f i (n + 1), sm_snoc f n (i + 1), sm_s f i n]
    have : i + 1 + (n : Int) = i + ((n + 1 : Nat) : Int) := by omega
    rw [this]
    omega
