/-! ESTIMATES -/
theorem sm_add (f g : Int → Int) : ∀ (n : Nat) (i : Int), sm (fun j => f j + g j) i n = sm f i n + sm g i n
  | 0, _ => rfl
  | n + 1, i => by
    rw [sm_s, sm_s, sm_s, sm_add f g n (i + 1)]
    omega
theorem sm_swap (f : Int → Int → Int) (b : Int) (k : Nat) : ∀ (n : Nat) (a : Int), sm (fun j => sm (f j) b k) a n = sm (fun i => sm (fun j => f j i) a n) b k
  | 0, a => (sm_zero k b (fun _ => rfl)).symm
  | n + 1, a => by
    rw [sm_s, sm_swap f b k n (a + 1), ← sm_add]
    exact sm_congr k b (fun j _ _ => rfl)
theorem sm_ind (a c : Int) : ∀ (n : Nat) (i : Int), sm (fun j => if j = a then c else 0) i n = if i ≤ a ∧ a < i + n then c else 0
  | 0, i => by rw [sm_0, if_neg (by omega)]
  | n + 1, i => by
    rw [sm_s, sm_ind a c n (i + 1)]
    by_cases h : i = a
    · rw [if_pos h, if_neg (by omega), if_pos (by omega)]; omega
    · rw [if_neg h]
      by_cases h2 : i + 1 ≤ a ∧ a < i + 1 + n
      · rw [if_pos h2, if_pos (by omega)]; omega
      · rw [if_neg h2, if_neg (by omega)]; rfl
theorem sm_sh (f : Int → Int) : ∀ (n : Nat) (i : Int), sm f (i + 1) n = sm (fun j => f (j + 1)) i n
  | 0, _ => rfl
  | n + 1, i => by rw [sm_s, sm_s, sm_sh f n (i + 1)]
theorem sm_rev (F : Int → Int) (c : Int) : ∀ (n : Nat) (i : Int), sm (fun f => F (c - f)) i n = sm F (c - i - n + 1) n
  | 0, _ => rfl
  | n + 1, i => by
    rw [sm_s, sm_rev F c n (i + 1), sm_snoc]
    have e1 : c - (i + 1) - (n : Int) + 1 = c - i - ((n + 1 : Nat) : Int) + 1 := by omega
    have e2 : c - i - ((n + 1 : Nat) : Int) + 1 + (n : Int) = c - i := by omega
    rw [e1, e2]
    omega
theorem em1 {a b : Int} (hb : 0 < b) : (if a % b + 1 < b then a % b + 1 else 0) = (a + 1) % b := by
  have h1 := Int.emod_nonneg a (by omega : b ≠ 0)
  have h2 := Int.emod_lt_of_pos a hb
  have e : (a + 1) % b = (a % b + 1) % b := by rw [Int.emod_add_emod]
  rw [e]
  by_cases h : a % b + 1 < b
  · rw [if_pos h, Int.emod_eq_of_lt (by omega) h]
  · rw [if_neg h, show a % b + 1 = b by omega, Int.emod_self]
/-- one of the two, for what lies below twice the base -/
theorem em2 {x b : Int} (h1 : 0 ≤ x) (h2 : x < 2 * b) : x % b = if x < b then x else x - b := by
  by_cases h : x < b
  · rw [if_pos h, Int.emod_eq_of_lt h1 h]
  · rw [if_neg h]
    have : x % b = (x - b) % b := by
      have := Int.sub_emod_right x b
      exact this.symm
    rw [this, Int.emod_eq_of_lt (by omega) (by omega)]
def ic (m : Int → Int) (w i p k : Int) : Bool := if w = 0 then decide (k = 0 ∧ fd m p 0 = i) else if w = 3 then decide (k = 0) else decide (0 < k ∧ lk m p (k - 1) = i)
def wt (m : Int → Int) (w p : Int) : Int := if w = 2 then fd m p 3 else 1
def ctK (m : Int → Int) (w i key p k : Int) : Int := if ic m w i p k && (decide (key = -1) || decide ((mixB m p k (m 1) + key) % m 2 < m 3)) then wt m w p else 0
def cts (m : Int → Int) (w i key : Int) : Int := sm (fun p => sm (ctK m w i key p) 0 (fd m p 6 + 1).toNat) 0 (m 106).toNat
def cwK (m : Int → Int) (w i x p k : Int) : Int := if ic m w i p k && decide (mixB m p k (m 1) = x) then wt m w p else 0
def cw (m : Int → Int) (w i x : Int) : Int := sm (fun p => sm (cwK m w i x p) 0 (fd m p 6 + 1).toNat) 0 (m 106).toNat
def rs (W : Int → Int) (b f : Int) (n : Nat) : Int := sm (fun j => W ((f + j) % b)) 0 n
theorem rs_sl (W : Int → Int) (b f : Int) (n : Nat) : rs W b f n + (W ((f + n) % b) - W (f % b)) = rs W b (f + 1) n := by
  have e1 := sm_snoc (fun j => W ((f + j) % b)) n 0
  rw [sm_s, sm_sh] at e1
  have e2 : sm (fun j => (fun j => W ((f + j) % b)) (j + 1)) 0 n = rs W b (f + 1) n := by
    unfold rs
    refine sm_congr n 0 (fun j _ _ => ?_)
    show W ((f + (j + 1)) % b) = W ((f + 1 + j) % b)
    rw [show f + (j + 1) = f + 1 + j by omega]
  rw [e2] at e1
  simp only [Int.add_zero, Int.zero_add] at e1
  show rs W b f n + _ = _
  have e3 : sm (fun j => W ((f + j) % b)) 0 n = rs W b f n := rfl
  rw [e3] at e1
  omega
theorem ring_ix {b r x key j : Int} (h1 : 0 ≤ x) (h2 : x < b) (h3 : 0 ≤ key) (h4 : key < b) (h5 : r ≤ b) (h6 : 0 ≤ j) (h7 : j < r) : (x = (b - key + j) % b) = (j = (x + key) % b) := by
  rw [em2 (by omega) (by omega), em2 (by omega) (by omega)]
  apply propext
  constructor
  · intro e
    split at e <;> split <;> omega
  · intro e
    split at e <;> split <;> omega
theorem rs_cts {m one two : Int → Int} {H L w i key : Int} (v : vok m one two H L) (h3 : 0 ≤ key) (h4 : key < m 2) : rs (cw m w i) (m 2) (m 2 - key) (m 3).toNat = cts m w i key := by
  have v2 := v_2 v
  have v3 := v_3 v
  unfold rs cw cts
  rw [sm_swap]
  refine sm_congr _ _ (fun p _ _ => ?_)
  rw [sm_swap]
  refine sm_congr _ _ (fun k _ _ => ?_)
  have hx := mixB_rg (p := p) (k := k) v (m 1)
  have y1 := Int.emod_nonneg (mixB m p k (m 1) + key) (by omega : m 2 ≠ 0)
  have e : sm (fun j => cwK m w i ((m 2 - key + j) % m 2) p k) 0 (m 3).toNat = sm (fun j => if j = (mixB m p k (m 1) + key) % m 2 then (if ic m w i p k then wt m w p else 0) else 0) 0 (m 3).toNat := by
    refine sm_congr _ _ (fun j j0 j1 => ?_)
    have := ring_ix (r := m 3) hx.1 hx.2 h3 h4 v3.2 j0 (by omega)
    unfold cwK
    by_cases g : j = (mixB m p k (m 1) + key) % m 2
    · have g2 := this.mpr g
      rw [if_pos g, decide_eq_true g2, Bool.and_true]
    · rw [if_neg g, decide_eq_false (fun e => g (this.mp e)), Bool.and_false]
      rfl
  rw [e, sm_ind]
  unfold ctK
  rw [decide_eq_false (show ¬ key = -1 by omega), Bool.false_or]
  by_cases g : (mixB m p k (m 1) + key) % m 2 < m 3
  · rw [if_pos (by omega), decide_eq_true g, Bool.and_true]
  · rw [if_neg (by omega), decide_eq_false g, Bool.and_false]
    rfl
theorem rs_f {m one two : Int → Int} {H L w i f : Int} (v : vok m one two H L) (h3 : 0 ≤ f) (h4 : f < m 2) : rs (cw m w i) (m 2) f (m 3).toNat = cts m w i ((m 2 - f) % m 2) := by
  have v2 := v_2 v
  have v3 := v_3 v
  rw [← rs_cts v (Int.emod_nonneg _ (by omega)) (Int.emod_lt_of_pos _ (by omega))]
  unfold rs
  refine sm_congr _ _ (fun j j0 j1 => ?_)
  congr 1
  rw [em2 (x := m 2 - f) (by omega) (by omega)]
  by_cases g : m 2 - f < m 2
  · rw [if_pos g]
    congr 1
    omega
  · rw [if_neg g]
    have : f = 0 := by omega
    subst this
    have e : m 2 - (m 2 - 0 - m 2) + j = j + m 2 := by omega
    rw [e, Int.add_emod_right, Int.zero_add]
theorem sm_ring (F : Int → Int) {b : Int} (hb : 0 < b) : sm (fun f => F ((b - f) % b)) 0 b.toNat = sm F 0 b.toNat := by
  obtain ⟨n, hn⟩ : ∃ n : Nat, b.toNat = n + 1 := ⟨b.toNat - 1, by omega⟩
  rw [hn, sm_s, sm_s]
  congr 1
  · rw [Int.sub_zero, Int.emod_self]
  · have e : sm (fun f => F ((b - f) % b)) (0 + 1) n = sm (fun f => F (b - f)) (0 + 1) n := sm_congr n _ (fun j j0 j1 => by
      rw [Int.emod_eq_of_lt (by omega) (by omega)])
    rw [e, sm_rev]
    congr 1
    omega
theorem wt_rg {m one two : Int → Int} {H L w p : Int} (v : vok m one two H L) (h1 : 0 ≤ p) (h2 : p < m 106) : 1 ≤ wt m w p ∧ wt m w p ≤ 200 := by
  obtain ⟨q0, q1, q2, q3, q4, q5, q6, q7⟩ := v_p v h1 h2
  unfold wt
  split <;> constructor <;> omega
theorem cwK_rg {m one two : Int → Int} {H L w i x p k : Int} (v : vok m one two H L) (h1 : 0 ≤ p) (h2 : p < m 106) : 0 ≤ cwK m w i x p k ∧ cwK m w i x p k ≤ 200 := by
  have := wt_rg (w := w) v h1 h2
  unfold cwK
  split <;> constructor <;> omega
theorem cwP_rg {m one two : Int → Int} {H L w i x p : Int} (v : vok m one two H L) (h1 : 0 ≤ p) (h2 : p < m 106) : 0 ≤ sm (cwK m w i x p) 0 (fd m p 6 + 1).toNat ∧ sm (cwK m w i x p) 0 (fd m p 6 + 1).toNat ≤ 2600 := by
  obtain ⟨q0, q1, q2, q3, q4, q5, q6, q7⟩ := v_p v h1 h2
  have := sm_rg (f := cwK m w i x p) (lo := 0) (hi := 200) (fd m p 6 + 1).toNat 0 (fun k _ _ => cwK_rg v h1 h2)
  constructor <;> omega
theorem cw_rg {m one two : Int → Int} {H L w i x : Int} (v : vok m one two H L) : 0 ≤ cw m w i x ∧ cw m w i x ≤ 104000 := by
  have vm := v_m v
  have := sm_rg (f := fun p => sm (cwK m w i x p) 0 (fd m p 6 + 1).toNat) (lo := 0) (hi := 2600) (m 106).toNat 0 (fun p h1 h2 => cwP_rg v h1 (by omega))
  unfold cw
  constructor <;> omega
theorem ctK_t (m : Int → Int) (w i p k : Int) : ctK m w i (-1) p k = if ic m w i p k then wt m w p else 0 := by
  unfold ctK
  rw [decide_eq_true (show (-1 : Int) = -1 from rfl), Bool.true_or, Bool.and_true]
theorem fr_hR {ad : Nat → Nat} {P : Nat → Bool} {F : Int → Bool} {h h' : tr_H} (a : fr ad P F false h h') {r k : Nat} (hr : ht h r ≠ 0) : hR h' r k = hR h r k := (a r hr).2.2.2 k (fun e => by cases e)
/-- what the sample holds -/
def wst (ad : Nat → Nat) (h : tr_H) (m : Int → Int) (W : Int → Int) (T : Int) : Prop := gv h (ad 4) 1 = m 2 ∧ gv h (ad 4) 2 = m 3 ∧ hJ h (ad 4) 3 = jj T ∧ ∀ x, 0 ≤ x → x < m 2 → gv h (ad 22) x = W x
section EST
variable {E : tr_Env} {ad : Nat → Nat} {h h0 : tr_H} {Q : tr_Q} {m one two : Int → Int} {H L : Int}
theorem k_clearS (ok : tr_ok E) (s0 : stat ad h) (v : vok m one two H L) (q : ∀ h', fr ad pC f0 false h h' → wst ad h' m (fun _ => 0) 0 → Q (.inl none) h') : tr_C E 60 [.inr (.inr (ad 4)), .inl (ii (m 2)), .inl (ii (m 3))] h Q := by
  refine T_X5_clear ok ?_
  obtain ⟨vH, vL, vl, v0, v1, v2, v3, v4, v5, vr, vm, vp⟩ := id v
  simp (disch := first | omega | decide | assumption | exact st_ne s0 (by decide) (by decide) (by decide) | exact dyn_ne (by assumption) (by decide) | fail) only [Int.reduceAdd, Int.reduceSub, Int.reduceNeg, ii_add, ii_sub, ii_mul, ii_lt, ii_le, ii_eq, ixn_ii, ixo_ii, rem_ii, nb_1, nb_0, nb_bb, bb_0, hI_gv, Int.toNat_of_nonneg, Int.cast_ofNat_Int, ht_sI, ht_sJ, ht_sR, hn_sI, hn_sJ, hn_sR, hR_sI, hR_sJ, kI_v, kV_v, kJ_v, true_and, and_true, forall_eq, tg, ln, rf, ne_eq, not_false_eq_true, forall_const, not_true_eq_false, false_implies, W_X5_clear, st_t s0, st_n s0, st_r s0, jz]
  refine k_fill ok ?_ ?_ ?_
  · simp (disch := first | omega | decide | assumption | exact st_ne s0 (by decide) (by decide) (by decide) | exact dyn_ne (by assumption) (by decide) | fail) only [Int.reduceAdd, Int.reduceSub, Int.reduceNeg, ii_add, ii_sub, ii_mul, ii_lt, ii_le, ii_eq, ixn_ii, ixo_ii, rem_ii, nb_1, nb_0, nb_bb, bb_0, hI_gv, Int.toNat_of_nonneg, Int.cast_ofNat_Int, ht_sI, ht_sJ, ht_sR, hn_sI, hn_sJ, hn_sR, hR_sI, hR_sJ, kI_v, kV_v, kJ_v, true_and, and_true, forall_eq, tg, ln, rf, ne_eq, not_false_eq_true, forall_const, not_true_eq_false, false_implies, st_t s0]
  · simp (disch := first | omega | decide | assumption | exact st_ne s0 (by decide) (by decide) (by decide) | exact dyn_ne (by assumption) (by decide) | fail) only [Int.reduceAdd, Int.reduceSub, Int.reduceNeg, ii_add, ii_sub, ii_mul, ii_lt, ii_le, ii_eq, ixn_ii, ixo_ii, rem_ii, nb_1, nb_0, nb_bb, bb_0, hI_gv, Int.toNat_of_nonneg, Int.cast_ofNat_Int, ht_sI, ht_sJ, ht_sR, hn_sI, hn_sJ, hn_sR, hR_sI, hR_sJ, kI_v, kV_v, kJ_v, true_and, and_true, forall_eq, tg, ln, rf, ne_eq, not_false_eq_true, forall_const, not_true_eq_false, false_implies, st_n s0]
    decide
  · simp (disch := first | omega | decide | assumption | exact st_ne s0 (by decide) (by decide) (by decide) | exact dyn_ne (by assumption) (by decide) | fail) only [Int.reduceAdd, Int.reduceSub, Int.reduceNeg, ii_add, ii_sub, ii_mul, ii_lt, ii_le, ii_eq, ixn_ii, ixo_ii, rem_ii, nb_1, nb_0, nb_bb, bb_0, hI_gv, Int.toNat_of_nonneg, Int.cast_ofNat_Int, ht_sI, ht_sJ, ht_sR, hn_sI, hn_sJ, hn_sR, hR_sI, hR_sJ, kI_v, kV_v, kJ_v, true_and, and_true, forall_eq, tg, ln, rf, ne_eq, not_false_eq_true, forall_const, not_true_eq_false, false_implies, st_n s0]
    refine q _ (fr_fl (fr_sJ (fr_sI (fr_sI fr_rfl rfl) rfl) rfl) rfl) ⟨?_, ?_, ?_, fun x x0 x1 => ?_⟩
    · rw [gv_fln (st_ne s0 (by decide) (by decide) (by decide)), gv_sJ, gv_sIi (by omega) (by omega), gv_sIi (by omega) (by omega)]
      rw [ud_ne (by decide)]; exact ud_eq _ _ _
    · rw [gv_fln (st_ne s0 (by decide) (by decide) (by decide)), gv_sJ, gv_sIi (by omega) (by omega)]
      exact ud_eq _ _ _
    · rw [hJ_fl]; exact hJ_sJ _ _ _ _
    · rw [gv_fl _ _ _ _ (by decide) (by decide)]
      exact if_pos ⟨x0, show x < 997 by omega⟩
theorem hJ_sJn {h : tr_H} {r k r2 : Nat} {v : Int64} (hr : r2 ≠ r) : hJ (hsJ h r k v) r2 = hJ h r2 := by
  funext j
  show up2 (hJ h) r k v r2 j = hJ h r2 j
  unfold up2; rw [if_neg hr]
theorem k_addS (ok : tr_ok E) (s0 : stat ad h) (v : vok m one two H L) {W : Int → Int} {T : Int} (ws : wst ad h m W T) {x y : Int} (h1 : 0 ≤ x) (h2 : x < m 2) (hw1 : 0 ≤ W x) (hw2 : W x ≤ 200000) (hy1 : 0 ≤ y) (hy2 : y ≤ 200) (q : ∀ h', fr ad pC f0 false h h' → wst ad h' m (ud W x (W x + y)) (T + y) → Q (.inl none) h') : tr_C E 61 [.inr (.inr (ad 4)), .inl (ii x), .inl (ii y)] h Q := by
  refine T_X5_add ok ?_
  obtain ⟨vH, vL, vl, v0, v1, v2, v3, v4, v5, vr, vm, vp⟩ := id v
  obtain ⟨w1, w2, w3, w4⟩ := ws
  have ex := w4 x h1 h2
  simp (disch := first | omega | decide | assumption | exact st_ne s0 (by decide) (by decide) (by decide) | exact dyn_ne (by assumption) (by decide) | fail) only [Int.reduceAdd, Int.reduceSub, Int.reduceNeg, ii_add, ii_sub, ii_mul, ii_lt, ii_le, ii_eq, ixn_ii, ixo_ii, rem_ii, nb_1, nb_0, nb_bb, bb_0, hI_gv, Int.toNat_of_nonneg, Int.cast_ofNat_Int, ht_sI, ht_sJ, ht_sR, hn_sI, hn_sJ, hn_sR, hR_sI, hR_sJ, kI_v, kV_v, kJ_v, true_and, and_true, forall_eq, tg, ln, rf, ne_eq, not_false_eq_true, forall_const, not_true_eq_false, false_implies, W_X5_add, st_t s0, st_n s0, st_r s0, w1, ex, hJ_sI, w3, i64_ii, jj_add]
  refine ⟨fun g => by omega, fun _ => ⟨fun _ => ⟨by omega, by omega, ?_⟩, fun g => absurd h2 g⟩⟩
  refine q _ (fr_sJ (fr_sI fr_rfl rfl) rfl) ⟨?_, ?_, ?_, fun z z0 z1 => ?_⟩
  · rw [gv_sJ, gv_sIn (st_ne s0 (by decide) (by decide) (by decide))]; exact w1
  · rw [gv_sJ, gv_sIn (st_ne s0 (by decide) (by decide) (by decide))]; exact w2
  · exact hJ_sJ _ _ _ _
  · rw [gv_sJ, gv_sIi (by omega) (by omega), Int.toNat_of_nonneg h1]
    by_cases e : z = x
    · subst e; rw [ud_eq, ud_eq]
    · rw [ud_ne e, ud_ne e]; exact w4 z z0 z1
theorem k_isCountedAt (ok : tr_ok E) {qq : Nat} {p : Int} (pk : pst ad h qq m two p) (v : vok m one two H L) (h1 : 0 ≤ p) (h2 : p < m 106) {k w i : Int} (h3 : 0 ≤ k) (h4 : k ≤ fd m p 6) (w1 : 0 ≤ w) (w2 : w ≤ 3) (i1 : 0 ≤ i) (i2 : i ≤ 24) (q : Q (.inl (some (.inl (bb (ic m w i p k))))) h) : tr_C E 41 [.inr (.inr qq), .inl (ii k), .inl (ii w), .inl (ii i)] h Q := by
  refine T_X3_isCountedAt ok ?_
  obtain ⟨q0, q1, q2, q3, q4, q5, q6, q7⟩ := v_p v h1 h2
  obtain ⟨k0, ka, kb, kc, kd, ke, kf, kg, kh, ⟨ha, hb, hc⟩, ⟨la, lb, lc⟩, kdy⟩ := id pk
  have vL := v_L v
  have vH := v_H v
  have hl : -1 ≤ lkk m p k ∧ lkk m p k < L := by
    unfold lkk
    split
    · omega
    · have := q7 (k - 1) (by omega) (by omega); omega
  unfold ic at q
  simp (disch := first | omega | decide | assumption | exact st_ne s0 (by decide) (by decide) (by decide) | exact dyn_ne (by assumption) (by decide) | fail) only [Int.reduceAdd, Int.reduceSub, Int.reduceNeg, ii_add, ii_sub, ii_mul, ii_lt, ii_le, ii_eq, ixn_ii, ixo_ii, rem_ii, nb_1, nb_0, nb_bb, bb_0, hI_gv, Int.toNat_of_nonneg, Int.cast_ofNat_Int, ht_sI, ht_sJ, ht_sR, hn_sI, hn_sJ, hn_sR, hR_sI, hR_sJ, kI_v, kV_v, kJ_v, true_and, and_true, forall_eq, tg, ln, rf, ne_eq, not_false_eq_true, forall_const, not_true_eq_false, false_implies, W_X3_isCountedAt, k0, ka, kb, kc, kd, ke, kf, kg, kh, ha, hb, hc, la, lb, lc]
  refine ⟨fun a => ⟨fun b => ⟨fun c => ?_, fun c => ?_⟩, fun b => ?_⟩, fun a => ⟨fun b => ⟨fun c => ?_, fun c => ?_⟩, fun b => ⟨fun c => ?_, fun c => ⟨by omega, fun d => ?_, fun d => ?_⟩⟩⟩⟩
  · rw [if_pos a, decide_eq_true ⟨b, c⟩] at q; exact q
  · rw [if_pos a, decide_eq_false (fun e => c e.2)] at q; exact q
  · rw [if_pos a, decide_eq_false (fun e => b e.1)] at q; exact q
  · rw [if_neg a, if_pos b, decide_eq_true c] at q; exact q
  · rw [if_neg a, if_pos b, decide_eq_false c] at q; exact q
  · rw [if_neg a, if_neg b, decide_eq_false (by omega)] at q; exact q
  · unfold lkk at d
    rw [if_neg (by omega)] at d
    rw [if_neg a, if_neg b, decide_eq_true ⟨by omega, d⟩] at q; exact q
  · unfold lkk at d
    rw [if_neg (by omega)] at d
    rw [if_neg a, if_neg b, decide_eq_false (fun e => d e.2)] at q; exact q
theorem wst_c {W W' : Int → Int} {T T' : Int} (ws : wst ad h m W T) (e1 : ∀ x, 0 ≤ x → x < m 2 → W x = W' x) (e2 : T = T') : wst ad h m W' T' := by
  subst e2
  exact ⟨ws.1, ws.2.1, ws.2.2.1, fun x x0 x1 => (ws.2.2.2 x x0 x1).trans (e1 x x0 x1)⟩
theorem k_weigh_73 (ok : tr_ok E) (c : kst ad h0 m one two H L) (v : vok m one two H L) {w i p : Int} (w1 : 0 ≤ w) (w2 : w ≤ 3) (i1 : 0 ≤ i) (i2 : i ≤ 24) (h1 : 0 ≤ p) (h2 : p < m 106) : ∀ (n : Nat) (k : Int) (W : Int → Int) (T : Int) (h : tr_H), k + n = fd m p 6 + 1 → 0 ≤ k → (∀ x, 0 ≤ x → x < m 2 → 0 ≤ W x ∧ W x ≤ 2600 * p + 200 * k) → fr ad pC f0 false h0 h → wst ad h m W T → (∀ h', fr ad pC f0 false h0 h' → wst ad h' m (fun x => W x + sm (cwK m w i x p) k n) (T + sm (ctK m w i (-1) p) k n) → tr_G E 116 Q 30 [some (.inr (.inr (ad 1))), some (.inl (ii w)), some (.inl (ii i)), some (.inr (.inr (hR h0 (hR h0 (ad 1) 3) 0))), some (.inl (ii (p + 1))), none, none, none] [] h' 0 0) → tr_G E 116 Q 73 [some (.inr (.inr (ad 1))), some (.inl (ii w)), some (.inl (ii i)), some (.inr (.inr (hR h0 (hR h0 (ad 1) 3) 0))), some (.inl (ii p)), some (.inr (.inr (hR h0 (hR h0 (hR h0 (ad 1) 3) 1) p.toNat))), some (.inl (ii (wt m w p))), some (.inl (ii k))] [] h 0 0
  | n, k, W, T, h, hk, k1, hW, a, ws, q => by
    refine T_X7_weigh_73 ok ?_
    have c' := kst_fr c a pC_lt
    have s0 := c'.1
    obtain ⟨c0, nn, c2, c3, c4, c5⟩ := id c.2
    have pk0 := c5 p h1 h2
    have pk := pst_fr c.1 a pC_lt pk0
    have nw := nst_fr c.1 a pC_lt nn
    obtain ⟨q0, q1, q2, q3, q4, q5, q6, q7⟩ := v_p v h1 h2
    obtain ⟨k0, ka, kb, kc, kd, ke, kf, kg, kh, ⟨ha, hb, hc⟩, ⟨la, lb, lc⟩, kdy⟩ := id pk
    obtain ⟨n0, n1, n2, -, -, -, -, ⟨ga, gb, g0, g1, g2, g3, g4⟩, nd⟩ := id nw
    have vm := v_m v
    have v1 := v_1 v
    have hwt := wt_rg (w := w) v h1 h2
    simp (disch := first | omega | decide | assumption | exact st_ne s0 (by decide) (by decide) (by decide) | exact dyn_ne (by assumption) (by decide) | fail) only [Int.reduceAdd, Int.reduceSub, Int.reduceNeg, ii_add, ii_sub, ii_mul, ii_lt, ii_le, ii_eq, ixn_ii, ixo_ii, rem_ii, nb_1, nb_0, nb_bb, bb_0, hI_gv, Int.toNat_of_nonneg, Int.cast_ofNat_Int, ht_sI, ht_sJ, ht_sR, hn_sI, hn_sJ, hn_sR, hR_sI, hR_sJ, kI_v, kV_v, kJ_v, true_and, and_true, forall_eq, tg, ln, rf, ne_eq, not_false_eq_true, forall_const, not_true_eq_false, false_implies, W_X7_weigh_73, st_t s0, k0, kg]
    refine ⟨fun g => ?_, fun g => ?_⟩
    · obtain ⟨n, rfl⟩ : ∃ n', n = n' + 1 := ⟨n - 1, by omega⟩
      have hx := mixB_rg (p := p) (k := k) v (m 1)
      have hW1 := hW _ hx.1 hx.2
      refine k_isCountedAt ok pk v h1 h2 k1 (by omega) w1 w2 i1 i2 ?_
      simp (disch := first | omega | decide | assumption | exact st_ne s0 (by decide) (by decide) (by decide) | exact dyn_ne (by assumption) (by decide) | fail) only [Int.reduceAdd, Int.reduceSub, Int.reduceNeg, ii_add, ii_sub, ii_mul, ii_lt, ii_le, ii_eq, ixn_ii, ixo_ii, rem_ii, nb_1, nb_0, nb_bb, bb_0, hI_gv, Int.toNat_of_nonneg, Int.cast_ofNat_Int, ht_sI, ht_sJ, ht_sR, hn_sI, hn_sJ, hn_sR, hR_sI, hR_sJ, kI_v, kV_v, kJ_v, true_and, and_true, forall_eq, tg, ln, rf, ne_eq, not_false_eq_true, forall_const, not_true_eq_false, false_implies, st_t s0, st_r s0, n0, ga, gb, g0]
      refine ⟨fun g5 => ?_, fun g5 => ⟨by omega, ?_⟩⟩
      · refine k_weigh_73 ok c v w1 w2 i1 i2 h1 h2 n (k + 1) W T h (by omega) (by omega) (fun x x0 x1 => ?_) a ws (fun h' a' ws' => q h' a' ?_)
        · have := hW x x0 x1; omega
        · refine wst_c ws' (fun x _ _ => ?_) ?_
          · rw [sm_s]
            unfold cwK
            rw [g5, Bool.false_and]
            show _ = W x + (0 + _)
            omega
          · rw [sm_s, ctK_t, g5]
            show _ = T + (0 + _)
            omega
      · rw [Bool.not_eq_false] at g5
        refine k_bareMix ok nw pk v h1 h2 (by omega) (by omega) (by omega) (by omega) ?_
        simp (disch := first | omega | decide | assumption | exact st_ne s0 (by decide) (by decide) (by decide) | exact dyn_ne (by assumption) (by decide) | fail) only [Int.reduceAdd, Int.reduceSub, Int.reduceNeg, ii_add, ii_sub, ii_mul, ii_lt, ii_le, ii_eq, ixn_ii, ixo_ii, rem_ii, nb_1, nb_0, nb_bb, bb_0, hI_gv, Int.toNat_of_nonneg, Int.cast_ofNat_Int, ht_sI, ht_sJ, ht_sR, hn_sI, hn_sJ, hn_sR, hR_sI, hR_sJ, kI_v, kV_v, kJ_v, true_and, and_true, forall_eq, tg, ln, rf, ne_eq, not_false_eq_true, forall_const, not_true_eq_false, false_implies, st_t s0]
        refine k_addS ok s0 v ws hx.1 hx.2 hW1.1 (by omega) (by omega) (by omega) (fun h2 a2 ws2 => ?_)
        simp (disch := first | omega | decide | assumption | exact st_ne s0 (by decide) (by decide) (by decide) | exact dyn_ne (by assumption) (by decide) | fail) only [Int.reduceAdd, Int.reduceSub, Int.reduceNeg, ii_add, ii_sub, ii_mul, ii_lt, ii_le, ii_eq, ixn_ii, ixo_ii, rem_ii, nb_1, nb_0, nb_bb, bb_0, hI_gv, Int.toNat_of_nonneg, Int.cast_ofNat_Int, ht_sI, ht_sJ, ht_sR, hn_sI, hn_sJ, hn_sR, hR_sI, hR_sJ, kI_v, kV_v, kJ_v, true_and, and_true, forall_eq, tg, ln, rf, ne_eq, not_false_eq_true, forall_const, not_true_eq_false, false_implies]
        refine k_weigh_73 ok c v w1 w2 i1 i2 h1 (by assumption) n (k + 1) _ _ h2 (by omega) (by omega) (fun x x0 x1 => ?_) (fr_tr a a2) ws2 (fun h' a' ws' => q h' a' ?_)
        · have := hW x x0 x1
          unfold ud
          split <;> omega
        · refine wst_c ws' (fun x _ _ => ?_) ?_
          · rw [sm_s]
            have e : cwK m w i x p k = if mixB m p k (m 1) = x then wt m w p else 0 := by
              unfold cwK
              rw [g5, Bool.true_and]
              by_cases e : mixB m p k (m 1) = x
              · rw [if_pos e, decide_eq_true e]; rfl
              · rw [if_neg e, decide_eq_false e]; rfl
            rw [e]
            by_cases e : x = mixB m p k (m 1)
            · subst e
              rw [ud_eq, if_pos rfl]; omega
            · rw [ud_ne e, if_neg (fun e2 => e e2.symm)]; omega
          · rw [sm_s, ctK_t, g5]
            show _ = T + (wt m w p + _)
            omega
    · obtain rfl : n = 0 := by omega
      refine q h a (wst_c ws (fun x _ _ => ?_) ?_)
      · rw [sm_0, Int.add_zero]
      · rw [sm_0, Int.add_zero]
theorem k_weigh_30 (ok : tr_ok E) (c : kst ad h0 m one two H L) (v : vok m one two H L) {w i : Int} (w1 : 0 ≤ w) (w2 : w ≤ 3) (i1 : 0 ≤ i) (i2 : i ≤ 24) : ∀ (n : Nat) (p : Int) (W : Int → Int) (T : Int) (h : tr_H), p + n = m 106 → 0 ≤ p → (∀ x, 0 ≤ x → x < m 2 → 0 ≤ W x ∧ W x ≤ 2600 * p) → fr ad pC f0 false h0 h → wst ad h m W T → (∀ h', fr ad pC f0 false h0 h' → wst ad h' m (fun x => W x + sm (fun p => sm (cwK m w i x p) 0 (fd m p 6 + 1).toNat) p n) (T + sm (fun p => sm (ctK m w i (-1) p) 0 (fd m p 6 + 1).toNat) p n) → Q (.inl none) h') → tr_G E 116 Q 30 [some (.inr (.inr (ad 1))), some (.inl (ii w)), some (.inl (ii i)), some (.inr (.inr (hR h0 (hR h0 (ad 1) 3) 0))), some (.inl (ii p)), none, none, none] [] h 0 0
  | n, p, W, T, h, hk, h1, hW, a, ws, q => by
    refine T_X7_weigh_30 ok ?_
    have c' := kst_fr c a pC_lt
    have s0 := c'.1
    obtain ⟨d0, dn, d2, d3, d4, d5⟩ := id c.2
    obtain ⟨c0, nn, c2, c3, c4, c5⟩ := id c'.2
    have e1 : hR h (ad 1) 3 = hR h0 (ad 1) 3 := fr_hR a (st_0 c.1 (by decide))
    have e2 : hR h (hR h0 (ad 1) 3) 1 = hR h0 (hR h0 (ad 1) 3) 1 := fr_hR a (by rw [d0]; decide)
    have vm := v_m v
    simp (disch := first | omega | decide | assumption | exact st_ne s0 (by decide) (by decide) (by decide) | exact dyn_ne (by assumption) (by decide) | fail) only [Int.reduceAdd, Int.reduceSub, Int.reduceNeg, ii_add, ii_sub, ii_mul, ii_lt, ii_le, ii_eq, ixn_ii, ixo_ii, rem_ii, nb_1, nb_0, nb_bb, bb_0, hI_gv, Int.toNat_of_nonneg, Int.cast_ofNat_Int, ht_sI, ht_sJ, ht_sR, hn_sI, hn_sJ, hn_sR, hR_sI, hR_sJ, kI_v, kV_v, kJ_v, true_and, and_true, forall_eq, tg, ln, rf, ne_eq, not_false_eq_true, forall_const, not_true_eq_false, false_implies, W_X7_weigh_30, st_t s0, c0, c2, c3, c4]
    refine ⟨fun h2 => ⟨by omega, ?_⟩, fun g => ?_⟩
    · obtain ⟨n, rfl⟩ : ∃ n', n = n' + 1 := ⟨n - 1, by omega⟩
      have e3 : hR h (hR h0 (hR h0 (ad 1) 3) 1) p.toNat = hR h0 (hR h0 (hR h0 (ad 1) 3) 1) p.toNat := fr_hR a (by rw [d2]; decide)
      obtain ⟨q0, q1, q2, q3, q4, q5, q6, q7⟩ := v_p v h1 h2
      have pk := c5 p h1 h2
      rw [e1, e2, e3] at pk
      rw [e1, e2]
      obtain ⟨k0, ka, kb, kc, kd, ke, kf, kg, kh, -⟩ := id pk
      have go : tr_G E 116 Q 73 [some (.inr (.inr (ad 1))), some (.inl (ii w)), some (.inl (ii i)), some (.inr (.inr (hR h0 (hR h0 (ad 1) 3) 0))), some (.inl (ii p)), some (.inr (.inr (hR h0 (hR h0 (hR h0 (ad 1) 3) 1) p.toNat))), some (.inl (ii (wt m w p))), some (.inl (ii 0))] [] h 0 0 := by
        refine k_weigh_73 ok c v w1 w2 i1 i2 h1 h2 (fd m p 6 + 1).toNat 0 W T h (by omega) (by omega) (fun x x0 x1 => ?_) a ws (fun h3 a3 ws3 => ?_)
        · have := hW x x0 x1; omega
        · refine k_weigh_30 ok c v w1 w2 i1 i2 n (p + 1) _ _ h3 (by omega) (by omega) (fun x x0 x1 => ?_) a3 ws3 (fun h' a' ws' => q h' a' ?_)
          · have x2 := hW x x0 x1
            have x3 := cwP_rg (w := w) (i := i) (x := x) v h1 h2
            show 0 ≤ W x + _ ∧ W x + _ ≤ _
            omega
          · refine wst_c ws' (fun x _ _ => ?_) ?_
            · rw [sm_s]; exact Int.add_assoc _ _ _
            · rw [sm_s]; exact Int.add_assoc _ _ _
      unfold wt at go
      simp (disch := first | omega | decide | assumption | exact st_ne s0 (by decide) (by decide) (by decide) | exact dyn_ne (by assumption) (by decide) | fail) only [Int.reduceAdd, Int.reduceSub, Int.reduceNeg, ii_add, ii_sub, ii_mul, ii_lt, ii_le, ii_eq, ixn_ii, ixo_ii, rem_ii, nb_1, nb_0, nb_bb, bb_0, hI_gv, Int.toNat_of_nonneg, Int.cast_ofNat_Int, ht_sI, ht_sJ, ht_sR, hn_sI, hn_sJ, hn_sR, hR_sI, hR_sJ, kI_v, kV_v, kJ_v, true_and, and_true, forall_eq, tg, ln, rf, ne_eq, not_false_eq_true, forall_const, not_true_eq_false, false_implies, e3, k0, kd]
      refine ⟨fun g => ?_, fun g => ?_⟩
      · rw [if_pos g] at go; exact go
      · rw [if_neg g] at go; exact go
    · obtain rfl : n = 0 := by omega
      refine q h a (wst_c ws (fun x _ _ => ?_) ?_)
      · rw [sm_0, Int.add_zero]
      · rw [sm_0, Int.add_zero]
theorem k_weigh (ok : tr_ok E) (c : kst ad h m one two H L) (v : vok m one two H L) {w i : Int} (w1 : 0 ≤ w) (w2 : w ≤ 3) (i1 : 0 ≤ i) (i2 : i ≤ 24) (q : ∀ h', fr ad pC f0 false h h' → wst ad h' m (cw m w i) (cts m w i (-1)) → Q (.inl none) h') : tr_C E 116 [.inr (.inr (ad 1)), .inl (ii w), .inl (ii i)] h Q := by
  refine T_X7_weigh ok ?_
  have s0 := c.1
  obtain ⟨c0, n, c2, c3, c4, c5⟩ := id c.2
  obtain ⟨n0, n1, n2, ⟨sa, sb, sc⟩, ⟨ea, eb, ec⟩, ⟨ua, ub, uc⟩, ⟨ra, rb, rc⟩, ⟨ga, gb, g0, g1, g2, g3, g4⟩, nd⟩ := id n
  obtain ⟨vH, vL, vl, v0, v1, v2, v3, v4, v5, vr, vm, vp⟩ := id v
  simp (disch := first | omega | decide | assumption | exact st_ne s0 (by decide) (by decide) (by decide) | exact dyn_ne (by assumption) (by decide) | fail) only [Int.reduceAdd, Int.reduceSub, Int.reduceNeg, ii_add, ii_sub, ii_mul, ii_lt, ii_le, ii_eq, ixn_ii, ixo_ii, rem_ii, nb_1, nb_0, nb_bb, bb_0, hI_gv, Int.toNat_of_nonneg, Int.cast_ofNat_Int, ht_sI, ht_sJ, ht_sR, hn_sI, hn_sJ, hn_sR, hR_sI, hR_sJ, kI_v, kV_v, kJ_v, true_and, and_true, forall_eq, tg, ln, rf, ne_eq, not_false_eq_true, forall_const, not_true_eq_false, false_implies, W_X7_weigh, st_t s0, st_r s0, c0, n0, ga, gb, g1, g2]
  refine ⟨by omega, by omega, k_clearS ok s0 v (fun h1 a ws => ?_)⟩
  simp (disch := first | omega | decide | assumption | exact st_ne s0 (by decide) (by decide) (by decide) | exact dyn_ne (by assumption) (by decide) | fail) only [Int.reduceAdd, Int.reduceSub, Int.reduceNeg, ii_add, ii_sub, ii_mul, ii_lt, ii_le, ii_eq, ixn_ii, ixo_ii, rem_ii, nb_1, nb_0, nb_bb, bb_0, hI_gv, Int.toNat_of_nonneg, Int.cast_ofNat_Int, ht_sI, ht_sJ, ht_sR, hn_sI, hn_sJ, hn_sR, hR_sI, hR_sJ, kI_v, kV_v, kJ_v, true_and, and_true, forall_eq, tg, ln, rf, ne_eq, not_false_eq_true, forall_const, not_true_eq_false, false_implies]
  refine k_weigh_30 ok c v w1 w2 i1 i2 (m 106).toNat 0 _ _ h1 (by omega) (by omega) (fun x x0 x1 => ⟨Int.le_refl _, by omega⟩) a ws (fun h' a' ws' => q h' a' (wst_c ws' (fun x _ _ => ?_) ?_))
  · show 0 + _ = _
    rw [Int.zero_add]; rfl
  · rw [Int.zero_add]; rfl
theorem k_chosenByS_21 (ok : tr_ok E) (s0 : stat ad h) (v : vok m one two H L) {W : Int → Int} {T : Int} (ws : wst ad h m W T) {x : Int} (hx : 0 ≤ x) : ∀ (n : Nat) (j a : Int), j + n = m 3 → 0 ≤ j → Q (.inl (some (.inr (.inl (jj (a + sm (fun j => W ((x + j) % m 2)) j n))))) ) h → tr_G E 62 Q 21 [some (.inr (.inr (ad 4))), none, some (.inr (.inl (jj a))), none, some (.inl (ii ((x + j) % m 2))), some (.inl (ii j))] [] h 0 0
  | n, j, a, hk, j0, q => by
    refine T_X5_chosenBy_21 ok ?_
    obtain ⟨vH, vL, vl, v0, v1, v2, v3, v4, v5, vr, vm, vp⟩ := id v
    obtain ⟨w1, w2, w3, w4⟩ := id ws
    have y1 := Int.emod_nonneg (x + j) (by omega : m 2 ≠ 0)
    have y2 := Int.emod_lt_of_pos (x + j) (by omega : 0 < m 2)
    have ex := w4 _ y1 y2
    have rg := gv_rg h (ad 22) ((x + j) % m 2)
    rw [ex] at rg
    simp (disch := first | omega | decide | assumption | exact st_ne s0 (by decide) (by decide) (by decide) | exact dyn_ne (by assumption) (by decide) | fail) only [Int.reduceAdd, Int.reduceSub, Int.reduceNeg, ii_add, ii_sub, ii_mul, ii_lt, ii_le, ii_eq, ixn_ii, ixo_ii, rem_ii, nb_1, nb_0, nb_bb, bb_0, hI_gv, Int.toNat_of_nonneg, Int.cast_ofNat_Int, ht_sI, ht_sJ, ht_sR, hn_sI, hn_sJ, hn_sR, hR_sI, hR_sJ, kI_v, kV_v, kJ_v, true_and, and_true, forall_eq, tg, ln, rf, ne_eq, not_false_eq_true, forall_const, not_true_eq_false, false_implies, W_X5_chosenBy_21, st_t s0, st_n s0, st_r s0, w1, w2, ex, i64_ii, jj_add]
    refine ⟨fun g => ⟨by omega, ?_⟩, fun g => ?_⟩
    · obtain ⟨n, rfl⟩ : ∃ n', n = n' + 1 := ⟨n - 1, by omega⟩
      rw [sm_s, ← Int.add_assoc] at q
      have e := em1 (a := x + j) (b := m 2) (by omega)
      have e2 : x + j + 1 = x + (j + 1) := by omega
      refine ⟨fun g2 => ?_, fun g2 => ?_⟩
      · rw [if_pos g2, e2] at e
        rw [e]
        exact k_chosenByS_21 ok s0 v ws hx n (j + 1) _ (by omega) (by omega) q
      · rw [if_neg g2, e2] at e
        rw [e]
        exact k_chosenByS_21 ok s0 v ws hx n (j + 1) _ (by omega) (by omega) q
    · obtain rfl : n = 0 := by omega
      rw [sm_0, Int.add_zero] at q; exact q
theorem k_chosenByS (ok : tr_ok E) (s0 : stat ad h) (v : vok m one two H L) {W : Int → Int} {T : Int} (ws : wst ad h m W T) {key : Int} (h3 : 0 ≤ key) (h4 : key < m 2) (q : Q (.inl (some (.inr (.inl (jj (rs W (m 2) (m 2 - key) (m 3).toNat)))))) h) : tr_C E 62 [.inr (.inr (ad 4)), .inl (ii key)] h Q := by
  refine T_X5_chosenBy ok ?_
  obtain ⟨vH, vL, vl, v0, v1, v2, v3, v4, v5, vr, vm, vp⟩ := id v
  obtain ⟨w1, w2, w3, w4⟩ := id ws
  have := k_chosenByS_21 (Q := Q) ok s0 v ws (x := m 2 - key) (by omega) (m 3).toNat 0 0 (by omega) (by omega) (by rw [Int.zero_add]; exact q)
  rw [Int.add_zero] at this
  simp (disch := first | omega | decide | assumption | exact st_ne s0 (by decide) (by decide) (by decide) | exact dyn_ne (by assumption) (by decide) | fail) only [Int.reduceAdd, Int.reduceSub, Int.reduceNeg, ii_add, ii_sub, ii_mul, ii_lt, ii_le, ii_eq, ixn_ii, ixo_ii, rem_ii, nb_1, nb_0, nb_bb, bb_0, hI_gv, Int.toNat_of_nonneg, Int.cast_ofNat_Int, ht_sI, ht_sJ, ht_sR, hn_sI, hn_sJ, hn_sR, hR_sI, hR_sJ, kI_v, kV_v, kJ_v, true_and, and_true, forall_eq, tg, ln, rf, ne_eq, not_false_eq_true, forall_const, not_true_eq_false, false_implies, W_X5_chosenBy, st_t s0, w1, jz]
  refine ⟨fun g => ?_, fun g => ?_⟩
  · subst g
    rw [Int.sub_zero, Int.emod_self] at this; exact this
  · rw [Int.emod_eq_of_lt (by omega) (by omega)] at this; exact this
def gq (m : Int → Int) (T : Int) (b : Bool) (x : Int) : Int := if b then (m 2 * x - m 3 * T) * (m 2 * x - m 3 * T) else x
theorem k_sumOverKeys_33 (ok : tr_ok E) (s0 : stat ad h) (v : vok m one two H L) {W : Int → Int} {T : Int} (ws : wst ad h m W T) (hW : ∀ x, 0 ≤ x → x < m 2 → 0 ≤ W x ∧ W x ≤ 200000) {b : Bool} : ∀ (n : Nat) (f a : Int), f + n = m 2 → 0 ≤ f → Q (.inl (some (.inr (.inl (jj (a + sm (fun f => gq m T b (rs W (m 2) f (m 3).toNat)) f n))))) ) h → tr_G E 63 Q 33 [some (.inr (.inr (ad 4))), some (.inl (bb b)), some (.inr (.inl (jj a))), none, some (.inr (.inl (jj (rs W (m 2) f (m 3).toNat)))), none, some (.inl (ii ((f + (m 3).toNat) % m 2))), some (.inl (ii f)), none, none] [] h 0 0
  | n, f, a, hk, f0', q => by
    refine T_X5_sumOverKeys_33 ok ?_
    obtain ⟨vH, vL, vl, v0, v1, v2, v3, v4, v5, vr, vm, vp⟩ := id v
    obtain ⟨w1, w2, w3, w4⟩ := id ws
    have y1 := Int.emod_nonneg (f + (m 3).toNat) (by omega : m 2 ≠ 0)
    have y2 := Int.emod_lt_of_pos (f + (m 3).toNat) (by omega : 0 < m 2)
    have ex := w4 _ y1 y2
    have hx := hW _ y1 y2
    have e := em1 (a := f + (m 3).toNat) (b := m 2) (by omega)
    have e2 : f + (m 3).toNat + 1 = f + 1 + (m 3).toNat := by omega
    rw [e2] at e
    by_cases g : f < m 2
    · have ef := w4 f f0' g
      have hf := hW f f0' g
      have sl := rs_sl W (m 2) f (m 3).toNat
      rw [Int.emod_eq_of_lt f0' g] at sl
      obtain ⟨n, rfl⟩ : ∃ n', n = n' + 1 := ⟨n - 1, by omega⟩
      rw [sm_s, ← Int.add_assoc] at q
      have go := k_sumOverKeys_33 ok s0 v ws hW n (f + 1) _ (by omega) (by omega) q
      rw [← sl, ← e] at go
      unfold gq at go
      generalize hz : (f + ((m 3).toNat : Int)) % m 2 = z at *
      simp (disch := first | omega | decide | assumption | exact st_ne s0 (by decide) (by decide) (by decide) | exact dyn_ne (by assumption) (by decide) | fail) only [Int.reduceAdd, Int.reduceSub, Int.reduceNeg, ii_add, ii_sub, ii_mul, ii_lt, ii_le, ii_eq, ixn_ii, ixo_ii, rem_ii, nb_1, nb_0, nb_bb, bb_0, hI_gv, Int.toNat_of_nonneg, Int.cast_ofNat_Int, ht_sI, ht_sJ, ht_sR, hn_sI, hn_sJ, hn_sR, hR_sI, hR_sJ, kI_v, kV_v, kJ_v, true_and, and_true, forall_eq, tg, ln, rf, ne_eq, not_false_eq_true, forall_const, not_true_eq_false, false_implies, W_X5_sumOverKeys_33, st_t s0, st_n s0, st_r s0, w1, w2, w3, ex, ef, i64_ii, jj_add, jj_mul, jj_sub]
      refine ⟨fun _ => ⟨fun g3 => ⟨by omega, by omega, fun g4 => ?_, fun g4 => ?_⟩, fun g3 => ⟨by omega, by omega, fun g4 => ?_, fun g4 => ?_⟩⟩, fun g2 => absurd g g2⟩
      · rw [g3, if_pos g4] at go
        rw [g3]; exact go
      · rw [g3, if_neg g4] at go
        rw [g3]; exact go
      · rw [Bool.not_eq_false] at g3
        rw [g3, if_pos g4] at go
        rw [g3]; exact go
      · rw [Bool.not_eq_false] at g3
        rw [g3, if_neg g4] at go
        rw [g3]; exact go
    · obtain rfl : n = 0 := by omega
      rw [sm_0, Int.add_zero] at q
      simp (disch := first | omega | decide | assumption | exact st_ne s0 (by decide) (by decide) (by decide) | exact dyn_ne (by assumption) (by decide) | fail) only [Int.reduceAdd, Int.reduceSub, Int.reduceNeg, ii_add, ii_sub, ii_mul, ii_lt, ii_le, ii_eq, ixn_ii, ixo_ii, rem_ii, nb_1, nb_0, nb_bb, bb_0, hI_gv, Int.toNat_of_nonneg, Int.cast_ofNat_Int, ht_sI, ht_sJ, ht_sR, hn_sI, hn_sJ, hn_sR, hR_sI, hR_sJ, kI_v, kV_v, kJ_v, true_and, and_true, forall_eq, tg, ln, rf, ne_eq, not_false_eq_true, forall_const, not_true_eq_false, false_implies, W_X5_sumOverKeys_33, st_t s0, st_n s0, st_r s0, w1, w2, w3, ex]
      exact ⟨fun g2 => absurd g2 g, fun _ => q⟩
theorem k_sumOverKeys (ok : tr_ok E) (s0 : stat ad h) (v : vok m one two H L) {w i : Int} {T : Int} (ws : wst ad h m (cw m w i) T) {b : Bool} (q : Q (.inl (some (.inr (.inl (jj (sm (fun key => gq m T b (cts m w i key)) 0 (m 2).toNat))))) ) h) : tr_C E 63 [.inr (.inr (ad 4)), .inl (bb b)] h Q := by
  refine T_X5_sumOverKeys ok ?_
  obtain ⟨vH, vL, vl, v0, v1, v2, v3, v4, v5, vr, vm, vp⟩ := id v
  obtain ⟨w1, w2, w3, w4⟩ := id ws
  have e : sm (fun f => gq m T b (rs (cw m w i) (m 2) f (m 3).toNat)) 0 (m 2).toNat = sm (fun key => gq m T b (cts m w i key)) 0 (m 2).toNat := by
    rw [← sm_ring (fun key => gq m T b (cts m w i key)) (by omega)]
    refine sm_congr _ _ (fun f h0 h1 => ?_)
    rw [rs_f v h0 (by omega)]
  have go := k_sumOverKeys_33 (Q := Q) (b := b) ok s0 v ws (fun x x0 x1 => by have := cw_rg (w := w) (i := i) (x := x) v; omega) (m 2).toNat 0 0 (by omega) (by omega) (by rw [Int.zero_add, e]; exact q)
  rw [Int.zero_add] at go
  simp (disch := first | omega | decide | assumption | exact st_ne s0 (by decide) (by decide) (by decide) | exact dyn_ne (by assumption) (by decide) | fail) only [Int.reduceAdd, Int.reduceSub, Int.reduceNeg, ii_add, ii_sub, ii_mul, ii_lt, ii_le, ii_eq, ixn_ii, ixo_ii, rem_ii, nb_1, nb_0, nb_bb, bb_0, hI_gv, Int.toNat_of_nonneg, Int.cast_ofNat_Int, ht_sI, ht_sJ, ht_sR, hn_sI, hn_sJ, hn_sR, hR_sI, hR_sJ, kI_v, kV_v, kJ_v, true_and, and_true, forall_eq, tg, ln, rf, ne_eq, not_false_eq_true, forall_const, not_true_eq_false, false_implies, W_X5_sumOverKeys, st_t s0]
  refine k_chosenByS ok s0 v ws (by omega) (by omega) ?_
  have e0 : rs (cw m w i) (m 2) (m 2 - 0) (m 3).toNat = rs (cw m w i) (m 2) 0 (m 3).toNat := by
    rw [rs_cts v (by omega) (by omega), rs_f v (by omega) (by omega), Int.sub_zero, Int.emod_self]
  rw [e0]
  simp (disch := first | omega | decide | assumption | exact st_ne s0 (by decide) (by decide) (by decide) | exact dyn_ne (by assumption) (by decide) | fail) only [Int.reduceAdd, Int.reduceSub, Int.reduceNeg, ii_add, ii_sub, ii_mul, ii_lt, ii_le, ii_eq, ixn_ii, ixo_ii, rem_ii, nb_1, nb_0, nb_bb, bb_0, hI_gv, Int.toNat_of_nonneg, Int.cast_ofNat_Int, ht_sI, ht_sJ, ht_sR, hn_sI, hn_sJ, hn_sR, hR_sI, hR_sJ, kI_v, kV_v, kJ_v, true_and, and_true, forall_eq, tg, ln, rf, ne_eq, not_false_eq_true, forall_const, not_true_eq_false, false_implies, st_t s0, w1, w2, jz]
  refine ⟨fun g => ?_, fun g => ?_⟩
  · rw [Int.emod_eq_of_lt (by omega) (by omega), Int.toNat_of_nonneg (by omega)] at go; exact go
  · rw [show ((m 3).toNat : Int) = m 2 by omega, Int.emod_self] at go; exact go
end EST
