/-! JOINING, BY THE REFERENCE -/
def fN (z : Int) : Bool := decide (32 ≤ z) && decide (z ≤ 36)
theorem fN_fJ (z : Int) (h : fN z = true) : fJ z = true := by
  unfold fN at h
  unfold fJ
  rw [h, Bool.or_true]
theorem fr_NJ {ad : Nat → Nat} {h h' : tr_H} (f : fr ad pJ fN false h h') : fr ad pJ fJ false h h' := fr_mono (fun _ e => e) fN_fJ (fun e => e) f
theorem mst_n {ad : Nat → Nat} {h h' : tr_H} {m one two : Int → Int} {H L : Int} (s : mst ad h m one two H L) (a : fr ad pJ fN false h h') : mst ad h' m one two H L := mst_fr s a pJ_lt rfl rfl rfl rfl rfl rfl
def rsF (X34 X35 : Int → Int) (r w : Int) (X36 X37 X38 : Int → Int) (nd : Nd) (c : Int) : Prop := (∀ x, 0 ≤ x → x < 10 → X34 x = nd.A x) ∧ (∀ y, 0 ≤ y → y < 24 → X35 y = nd.B y) ∧ r = nd.ea + nd.cb ∧ w = nd.w ∧ (∀ k, 0 ≤ k → k < nd.w + c → X36 k = nd.hp k) ∧ (∀ k, 0 ≤ k → k ≤ nd.w → X37 k = nd.bg k - k) ∧ ∀ k i, 0 ≤ k → k ≤ nd.w → nd.bg k ≤ i → i < enN nd k → X38 (i - k) = nd.M i
def rsA (ad : Nat → Nat) (h : tr_H) (nd : Nd) (c : Int) : Prop := rsF (gv h (ad 34)) (gv h (ad 35)) (gv h (ad 23) 36) (gv h (ad 23) 32) (gv h (ad 36)) (gv h (ad 37)) (gv h (ad 38)) nd c
def acF (st se fw : Int) (X39 X40 X41 : Int → Int) (a : Ac) : Prop := st = a.st ∧ se = a.se ∧ (0 < a.se → fw = a.fw ∧ (∀ k, 0 ≤ k → k < a.fw → X39 k = a.fh k) ∧ (∀ k, 0 ≤ k → k ≤ a.fw → X40 k = a.fb k - k) ∧ ∀ k i, 0 ≤ k → k < a.fw → a.fb k ≤ i → i < a.fb (k + 1) - 1 → X41 (i - k) = a.fM i)
def acR (ad : Nat → Nat) (h : tr_H) (a : Ac) : Prop := acF (gv h (ad 23) 33) (gv h (ad 23) 34) (gv h (ad 23) 35) (gv h (ad 39)) (gv h (ad 40)) (gv h (ad 41)) a
def fok (H L : Int) (a : Ac) : Prop := (0 ≤ a.fw ∧ a.fw ≤ 40) ∧ a.fb 0 = 0 ∧ (∀ k, 0 ≤ k → k < a.fw → a.fb k + 1 ≤ a.fb (k + 1)) ∧ a.fb a.fw ≤ 520 ∧ (∀ k i, 0 ≤ k → k < a.fw → a.fb k ≤ i → i < a.fb (k + 1) - 1 → 0 ≤ a.fM i ∧ a.fM i < L) ∧ (∀ k, 0 ≤ k → k < a.fw → a.fM (a.fb (k + 1) - 1) = -1) ∧ ∀ k, 0 ≤ k → k < a.fw → 0 ≤ a.fh k ∧ a.fh k < H
def aok (H L c : Int) (a : Ac) : Prop := (0 ≤ a.st ∧ a.st ≤ 5001) ∧ (0 ≤ a.se ∧ a.se ≤ a.st + c) ∧ (0 < a.se → fok H L a)
section DFP
variable {one two : Int → Int} {H L c : Int} {nd : Nd} {a : Ac}
theorem aok_up (k : aok H L 1 a) (o : ovr a = false) : aok H L 0 a.up := by
  unfold ovr at o
  rw [decide_eq_false_iff_not] at o
  obtain ⟨k1, k2, k3⟩ := k
  refine ⟨?_, ?_, k3⟩
  · show 0 ≤ a.st + 1 ∧ a.st + 1 ≤ 5001
    omega
  · show 0 ≤ a.se ∧ a.se ≤ a.st + 1 + 0
    omega
theorem aok_1 (k : aok H L 0 a) : aok H L 1 a := ⟨k.1, ⟨k.2.1.1, by have := k.2.1.2; omega⟩, k.2.2⟩
theorem aok_tk (hL : L ≤ 24) (hH : H ≤ 10) (n : nok one two H L 0 nd) (k : aok H L 0 a) : aok H L 1 (tkS nd a) := by
  obtain ⟨k1, k2, k3⟩ := k
  by_cases g : a.se = 0
  · have e : tkS nd a = (a.st, a.se + 1, nd.w, nd.M, nd.bg, nd.hp) := if_pos g
    rw [e]
    refine ⟨k1, ?_, fun _ => ?_⟩
    · show 0 ≤ a.se + 1 ∧ a.se + 1 ≤ a.st + 1
      omega
    · have e1 := n_ea n hH
      have e2 := n_cb n hL
      have e3 := n.t1
      have e4 := n.t2
      have e5 := n.w0
      have e6 := n.g2
      refine ⟨⟨e5, ?_⟩, n.g0, n.g1, ?_, ?_, n.m2, ?_⟩
      · show nd.w ≤ 40
        omega
      · show nd.bg nd.w ≤ 520
        omega
      · intro k i k0 k1 i0 i1
        have k1 : k < nd.w := k1
        refine n.m1 k i k0 (by omega) i0 ?_
        unfold enN
        rw [if_neg (by omega)]; exact i1
      · intro k k0 k1
        have k1 : k < nd.w := k1
        exact n.p1 k k0 (by omega)
  · have e : tkS nd a = (a.st, a.se + 1, a.fw, a.fM, a.fb, a.fh) := if_neg g
    rw [e]
    refine ⟨k1, ?_, fun _ => k3 (by omega)⟩
    show 0 ≤ a.se + 1 ∧ a.se + 1 ≤ a.st + 1
    omega
theorem r_O (x : Int) : (ndO nd x).ea + (ndO nd x).cb = nd.ea + nd.cb - 1 := by
  show nd.ea - 1 + nd.cb = _
  omega
theorem r_L (l : Int) : (ndL two nd l).ea + (ndL two nd l).cb = nd.ea + nd.cb - 1 := by
  show nd.ea + (nd.cb - 1) = _
  omega
theorem fhp_0 (hH : 0 ≤ H) (g : fhp nd.A 0 H.toNat < H) : 0 ≤ fhp nd.A 0 H.toNat ∧ nd.A (fhp nd.A 0 H.toNat) ≠ 0 := by
  have := fhp_rg (A := nd.A) H.toNat 0
  exact ⟨this.1, this.2.2 (by omega)⟩
theorem bg_aok {f : Nd → Ac → Ac} {n : Nat} (hH : 0 ≤ H) (hH2 : H ≤ 10) (hL2 : L ≤ 24) (hf : ∀ nd a, nok one two H L 1 nd → nd.ea + nd.cb < n → aok H L 1 a → ovr a = false → aok H L 1 (f nd a)) (k : nok one two H L 0 nd) (r : nd.ea + nd.cb ≤ n) (ka : aok H L 0 a) (o : ovr a = false) : aok H L 1 (bgP H f nd a) := by
  unfold bgP
  split
  · next g =>
    have := fhp_0 hH g
    exact hf _ _ (nok_O hH hH2 k this.1 g this.2) (by rw [r_O]; omega) (aok_1 ka) o
  · split
    · exact aok_tk hL2 hH2 k ka
    · exact aok_1 ka
theorem en_aok {f : Nd → Ac → Ac} {n : Nat} (hH : 0 ≤ H) (hH2 : H ≤ 10) (hL2 : L ≤ 24) (hf : ∀ nd a, nok one two H L 1 nd → nd.ea + nd.cb < n → aok H L 1 a → ovr a = false → aok H L 1 (f nd a)) (k : nok one two H L 1 nd) (r : nd.ea + nd.cb ≤ n) (ka : aok H L 1 a) (o : ovr a = false) : aok H L 1 (enP H f nd a) := by
  unfold enP
  split
  · exact aok_1 (aok_up ka o)
  · next g =>
    rw [Bool.not_eq_true] at g
    exact bg_aok hH hH2 hL2 hf (nok_X hH2 k) r (aok_up ka o) g
theorem lp_aok {f : Nd → Ac → Ac} {n : Nat} (hL2 : L ≤ 24) (ht : ∀ l, 0 ≤ l → l < L → 0 ≤ two l ∧ two l < H) (hf : ∀ nd a, nok one two H L 1 nd → nd.ea + nd.cb < n → aok H L 1 a → ovr a = false → aok H L 1 (f nd a)) (k : nok one two H L 1 nd) (r : nd.ea + nd.cb ≤ n) : ∀ (j : Nat) (l : Int) (a : Ac), l + j ≤ L → 0 ≤ l → aok H L 1 a → aok H L 1 (lpP one two f nd l j a)
  | 0, l, a, _, _, ka => ka
  | j + 1, l, a, hj, l0, ka => by
    unfold lpP
    split
    · exact ka
    · next o =>
      rw [Bool.not_eq_true] at o
      split
      · next g =>
        split
        · exact aok_1 (aok_up ka o)
        · next o2 =>
          rw [Bool.not_eq_true] at o2
          refine lp_aok hL2 ht hf k r j (l + 1) _ (by omega) (by omega) ?_
          exact hf _ _ (nok_L hL2 k l0 (by omega) g.2 (ht l l0 (by omega))) (by rw [r_L]; omega) (aok_1 (aok_up ka o)) o2
      · exact lp_aok hL2 ht hf k r j (l + 1) a (by omega) (by omega) ka
theorem lst0_rg (k : nok one two H L 1 nd) (hL : 0 ≤ L) : 0 ≤ lst0 nd ∧ lst0 nd ≤ L := by
  unfold lst0
  split
  · next g =>
    unfold gA at g
    rw [Bool.and_eq_true, decide_eq_true_eq] at g
    have p3 := k.p3 rfl g.1
    have g2 := k.g2
    have h2 := g.2
    unfold mn ah at h2
    have := k.m1 (nd.w - 1) (nd.bg (nd.w - 1) + mn nd) (by omega) (by omega) (by unfold mn; omega) (by
      unfold enN
      rw [if_neg (by omega), show nd.w - 1 + 1 = nd.w by omega]
      unfold mn; omega)
    omega
  · omega
theorem go_aok (hH : 0 ≤ H) (hH2 : H ≤ 10) (hL : 0 ≤ L) (hL2 : L ≤ 24) (ht : ∀ l, 0 ≤ l → l < L → 0 ≤ two l ∧ two l < H) : ∀ (n : Nat) (nd : Nd) (a : Ac), nok one two H L 1 nd → nd.ea + nd.cb < n → aok H L 1 a → ovr a = false → aok H L 1 (goP one two H L n nd a)
  | 0, nd, a, k, r, ka, o => ka
  | n + 1, nd, a, k, r, ka, o => by
    have hl := lst0_rg k hL
    unfold goP
    refine lp_aok hL2 ht (go_aok hH hH2 hL hL2 ht n) k (by omega) _ _ _ (by omega) hl.1 ?_
    split
    · exact ka
    · exact en_aok hH hH2 hL2 (go_aok hH hH2 hL hL2 ht n) k (by omega) ka o
end DFP
section RSF
variable {one two : Int → Int} {H L c : Int} {nd : Nd} {X34 X35 X36 X37 X38 : Int → Int} {r w : Int}
theorem rsF_L (n : nok one two H L 1 nd) {l : Int} (s : rsF X34 X35 r w X36 X37 X38 nd 1) : rsF X34 (ud X35 l (nd.B l - 1)) (r - 1) w X36 X37 (ud X38 (nd.d - nd.w) l) (ndL two nd l) 1 := by
  obtain ⟨s1, s2, s3, s4, s5, s6, s7⟩ := s
  refine ⟨s1, fun y y0 y1 => ?_, ?_, s4, s5, s6, fun k i k0 k1 i0 i1 => ?_⟩
  · show ud X35 l (nd.B l - 1) y = ud nd.B l (nd.B l - 1) y
    unfold ud
    split
    · rfl
    · exact s2 y y0 y1
  · show r - 1 = nd.ea + (nd.cb - 1)
    omega
  · have k1 : k ≤ nd.w := k1
    have i0 : nd.bg k ≤ i := i0
    have i1 : i < if k = nd.w then nd.d + 1 else nd.bg (k + 1) - 1 := i1
    show ud X38 (nd.d - nd.w) l (i - k) = ud nd.M nd.d l i
    by_cases e : i = nd.d
    · subst e
      have : k = nd.w := by
        by_cases g : k = nd.w
        · exact g
        · rw [if_neg g] at i1
          have := n_le n (k := k + 1) (j := nd.w) (by omega) (by omega) (by omega)
          have := n.g2
          omega
      subst this
      rw [ud_eq, ud_eq]
    · have i2 : i < enN nd k := by
        unfold enN
        by_cases g : k = nd.w
        · rw [if_pos g] at i1 ⊢; omega
        · rw [if_neg g] at i1 ⊢; omega
      have := n_ix n k0 k1 i0 i2
      rw [ud_ne e, ud_ne (by omega)]
      exact s7 k i k0 k1 i0 i2
theorem rsF_Lb (n : nok one two H L 1 nd) {l : Int} (l0 : 0 ≤ l) (l1 : l < 24) (s : rsF X34 X35 r w X36 X37 X38 (ndL two nd l) 1) : rsF X34 (ud X35 l (X35 l + 1)) (r + 1) w X36 X37 X38 nd 1 := by
  obtain ⟨s1, s2, s3, s4, s5, s6, s7⟩ := s
  have e : ∀ y, 0 ≤ y → y < 24 → X35 y = ud nd.B l (nd.B l - 1) y := s2
  have s3 : r = nd.ea + (nd.cb - 1) := s3
  refine ⟨s1, fun y y0 y1 => ?_, by omega, s4, s5, s6, fun k i k0 k1 i0 i1 => ?_⟩
  · by_cases g : y = l
    · subst g
      rw [ud_eq, e y y0 y1, ud_eq]; omega
    · rw [ud_ne g, e y y0 y1, ud_ne g]
  · have i2 : i < if k = nd.w then nd.d + 1 else nd.bg (k + 1) - 1 := by
      unfold enN at i1
      split
      · next g => rw [if_pos g] at i1; omega
      · next g => rw [if_neg g] at i1; omega
    have := s7 k i k0 k1 i0 i2
    have this : X38 (i - k) = ud nd.M nd.d l i := this
    rw [this]
    by_cases g : i = nd.d
    · have := n_ix n k0 k1 i0 i1
      omega
    · exact ud_ne g
theorem rsF_X (n : nok one two H L 1 nd) (s : rsF X34 X35 r w X36 X37 X38 nd 1) : rsF X34 X35 r (w + 1) X36 (ud X37 (nd.w + 1) (nd.bg nd.w - nd.w + mn nd)) X38 (ndX nd) 0 := by
  obtain ⟨s1, s2, s3, s4, s5, s6, s7⟩ := s
  have hw := n.w0
  refine ⟨s1, s2, s3, ?_, fun k k0 k1 => ?_, fun k k0 k1 => ?_, fun k i k0 k1 i0 i1 => ?_⟩
  · show w + 1 = nd.w + 1
    omega
  · have k1 : k < nd.w + 1 + 0 := k1
    exact s5 k k0 (by omega)
  · have k1 : k ≤ nd.w + 1 := k1
    show ud X37 (nd.w + 1) (nd.bg nd.w - nd.w + mn nd) k = ud nd.bg (nd.w + 1) (nd.d + 1) k - k
    by_cases e : k = nd.w + 1
    · subst e; rw [ud_eq, ud_eq]; unfold mn; omega
    · rw [ud_ne e, ud_ne e]; exact s6 k k0 (by omega)
  · have k1 : k ≤ nd.w + 1 := k1
    have i0 : ud nd.bg (nd.w + 1) (nd.d + 1) k ≤ i := i0
    have i1 : i < if k = nd.w + 1 then nd.d + 1 else ud nd.bg (nd.w + 1) (nd.d + 1) (k + 1) - 1 := i1
    show X38 (i - k) = ud nd.M nd.d (-1) i
    by_cases e : k = nd.w + 1
    · subst e; rw [ud_eq] at i0; rw [if_pos rfl] at i1; omega
    · rw [if_neg e] at i1
      rw [ud_ne e] at i0
      have i2 : i < enN nd k := by
        unfold enN
        by_cases e2 : k = nd.w
        · subst e2; rw [ud_eq] at i1; rw [if_pos rfl]; omega
        · rw [ud_ne (by omega)] at i1; rw [if_neg e2]; exact i1
      have := n_ix n k0 (by omega) i0 i2
      rw [ud_ne (by omega)]
      exact s7 k i k0 (by omega) i0 i2
theorem rsF_Xb (n : nok one two H L 1 nd) (s : rsF X34 X35 r w X36 X37 X38 (ndX nd) 0) : rsF X34 X35 r (w - 1) X36 X37 X38 nd 1 := by
  obtain ⟨s1, s2, s3, s4, s5, s6, s7⟩ := s
  have hw := n.w0
  have s4 : w = nd.w + 1 := s4
  refine ⟨s1, s2, s3, by omega, fun k k0 k1 => ?_, fun k k0 k1 => ?_, fun k i k0 k1 i0 i1 => ?_⟩
  · exact s5 k k0 (by show k < nd.w + 1 + 0; omega)
  · have := s6 k k0 (by show k ≤ nd.w + 1; omega)
    have this : X37 k = ud nd.bg (nd.w + 1) (nd.d + 1) k - k := this
    rw [this, ud_ne (by omega)]
  · have e := n_ix n k0 k1 i0 i1
    have := s7 k i k0 (by show k ≤ nd.w + 1; omega) (by
      show ud nd.bg (nd.w + 1) (nd.d + 1) k ≤ i
      rw [ud_ne (by omega)]; exact i0) (by
      show i < if k = nd.w + 1 then nd.d + 1 else ud nd.bg (nd.w + 1) (nd.d + 1) (k + 1) - 1
      rw [if_neg (by omega)]
      unfold enN at i1
      by_cases e2 : k = nd.w
      · subst e2; rw [ud_eq]; omega
      · rw [ud_ne (by omega)]; rw [if_neg e2] at i1; exact i1)
    have this : X38 (i - k) = ud nd.M nd.d (-1) i := this
    rw [this, ud_ne (by omega)]
theorem rsF_O (n : nok one two H L 0 nd) {x : Int} (s : rsF X34 X35 r w X36 X37 X38 nd 0) : rsF (ud X34 x (nd.A x - 1)) X35 (r - 1) w (ud X36 nd.w x) X37 X38 (ndO nd x) 1 := by
  obtain ⟨s1, s2, s3, s4, s5, s6, s7⟩ := s
  refine ⟨fun y y0 y1 => ?_, s2, ?_, s4, fun k k0 k1 => ?_, s6, s7⟩
  · show ud X34 x (nd.A x - 1) y = ud nd.A x (nd.A x - 1) y
    unfold ud
    split
    · rfl
    · exact s1 y y0 y1
  · show r - 1 = nd.ea - 1 + nd.cb
    omega
  · have k1 : k < nd.w + 1 := k1
    show ud X36 nd.w x k = ud nd.hp nd.w x k
    unfold ud
    split
    · rfl
    · exact s5 k k0 (by omega)
theorem rsF_Ob (n : nok one two H L 0 nd) {x : Int} (x0 : 0 ≤ x) (x1 : x < 10) (s : rsF X34 X35 r w X36 X37 X38 (ndO nd x) 1) : rsF (ud X34 x (X34 x + 1)) X35 (r + 1) w X36 X37 X38 nd 0 := by
  obtain ⟨s1, s2, s3, s4, s5, s6, s7⟩ := s
  have e : ∀ y, 0 ≤ y → y < 10 → X34 y = ud nd.A x (nd.A x - 1) y := s1
  have s3 : r = nd.ea - 1 + nd.cb := s3
  refine ⟨fun y y0 y1 => ?_, s2, by omega, s4, fun k k0 k1 => ?_, s6, s7⟩
  · by_cases g : y = x
    · subst g
      rw [ud_eq, e y y0 y1, ud_eq]; omega
    · rw [ud_ne g, e y y0 y1, ud_ne g]
  · have := s5 k k0 (by show k < nd.w + 1; omega)
    have this : X36 k = ud nd.hp nd.w x k := this
    rw [this, ud_ne (by omega)]
end RSF
def pT (i : Nat) : Bool := Nat.ble 39 i && Nat.ble i 41
def fT (z : Int) : Bool := decide (z = 34) || decide (z = 35)
theorem pT_lt (j : Nat) (h : pT j = true) : j < 42 := by
  unfold pT at h
  simp only [Bool.and_eq_true, Nat.ble_eq] at h
  omega
theorem pT_pJ (j : Nat) (h : pT j = true) : pJ j = true := by
  unfold pT at h
  unfold pJ
  simp only [Bool.and_eq_true, Nat.ble_eq] at h ⊢
  omega
theorem fT_fN (z : Int) (h : fT z = true) : fN z = true := by
  unfold fT at h
  unfold fN
  simp only [Bool.or_eq_true, Bool.and_eq_true, decide_eq_true_eq] at h ⊢
  omega
section DFM
variable {E : tr_Env} {ad : Nat → Nat} {h h0 : tr_H} {Q : tr_Q} {m one two : Int → Int} {H L : Int} {nd : Nd} {a : Ac}
theorem rsA_fr {P : Nat → Bool} {F : Int → Bool} {h' : tr_H} {c : Int} (s0 : stat ad h) (f : fr ad P F false h h') (hP1 : ∀ j, P j = true → j < 42) (c1 : P 34 = false) (c2 : P 35 = false) (c3 : P 36 = false) (c4 : P 37 = false) (c5 : P 38 = false) (c6 : P 23 = false) (c7 : F 32 = false) (c8 : F 36 = false) (s : rsA ad h nd c) : rsA ad h' nd c := by
  unfold rsA at s ⊢
  rw [fr_gv s0 f (by decide) (by decide) c1 hP1, fr_gv s0 f (by decide) (by decide) c2 hP1, fr_gv s0 f (by decide) (by decide) c3 hP1, fr_gv s0 f (by decide) (by decide) c4 hP1, fr_gv s0 f (by decide) (by decide) c5 hP1, fr_gf s0 f c6 hP1 c7, fr_gf s0 f c6 hP1 c8]
  exact s
theorem c_isOver (ok : tr_ok E) (s0 : stat ad h) (r : acR ad h a) (k : aok H L 1 a) (q : Q (.inl (some (.inl (bb (ovr a))))) h) : tr_C E 178 [.inr (.inr (ad 23))] h Q := by
  refine T_X8_isOver ok ?_
  have e := r.1
  have k1 := k.1
  unfold ovr at q
  simp (disch := first | omega | decide | assumption | exact st_ne s0 (by decide) (by decide) (by decide) | exact dyn_ne (by assumption) (by decide) | fail) only [Int.reduceAdd, Int.reduceSub, Int.reduceNeg, ii_add, ii_sub, ii_mul, ii_lt, ii_le, ii_eq, ixn_ii, ixo_ii, rem_ii, nb_1, nb_0, nb_bb, bb_0, hI_gv, Int.toNat_of_nonneg, Int.cast_ofNat_Int, ht_sI, ht_sJ, ht_sR, hn_sI, hn_sJ, hn_sR, hR_sI, hR_sJ, kI_v, kV_v, kJ_v, true_and, and_true, forall_eq, tg, ln, rf, ne_eq, not_false_eq_true, forall_const, not_true_eq_false, false_implies, W_X8_isOver, st_t s0, e]
  refine ⟨fun g => ?_, fun g => ?_⟩
  · rw [decide_eq_false (by omega)] at q; exact q
  · rw [decide_eq_true (by omega)] at q; exact q
end DFM
