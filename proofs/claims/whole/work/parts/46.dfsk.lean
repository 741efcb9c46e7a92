/-! JOINING, BY THE CLASS -/
def sv (nd : Nd) : Int := if nd.al then nd.M (nd.bg (nd.w - 1) + mn nd) - 1 else -2
def fnl (one B : Int → Int) (pl : Int) : Int → Nat → Int
  | _, 0 => -9
  | l, n + 1 => if B l ≤ 0 then fnl one B pl (l + 1) n else if one l = pl then l else fnl one B pl (l + 1) n
def csF (X8 X9 : Int → Int) (e2 e3 : Int) (X10 X11 X12 X13 : Int → Int) (nd : Nd) : Prop := (∀ x, 0 ≤ x → x < 10 → X8 x = nd.A x) ∧ (∀ y, 0 ≤ y → y < 24 → X9 y = nd.B y) ∧ e2 = nd.ea ∧ e3 = nd.cb ∧ (∀ j, 0 ≤ j → j < nd.d → X10 j = nd.M j) ∧ (∀ k, 0 ≤ k → k ≤ nd.w → X11 (nd.bg k) = nd.hp k) ∧ X11 nd.d = nd.pl ∧ (∀ k j, 0 ≤ k → k ≤ nd.w → nd.bg k ≤ j → j ≤ enN nd k → X12 j = nd.bg k) ∧ X13 nd.d = if nd.al then nd.bg (nd.w - 1) + mn nd else -1
/-- the same before a walk is opened -/
def cpF (X8 X9 : Int → Int) (e2 e3 : Int) (X10 X11 X12 : Int → Int) (nd : Nd) : Prop := (∀ x, 0 ≤ x → x < 10 → X8 x = nd.A x) ∧ (∀ y, 0 ≤ y → y < 24 → X9 y = nd.B y) ∧ e2 = nd.ea ∧ e3 = nd.cb ∧ (∀ j, 0 ≤ j → j < nd.d → X10 j = nd.M j) ∧ (∀ k, 0 ≤ k → k < nd.w → X11 (nd.bg k) = nd.hp k) ∧ ∀ k j, 0 ≤ k → k < nd.w → nd.bg k ≤ j → j ≤ enN nd k → X12 j = nd.bg k
def csA (ad : Nat → Nat) (h : tr_H) (nd : Nd) : Prop := csF (gv h (ad 8)) (gv h (ad 9)) (gv h (ad 2) 2) (gv h (ad 2) 3) (gv h (ad 10)) (gv h (ad 11)) (gv h (ad 12)) (gv h (ad 13)) nd
def cpA (ad : Nat → Nat) (h : tr_H) (nd : Nd) : Prop := cpF (gv h (ad 8)) (gv h (ad 9)) (gv h (ad 2) 2) (gv h (ad 2) 3) (gv h (ad 10)) (gv h (ad 11)) (gv h (ad 12)) nd
def akF (st se fw : Int) (X14 X15 X16 X17 : Int → Int) (a : Ac) : Prop := st = a.st ∧ se = a.se ∧ (a.se = 0 → fw = 0) ∧ (0 < a.se → fw = a.fw ∧ (∀ k, 0 ≤ k → k < a.fw → X14 k = a.fh k ∧ X15 k = a.fb (k + 1) - 1 - a.fb k ∧ X16 k = a.fb k) ∧ ∀ j, 0 ≤ j → j < a.fb a.fw → X17 j = a.fM j)
def acK (ad : Nat → Nat) (h : tr_H) (a : Ac) : Prop := akF (gv h (ad 2) 8) (gv h (ad 2) 9) (gv h (ad 2) 10) (gv h (ad 14)) (gv h (ad 15)) (gv h (ad 16)) (gv h (ad 17)) a
section DFK
variable {one two : Int → Int} {H L : Int} {nd : Nd} {a : Ac} {X8 X9 X10 X11 X12 X13 : Int → Int} {e2 e3 : Int}
theorem fnl_rg {one B : Int → Int} {pl : Int} : ∀ (n : Nat) (l : Int), 0 ≤ l → (fnl one B pl l n = -9 ∧ ∀ j, l ≤ j → j < l + n → ¬ (one j = pl ∧ 0 < B j)) ∨ (l ≤ fnl one B pl l n ∧ fnl one B pl l n < l + n ∧ one (fnl one B pl l n) = pl ∧ 0 < B (fnl one B pl l n))
  | 0, l, _ => Or.inl ⟨rfl, fun j h1 h2 => by omega⟩
  | n + 1, l, l0 => by
    have ih := fnl_rg (one := one) (B := B) (pl := pl) n (l + 1) (by omega)
    unfold fnl
    by_cases g : B l ≤ 0
    · rw [if_pos g]
      rcases ih with ⟨i1, i2⟩ | ⟨i1, i2, i3⟩
      · refine Or.inl ⟨i1, fun j h1 h2 e => ?_⟩
        by_cases ej : j = l
        · subst ej; omega
        · exact i2 j (by omega) (by omega) e
      · exact Or.inr ⟨by omega, by omega, i3⟩
    · rw [if_neg g]
      by_cases g2 : one l = pl
      · rw [if_pos g2]
        exact Or.inr ⟨Int.le_refl _, by omega, g2, by omega⟩
      · rw [if_neg g2]
        rcases ih with ⟨i1, i2⟩ | ⟨i1, i2, i3⟩
        · refine Or.inl ⟨i1, fun j h1 h2 e => ?_⟩
          by_cases ej : j = l
          · subst ej; exact g2 e.1
          · exact i2 j (by omega) (by omega) e
        · exact Or.inr ⟨by omega, by omega, i3⟩
theorem lp_over {f : Nd → Ac → Ac} (o : ovr a = true) (j : Nat) (l : Int) : lpP one two f nd l j a = a := by
  cases j with
  | zero => rfl
  | succ j =>
    show (if ovr a then a else _) = _
    rw [if_pos o]
theorem lp_none {f : Nd → Ac → Ac} (o : ovr a = false) : ∀ (j : Nat) (l : Int), (∀ i, l ≤ i → i < l + j → ¬ (one i = nd.pl ∧ nd.B i ≠ 0)) → lpP one two f nd l j a = a
  | 0, l, _ => rfl
  | j + 1, l, h => by
    show (if ovr a then a else if one l = nd.pl ∧ nd.B l ≠ 0 then _ else lpP one two f nd (l + 1) j a) = a
    rw [if_neg (by rw [o]; decide), if_neg (h l (Int.le_refl _) (by omega))]
    exact lp_none o j (l + 1) (fun i i1 i2 => h i (by omega) (by omega))
theorem lp_skip {f : Nd → Ac → Ac} (o : ovr a = false) {r : Int} (hr : one r = nd.pl ∧ nd.B r ≠ 0) : ∀ (j : Nat) (l : Int), l ≤ r → r < l + j → (∀ i, l ≤ i → i < r → ¬ (one i = nd.pl ∧ nd.B i ≠ 0)) → lpP one two f nd l j a = if ovr a.up then a.up else lpP one two f nd (r + 1) (l + j - r - 1).toNat (f (ndL two nd r) a.up)
  | 0, l, h1, h2, _ => by omega
  | j + 1, l, h1, h2, h => by
    have es : lpP one two f nd l (j + 1) a = if ovr a then a else if one l = nd.pl ∧ nd.B l ≠ 0 then (if ovr a.up then a.up else lpP one two f nd (l + 1) j (f (ndL two nd l) a.up)) else lpP one two f nd (l + 1) j a := rfl
    rw [es, if_neg (by rw [o]; decide)]
    by_cases e : l = r
    · subst e
      rw [if_pos hr, show (l + ((j + 1 : Nat) : Int) - l - 1).toNat = j by omega]
    · rw [if_neg (h l (Int.le_refl _) (by omega)), lp_skip o hr j (l + 1) (by omega) (by omega) (fun i i1 i2 => h i (by omega) (by omega))]
      rw [show l + 1 + (j : Int) = l + ((j + 1 : Nat) : Int) by omega]
/-- where the first least one lies: the next one is the least of all -/
theorem fnl_least {B : Int → Int} {pl : Int} : ∀ (n : Nat) (l i : Int), 0 ≤ l → l ≤ i → i < l + n → (one i = pl ∧ 0 < B i) → l ≤ fnl one B pl l n ∧ fnl one B pl l n ≤ i
  | 0, l, i, _, _, _, _ => by omega
  | n + 1, l, i, l0, h1, h2, e => by
    unfold fnl
    by_cases g : B l ≤ 0
    · rw [if_pos g]
      have : l ≠ i := fun e2 => by subst e2; omega
      have := fnl_least n (l + 1) i (by omega) (by omega) (by omega) e
      omega
    · rw [if_neg g]
      by_cases g2 : one l = pl
      · rw [if_pos g2]; omega
      · rw [if_neg g2]
        have : l ≠ i := fun e2 => by subst e2; exact g2 e.1
        have := fnl_least n (l + 1) i (by omega) (by omega) (by omega) e
        omega
theorem sv_a (k : nok one two H L 1 nd) (g : gA nd = true) : sv nd = lst0 nd - 1 := by
  have g' := g
  unfold gA at g
  rw [Bool.and_eq_true] at g
  unfold sv lst0
  rw [if_pos g.1, if_pos g']
theorem sv_n (k : nok one two H L 1 nd) (g : gA nd = false) : sv nd = -2 ∧ lst0 nd = 0 := by
  have e0 : lst0 nd = 0 := by unfold lst0; rw [if_neg (by rw [g]; decide)]
  refine ⟨?_, e0⟩
  unfold sv
  split
  · next g2 =>
    unfold gA at g
    rw [g2, Bool.true_and, decide_eq_false_iff_not] at g
    have p3 := k.p3 rfl g2
    have e : nd.bg (nd.w - 1) + mn nd = nd.bg (nd.w - 1 + 1) - 1 := by
      rw [show nd.w - 1 + 1 = nd.w by omega]
      have := p3.2
      unfold ah at this g
      omega
    rw [e, k.m2 (nd.w - 1) (by omega) (by omega)]
    rfl
  · rfl
theorem csF_L (k : nok one two H L 1 nd) {l g : Int} (hg : g = if (ndL two nd l).al then (ndL two nd l).bg ((ndL two nd l).w - 1) + mn (ndL two nd l) else -1) (s : csF X8 X9 e2 e3 X10 X11 X12 X13 nd) : csF X8 (ud X9 l (nd.B l - 1)) e2 (e3 - 1) (ud (ud X10 nd.d l) (nd.d + 1) (sv (ndL two nd l))) (ud X11 (nd.d + 1) (two l)) (ud X12 (nd.d + 1) (nd.bg nd.w)) (ud X13 (nd.d + 1) g) (ndL two nd l) := by
  obtain ⟨s1, s2, s3, s4, s5, s6, s7, s8, s9⟩ := s
  refine ⟨s1, fun y y0 y1 => ?_, s3, ?_, fun j j0 j1 => ?_, fun i i0 i1 => ?_, ud_eq _ _ _, fun i j i0 i1 j0 j1 => ?_, ?_⟩
  · show ud X9 l (nd.B l - 1) y = ud nd.B l (nd.B l - 1) y
    unfold ud
    split
    · rfl
    · exact s2 y y0 y1
  · show e3 - 1 = nd.cb - 1
    omega
  · have j1 : j < nd.d + 1 := j1
    show ud (ud X10 nd.d l) (nd.d + 1) _ j = ud nd.M nd.d l j
    rw [ud_ne (by omega)]
    unfold ud
    split
    · rfl
    · exact s5 j j0 (by omega)
  · have i1 : i ≤ nd.w := i1
    show ud X11 (nd.d + 1) (two l) (nd.bg i) = nd.hp i
    have e1 := n_b0 k i0 i1
    have e2 := n_le k i0 i1 (Int.le_refl _)
    have e3 := k.g2
    rw [ud_ne (by omega)]
    exact s6 i i0 i1
  · have i1 : i ≤ nd.w := i1
    have j0 : nd.bg i ≤ j := j0
    have j1 : j ≤ if i = nd.w then nd.d + 1 else nd.bg (i + 1) - 1 := j1
    show ud X12 (nd.d + 1) (nd.bg nd.w) j = nd.bg i
    by_cases e : j = nd.d + 1
    · subst e
      rw [ud_eq]
      by_cases g : i = nd.w
      · rw [g]
      · rw [if_neg g] at j1
        have := n_le k (k := i + 1) (j := nd.w) (by omega) (by omega) (by omega)
        have := k.g2
        omega
    · rw [ud_ne e]
      refine s8 i j i0 i1 j0 ?_
      unfold enN
      by_cases g : i = nd.w
      · rw [if_pos g] at j1 ⊢; omega
      · rw [if_neg g] at j1 ⊢; exact j1
  · show ud X13 (nd.d + 1) g (nd.d + 1) = _
    rw [ud_eq]; exact hg
theorem csF_Lb (k : nok one two H L 1 nd) {l : Int} (l0 : 0 ≤ l) (l1 : l < 24) (p1 : X11 nd.d = nd.pl) (p2 : X13 nd.d = if nd.al then nd.bg (nd.w - 1) + mn nd else -1) (s : csF X8 X9 e2 e3 X10 X11 X12 X13 (ndL two nd l)) : csF X8 (ud X9 l (X9 l + 1)) e2 (e3 + 1) X10 X11 X12 X13 nd ∧ X10 nd.d = l := by
  obtain ⟨s1, s2, s3, s4, s5, s6, s7, s8, s9⟩ := s
  have hd := k.g2
  have hw := (n_b0 k k.w0 (Int.le_refl _)).1
  have w0 := k.w0
  have e : ∀ y, 0 ≤ y → y < 24 → X9 y = ud nd.B l (nd.B l - 1) y := s2
  have s4 : e3 = nd.cb - 1 := s4
  have e5 : ∀ j, 0 ≤ j → j < nd.d + 1 → X10 j = ud nd.M nd.d l j := s5
  refine ⟨⟨s1, fun y y0 y1 => ?_, s3, by omega, fun j j0 j1 => ?_, s6, p1, fun i j i0 i1 j0 j1 => ?_, p2⟩, ?_⟩
  · by_cases g : y = l
    · subst g
      rw [ud_eq, e y y0 y1, ud_eq]; omega
    · rw [ud_ne g, e y y0 y1, ud_ne g]
  · rw [e5 j j0 (by omega), ud_ne (by omega)]
  · refine s8 i j i0 i1 j0 ?_
    show j ≤ if i = nd.w then nd.d + 1 else nd.bg (i + 1) - 1
    unfold enN at j1
    split
    · next g => rw [if_pos g] at j1; omega
    · next g => rw [if_neg g] at j1; exact j1
  · rw [e5 nd.d (by omega) (by omega), ud_eq]
theorem cpF_X (k : nok one two H L 1 nd) (s : csF X8 X9 e2 e3 X10 X11 X12 X13 nd) (hm : X10 nd.d = -1) : cpF X8 X9 e2 e3 X10 X11 X12 (ndX nd) := by
  obtain ⟨s1, s2, s3, s4, s5, s6, s7, s8, s9⟩ := s
  refine ⟨s1, s2, s3, s4, fun j j0 j1 => ?_, fun i i0 i1 => ?_, fun i j i0 i1 j0 j1 => ?_⟩
  · have j1 : j < nd.d + 1 := j1
    show X10 j = ud nd.M nd.d (-1) j
    by_cases e : j = nd.d
    · subst e; rw [ud_eq]; exact hm
    · rw [ud_ne e]; exact s5 j j0 (by omega)
  · have i1 : i < nd.w + 1 := i1
    show X11 (ud nd.bg (nd.w + 1) (nd.d + 1) i) = nd.hp i
    rw [ud_ne (by omega)]; exact s6 i i0 (by omega)
  · have i1 : i < nd.w + 1 := i1
    have j0 : ud nd.bg (nd.w + 1) (nd.d + 1) i ≤ j := j0
    have j1 : j ≤ if i = nd.w + 1 then nd.d + 1 else ud nd.bg (nd.w + 1) (nd.d + 1) (i + 1) - 1 := j1
    show X12 j = ud nd.bg (nd.w + 1) (nd.d + 1) i
    rw [ud_ne (by omega)] at j0 ⊢
    rw [if_neg (by omega)] at j1
    refine s8 i j i0 (by omega) j0 ?_
    unfold enN
    by_cases g : i = nd.w
    · subst g; rw [ud_eq] at j1; rw [if_pos rfl]; omega
    · rw [ud_ne (by omega)] at j1; rw [if_neg g]; exact j1
theorem csF_Xb (k : nok one two H L 1 nd) (p1 : X11 nd.d = nd.pl) (p2 : X13 nd.d = if nd.al then nd.bg (nd.w - 1) + mn nd else -1) (s : cpF X8 X9 e2 e3 X10 X11 X12 (ndX nd)) : csF X8 X9 e2 e3 X10 X11 X12 X13 nd ∧ X10 nd.d = -1 := by
  obtain ⟨s1, s2, s3, s4, s5, s6, s8⟩ := s
  have hd := k.g2
  have hw := (n_b0 k k.w0 (Int.le_refl _)).1
  have w0 := k.w0
  have e5 : ∀ j, 0 ≤ j → j < nd.d + 1 → X10 j = ud nd.M nd.d (-1) j := s5
  refine ⟨⟨s1, s2, s3, s4, fun j j0 j1 => ?_, fun i i0 i1 => ?_, p1, fun i j i0 i1 j0 j1 => ?_, p2⟩, ?_⟩
  · rw [e5 j j0 (by omega), ud_ne (by omega)]
  · have := s6 i i0 (by show i < nd.w + 1; omega)
    have this : X11 (ud nd.bg (nd.w + 1) (nd.d + 1) i) = nd.hp i := this
    rw [ud_ne (by omega)] at this; exact this
  · have := s8 i j i0 (by show i < nd.w + 1; omega) (by
      show ud nd.bg (nd.w + 1) (nd.d + 1) i ≤ j
      rw [ud_ne (by omega)]; exact j0) (by
      show j ≤ if i = nd.w + 1 then nd.d + 1 else ud nd.bg (nd.w + 1) (nd.d + 1) (i + 1) - 1
      rw [if_neg (by omega)]
      unfold enN at j1
      by_cases g : i = nd.w
      · subst g; rw [ud_eq]; rw [if_pos rfl] at j1; omega
      · rw [ud_ne (by omega)]; rw [if_neg g] at j1; exact j1)
    have this : X12 j = ud nd.bg (nd.w + 1) (nd.d + 1) i := this
    rw [ud_ne (by omega)] at this; exact this
  · rw [e5 nd.d (by omega) (by omega), ud_eq]
theorem csF_O (k : nok one two H L 0 nd) {x g : Int} (hg : g = if (ndO nd x).al then nd.bg (nd.w - 1) else -1) (s : cpF X8 X9 e2 e3 X10 X11 X12 nd) : csF (ud X8 x (nd.A x - 1)) X9 (e2 - 1) e3 (ud X10 nd.d (sv (ndO nd x))) (ud X11 nd.d x) (ud X12 nd.d nd.d) (ud X13 nd.d g) (ndO nd x) := by
  obtain ⟨s1, s2, s3, s4, s5, s6, s8⟩ := s
  have g3 := k.g3 rfl
  refine ⟨fun y y0 y1 => ?_, s2, ?_, s4, fun j j0 j1 => ?_, fun i i0 i1 => ?_, ud_eq _ _ _, fun i j i0 i1 j0 j1 => ?_, ?_⟩
  · show ud X8 x (nd.A x - 1) y = ud nd.A x (nd.A x - 1) y
    unfold ud
    split
    · rfl
    · exact s1 y y0 y1
  · show e2 - 1 = nd.ea - 1
    omega
  · have j1 : j < nd.d := j1
    rw [ud_ne (by omega)]; exact s5 j j0 j1
  · have i1 : i ≤ nd.w := i1
    show ud X11 nd.d x (nd.bg i) = ud nd.hp nd.w x i
    by_cases e : i = nd.w
    · subst e; rw [g3, ud_eq, ud_eq]
    · have e1 := n_le k (k := i) (j := nd.w) i0 i1 (Int.le_refl _)
      rw [ud_ne (by omega), ud_ne e]
      exact s6 i i0 (by omega)
  · have i1 : i ≤ nd.w := i1
    have j0 : nd.bg i ≤ j := j0
    have j1 : j ≤ if i = nd.w then nd.d else nd.bg (i + 1) - 1 := j1
    show ud X12 nd.d nd.d j = nd.bg i
    by_cases e : i = nd.w
    · subst e
      rw [if_pos rfl] at j1
      rw [show j = nd.d by omega, ud_eq]; omega
    · rw [if_neg e] at j1
      have e1 := n_le k (k := i + 1) (j := nd.w) (by omega) (by omega) (Int.le_refl _)
      rw [ud_ne (by omega)]
      refine s8 i j i0 (by omega) j0 ?_
      unfold enN
      rw [if_neg e]; exact j1
  · show ud X13 nd.d g nd.d = if (ndO nd x).al then nd.bg (nd.w - 1) + mn (ndO nd x) else -1
    rw [ud_eq, hg]
    have : mn (ndO nd x) = 0 := by show nd.d - nd.bg nd.w = 0; omega
    rw [this, Int.add_zero]
theorem cpF_Ob (k : nok one two H L 0 nd) {x : Int} (x0 : 0 ≤ x) (x1 : x < 10) (s : csF X8 X9 e2 e3 X10 X11 X12 X13 (ndO nd x)) : cpF (ud X8 x (X8 x + 1)) X9 (e2 + 1) e3 X10 X11 X12 nd := by
  obtain ⟨s1, s2, s3, s4, s5, s6, s7, s8, s9⟩ := s
  have e : ∀ y, 0 ≤ y → y < 10 → X8 y = ud nd.A x (nd.A x - 1) y := s1
  have s3 : e2 = nd.ea - 1 := s3
  refine ⟨fun y y0 y1 => ?_, s2, by omega, s4, s5, fun i i0 i1 => ?_, fun i j i0 i1 j0 j1 => ?_⟩
  · by_cases g : y = x
    · subst g
      rw [ud_eq, e y y0 y1, ud_eq]; omega
    · rw [ud_ne g, e y y0 y1, ud_ne g]
  · have := s6 i i0 (by show i ≤ nd.w; omega)
    have this : X11 (nd.bg i) = ud nd.hp nd.w x i := this
    rw [ud_ne (by omega)] at this; exact this
  · exact s8 i j i0 (by show i ≤ nd.w; omega) j0 j1
end DFK
