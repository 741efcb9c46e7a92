/-! WALKS THAT ARE TRAILS -/
theorem al_iff {f : Int → Bool} : ∀ (n : Nat) (i : Int), al f i n = true ↔ ∀ j, i ≤ j → j < i + n → f j = true
  | 0, i => ⟨fun _ j h1 h2 => by omega, fun _ => rfl⟩
  | n + 1, i => by
    have ih := al_iff (f := f) n (i + 1)
    unfold al
    rw [Bool.and_eq_true, ih]
    constructor
    · intro ⟨h1, h2⟩ j j1 j2
      by_cases e : j = i
      · rw [e]; exact h1
      · exact h2 j (by omega) (by omega)
    · intro h
      exact ⟨h i (Int.le_refl _) (by omega), fun j j1 j2 => h j (by omega) (by omega)⟩
def iw (m : Int → Int) (a : Ac) (p k : Int) : Bool := decide (fd m p 0 = a.fh k ∧ fd m p 6 = wln a k) && al (fun i => decide (lk m p i = a.fM (a.fb k + i))) 0 (wln a k).toNat
def alk (m : Int → Int) (o p : Int) : Bool := decide (fd m o 0 = fd m p 0 ∧ fd m o 6 = fd m p 6) && al (fun i => decide (lk m o i = lk m p i)) 0 (fd m p 6).toNat
def cn (m : Int → Int) (l p : Int) : Bool := decide (lab m p = l) && chs m p 0
def lik (m : Int → Int) (l p : Int) : Int := sm (fun o => b2 (cn m l o && alk m o p)) 0 p.toNat
def tot (m : Int → Int) (a : Ac) (p : Int) : Int := sm (fun k => b2 (iw m a p k)) 0 a.fw.toNat
def tru (m : Int → Int) (a : Ac) (l : Int) : Bool := al (fun p => !cn m l p || decide (lik m l p < tot m a p)) 0 (m 106).toNat
def tr2 (m : Int → Int) (a : Ac) (l : Int) : Bool := decide (sm (fun p => b2 (cn m l p)) 0 (m 106).toNat = a.fw ∧ sm (fun p => b2 (cn m l p && decide (lik m l p < tot m a p))) 0 (m 106).toNat = sm (fun p => b2 (cn m l p)) 0 (m 106).toNat)
theorem iw_alk {m : Int → Int} {a : Ac} {p q k : Int} (h : iw m a p k = true) : iw m a q k = alk m p q := by
  unfold iw at h
  rw [Bool.and_eq_true, decide_eq_true_eq, al_iff] at h
  obtain ⟨⟨h1, h2⟩, h3⟩ := h
  have e : iw m a q k = true ↔ alk m p q = true := by
    unfold iw alk
    rw [Bool.and_eq_true, Bool.and_eq_true, decide_eq_true_eq, decide_eq_true_eq, al_iff, al_iff]
    constructor
    · intro ⟨⟨a1, a2⟩, a3⟩
      refine ⟨⟨by omega, by omega⟩, fun j j1 j2 => ?_⟩
      have e1 := h3 j j1 (by omega)
      have e2 := a3 j j1 (by omega)
      rw [decide_eq_true_eq] at e1 e2 ⊢
      omega
    · intro ⟨⟨a1, a2⟩, a3⟩
      refine ⟨⟨by omega, by omega⟩, fun j j1 j2 => ?_⟩
      have e1 := h3 j j1 (by omega)
      have e2 := a3 j j1 (by omega)
      rw [decide_eq_true_eq] at e1 e2 ⊢
      omega
  cases h1 : iw m a q k <;> cases h2 : alk m p q
  · rfl
  · rw [h1, h2] at e; simp at e
  · rw [h1, h2] at e; simp at e
  · rfl
theorem sm_mono {f g : Int → Int} : ∀ (n : Nat) (i : Int), (∀ j, i ≤ j → j < i + n → f j ≤ g j) → sm f i n ≤ sm g i n ∧ (sm f i n = sm g i n → ∀ j, i ≤ j → j < i + n → f j = g j)
  | 0, i, _ => ⟨Int.le_refl _, fun _ j h1 h2 => by omega⟩
  | n + 1, i, h => by
    have ih := sm_mono n (i + 1) (fun j j1 j2 => h j (by omega) (by omega))
    have h1 := h i (Int.le_refl _) (by omega)
    rw [sm_s, sm_s]
    refine ⟨by omega, fun e j j1 j2 => ?_⟩
    by_cases ej : j = i
    · rw [ej]; omega
    · exact ih.2 (by omega) j (by omega) (by omega)
theorem tr2_tru {m : Int → Int} {a : Ac} {l : Int} (h : sm (fun p => b2 (cn m l p)) 0 (m 106).toNat = a.fw) : tr2 m a l = tru m a l := by
  unfold tr2
  have mo := sm_mono (f := fun p => b2 (cn m l p && decide (lik m l p < tot m a p))) (g := fun p => b2 (cn m l p)) (m 106).toNat 0 (fun j _ _ => by
    show b2 (cn m l j && decide (lik m l j < tot m a j)) ≤ b2 (cn m l j)
    cases cn m l j
    · exact Int.le_refl _
    · rw [Bool.true_and]; exact (b2_rg _).2)
  have e : tru m a l = true ↔ sm (fun p => b2 (cn m l p && decide (lik m l p < tot m a p))) 0 (m 106).toNat = sm (fun p => b2 (cn m l p)) 0 (m 106).toNat := by
    unfold tru
    rw [al_iff]
    constructor
    · intro g
      refine sm_congr _ _ (fun j j1 j2 => ?_)
      have := g j j1 j2
      show b2 (cn m l j && decide (lik m l j < tot m a j)) = b2 (cn m l j)
      cases hc : cn m l j
      · rfl
      · rw [hc] at this
        rw [Bool.not_true, Bool.false_or] at this
        rw [this]; rfl
    · intro g j j1 j2
      have := mo.2 g j j1 j2
      have this : b2 (cn m l j && decide (lik m l j < tot m a j)) = b2 (cn m l j) := this
      cases hc : cn m l j
      · rfl
      · rw [hc, Bool.true_and] at this
        cases hd : decide (lik m l j < tot m a j)
        · rw [hd] at this; exact absurd this (by decide)
        · rfl
  cases ht : tru m a l
  · rw [decide_eq_false]
    intro g
    have := e.mpr g.2
    rw [ht] at this; cases this
  · rw [decide_eq_true ⟨h, e.mp ht⟩]
theorem cn_el {m one two : Int → Int} {H L l : Int} (v : vok m one two H L) : sm (fun p => b2 (cn m l p)) 0 (m 106).toNat = el m l := by
  have vm := v_m v
  unfold el
  refine sm_congr _ _ (fun p h1 h2 => ?_)
  have h2 : p < m 106 := by omega
  obtain ⟨q0, q1, q2, q3, q4, q5, q6, q7⟩ := v_p v h1 h2
  unfold cn ov
  by_cases e : lab m p = l
  · rw [if_pos e, decide_eq_true e, Bool.true_and]
    have : sm (eR m p) 0 (fd m p 6 + 1).toNat = sm (fun k => if k = 0 then b2 (chs m p 0) else 0) 0 (fd m p 6 + 1).toNat := sm_congr _ _ (fun k _ _ => by
      unfold eR
      rw [b2_and]
      by_cases e : k = 0
      · rw [if_pos e, if_pos e, e]
      · rw [if_neg e, if_neg e])
    rw [this, sm_ind, if_pos (by omega)]
  · rw [if_neg e, decide_eq_false e, Bool.false_and]; rfl
/-- all that entered make walks -/
def aqT (T : Int) (a : Ac) : Prop := 0 < a.se → a.fw = T
def tqT (T c : Int) (nd : Nd) : Prop := nd.w + nd.ea + c = T
section AQT
variable {m one two : Int → Int} {H L T : Int} {nd : Nd} {a : Ac}
theorem aq_up (k : aqT T a) : aqT T a.up := k
theorem aq_tk (t : tqT T 0 nd) (z : nd.ea = 0) (k : aqT T a) (k2 : 0 ≤ a.se) : aqT T (tkS nd a) := by
  unfold tqT at t
  by_cases g : a.se = 0
  · have e : tkS nd a = (a.st, a.se + 1, nd.w, nd.M, nd.bg, nd.hp) := if_pos g
    rw [e]
    intro _
    show nd.w = T
    omega
  · have e : tkS nd a = (a.st, a.se + 1, a.fw, a.fM, a.fb, a.fh) := if_neg g
    rw [e]
    intro _
    exact k (by omega)
theorem bg_aq {f : Nd → Ac → Ac} {n : Nat} (v : vok m one two H L) (hf : ∀ nd a, nok one two H L 1 nd → tqT T 1 nd → nd.ea + nd.cb < n → aok H L 1 a → ovr a = false → aqT T a → aqT T (f nd a)) (k : nok one two H L 0 nd) (t : tqT T 0 nd) (r : nd.ea + nd.cb ≤ n) (ka : aok H L 0 a) (o : ovr a = false) (q : aqT T a) : aqT T (bgP H f nd a) := by
  have vH := v_H v
  have fe := fhp_ea v (by decide) k
  have b := n_ea k vH.2
  unfold bgP
  split
  · next g =>
    have := fhp_0 (by omega) g
    refine hf _ _ (nok_O (by omega) vH.2 k this.1 g this.2) ?_ (by rw [r_O]; omega) (aok_1 ka) o q
    unfold tqT at t ⊢
    show nd.w + (nd.ea - 1) + 1 = T
    omega
  · next g =>
    rw [fe] at g
    split
    · exact aq_tk t (by omega) q ka.2.1.1
    · exact q
theorem lp_aq {f : Nd → Ac → Ac} {n : Nat} (v : vok m one two H L) (hf : ∀ nd a, nok one two H L 1 nd → tqT T 1 nd → nd.ea + nd.cb < n → aok H L 1 a → ovr a = false → aqT T a → aqT T (f nd a)) (hf2 : ∀ nd a, nok one two H L 1 nd → nd.ea + nd.cb < n → aok H L 1 a → ovr a = false → aok H L 1 (f nd a)) (k : nok one two H L 1 nd) (t : tqT T 1 nd) (r : nd.ea + nd.cb ≤ n) : ∀ (j : Nat) (l : Int) (a : Ac), l + j ≤ L → 0 ≤ l → aok H L 1 a → aqT T a → aqT T (lpP one two f nd l j a)
  | 0, l, a, _, _, ka, q => q
  | j + 1, l, a, hj, l0, ka, q => by
    have vL := v_L v
    unfold lpP
    split
    · exact q
    · next o =>
      rw [Bool.not_eq_true] at o
      split
      · next g =>
        split
        · exact q
        · next o2 =>
          rw [Bool.not_eq_true] at o2
          have kl := nok_L (two := two) vL.2 k l0 (by omega) g.2 (v_l v l0 (by omega)).2.2
          have rr : (ndL two nd l).ea + (ndL two nd l).cb < n := by rw [r_L]; omega
          refine lp_aq v hf hf2 k t r j (l + 1) _ (by omega) (by omega) (hf2 _ _ kl rr (aok_1 (aok_up ka o)) o2) ?_
          exact hf _ _ kl t rr (aok_1 (aok_up ka o)) o2 q
      · exact lp_aq v hf hf2 k t r j (l + 1) a (by omega) (by omega) ka q
theorem go_aq (v : vok m one two H L) : ∀ (n : Nat) (nd : Nd) (a : Ac), nok one two H L 1 nd → tqT T 1 nd → nd.ea + nd.cb < n → aok H L 1 a → ovr a = false → aqT T a → aqT T (goP one two H L n nd a)
  | 0, nd, a, k, t, r, ka, o, q => q
  | n + 1, nd, a, k, t, r, ka, o, q => by
    have vL := v_L v
    have vH := v_H v
    have hl := lst0_rg k vL.1
    have ta := fun l l0 l1 => (v_l v (l := l) l0 l1).2.2
    have hf2 := go_aok (one := one) (two := two) (H := H) (L := L) (by omega) vH.2 vL.1 vL.2 ta n
    unfold goP
    refine lp_aq v (go_aq v n) hf2 k t (by omega) _ _ _ (by omega) hl.1 ?_ ?_
    · split
      · exact ka
      · exact en_aok (by omega) vH.2 vL.2 hf2 k (by omega) ka o
    · split
      · exact q
      · unfold enP
        split
        · exact q
        · next o2 =>
          rw [Bool.not_eq_true] at o2
          refine bg_aq (n := n) v (go_aq v n) (nok_X vH.2 k) ?_ (by show nd.ea + nd.cb ≤ n; omega) (aok_up ka o) o2 q
          unfold tqT at t ⊢
          show nd.w + 1 + nd.ea + 0 = T
          omega
theorem jn_fw {l : Int} (v : vok m one two H L) (g : 0 < jts (jn m one two H L l)) : (jn m one two H L l).fw = el m l := by
  have k0 := nok_00 (l := l) v
  have ht := k0.t1
  have ht : el m l + cl m l + 0 + 0 ≤ 520 := ht
  have q : aqT (el m l) (jn m one two H L l) := bg_aq (n := 521) v (go_aq v 521) k0 (by unfold tqT; show 0 + el m l + 0 = el m l; omega) (by show el m l + cl m l ≤ 521; omega) aok_00 rfl (fun e => absurd e (by decide))
  exact q (jts_p (jn_aok v) g).2.1
end AQT
