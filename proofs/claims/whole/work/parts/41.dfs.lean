/-! JOINING, AS IT IS -/
def Nd : Type := (Int → Int) × (Int → Int) × Int × Int × (Int → Int) × (Int → Int) × (Int → Int) × Int × Int × Int × Bool
def Nd.A (nd : Nd) : Int → Int := nd.1
def Nd.B (nd : Nd) : Int → Int := nd.2.1
def Nd.ea (nd : Nd) : Int := nd.2.2.1
def Nd.cb (nd : Nd) : Int := nd.2.2.2.1
def Nd.M (nd : Nd) : Int → Int := nd.2.2.2.2.1
def Nd.bg (nd : Nd) : Int → Int := nd.2.2.2.2.2.1
def Nd.hp (nd : Nd) : Int → Int := nd.2.2.2.2.2.2.1
def Nd.w (nd : Nd) : Int := nd.2.2.2.2.2.2.2.1
def Nd.d (nd : Nd) : Int := nd.2.2.2.2.2.2.2.2.1
def Nd.pl (nd : Nd) : Int := nd.2.2.2.2.2.2.2.2.2.1
def Nd.al (nd : Nd) : Bool := nd.2.2.2.2.2.2.2.2.2.2
def Ac : Type := Int × Int × Int × (Int → Int) × (Int → Int) × (Int → Int)
def Ac.st (a : Ac) : Int := a.1
def Ac.se (a : Ac) : Int := a.2.1
def Ac.fw (a : Ac) : Int := a.2.2.1
def Ac.fM (a : Ac) : Int → Int := a.2.2.2.1
def Ac.fb (a : Ac) : Int → Int := a.2.2.2.2.1
def Ac.fh (a : Ac) : Int → Int := a.2.2.2.2.2
def Ac.up (a : Ac) : Ac := (a.st + 1, a.se, a.fw, a.fM, a.fb, a.fh)
def ovr (a : Ac) : Bool := decide (5000 < a.st)
def fhp (A : Int → Int) : Int → Nat → Int
  | x, 0 => x
  | x, n + 1 => if A x = 0 then fhp A (x + 1) n else x
def ndX (nd : Nd) : Nd := (nd.A, nd.B, nd.ea, nd.cb, ud nd.M nd.d (-1), ud nd.bg (nd.w + 1) (nd.d + 1), nd.hp, nd.w + 1, nd.d + 1, nd.pl, nd.al)
def ndO (nd : Nd) (x : Int) : Nd := (ud nd.A x (nd.A x - 1), nd.B, nd.ea - 1, nd.cb, nd.M, nd.bg, ud nd.hp nd.w x, nd.w, nd.d, x, decide (0 < nd.w) && decide (nd.hp (nd.w - 1) = x))
def tkS (nd : Nd) (a : Ac) : Ac := if a.se = 0 then (a.st, a.se + 1, nd.w, nd.M, nd.bg, nd.hp) else (a.st, a.se + 1, a.fw, a.fM, a.fb, a.fh)
def ah (nd : Nd) : Int := nd.bg nd.w - 1 - nd.bg (nd.w - 1)
def mn (nd : Nd) : Int := nd.d - nd.bg nd.w
def gA (nd : Nd) : Bool := nd.al && decide (mn nd < ah nd)
def lst0 (nd : Nd) : Int := if gA nd then nd.M (nd.bg (nd.w - 1) + mn nd) else 0
def ndL (two : Int → Int) (nd : Nd) (l : Int) : Nd := (nd.A, ud nd.B l (nd.B l - 1), nd.ea, nd.cb - 1, ud nd.M nd.d l, nd.bg, nd.hp, nd.w, nd.d + 1, two l, gA nd && decide (l = lst0 nd))
def bgP (H : Int) (f : Nd → Ac → Ac) (nd : Nd) (a : Ac) : Ac := if fhp nd.A 0 H.toNat < H then f (ndO nd (fhp nd.A 0 H.toNat)) a else if nd.ea + nd.cb = 0 then tkS nd a else a
def enP (H : Int) (f : Nd → Ac → Ac) (nd : Nd) (a : Ac) : Ac := if ovr a.up then a.up else bgP H f (ndX nd) a.up
def lpP (one two : Int → Int) (f : Nd → Ac → Ac) (nd : Nd) : Int → Nat → Ac → Ac
  | _, 0, a => a
  | l, k + 1, a => if ovr a then a else if one l = nd.pl ∧ nd.B l ≠ 0 then (if ovr a.up then a.up else lpP one two f nd (l + 1) k (f (ndL two nd l) a.up)) else lpP one two f nd (l + 1) k a
def goP (one two : Int → Int) (H L : Int) : Nat → Nd → Ac → Ac
  | 0, _, a => a
  | n + 1, nd, a => lpP one two (goP one two H L n) nd (lst0 nd) (L - lst0 nd).toNat (if gA nd then a else enP H (goP one two H L n) nd a)
def enN (nd : Nd) (k : Int) : Int := if k = nd.w then nd.d else nd.bg (k + 1) - 1
/-- a place of the search is as it must be; c = 1: with a walk open -/
def nok (one two : Int → Int) (H L c : Int) (nd : Nd) : Prop := (∀ x, 0 ≤ x → x < 10 → 0 ≤ nd.A x ∧ nd.A x ≤ 520) ∧ (∀ x, H ≤ x → x < 10 → nd.A x = 0) ∧ (∀ y, 0 ≤ y → y < 24 → 0 ≤ nd.B y ∧ nd.B y ≤ 520) ∧ (∀ y, L ≤ y → y < 24 → nd.B y = 0) ∧ (nd.ea = sm nd.A 0 H.toNat) ∧ (nd.cb = sm nd.B 0 L.toNat) ∧ (nd.ea + nd.cb + nd.d + c ≤ 520) ∧ (nd.w + nd.ea + c ≤ 40) ∧ (0 ≤ nd.w) ∧ (nd.bg 0 = 0) ∧ (∀ k, 0 ≤ k → k < nd.w → nd.bg k + 1 ≤ nd.bg (k + 1)) ∧ (nd.bg nd.w ≤ nd.d) ∧ (c = 0 → nd.bg nd.w = nd.d) ∧ (∀ k i, 0 ≤ k → k ≤ nd.w → nd.bg k ≤ i → i < enN nd k → 0 ≤ nd.M i ∧ nd.M i < L) ∧ (∀ k, 0 ≤ k → k < nd.w → nd.M (nd.bg (k + 1) - 1) = -1) ∧ (∀ k, 0 ≤ k → k < nd.w + c → 0 ≤ nd.hp k ∧ nd.hp k < H) ∧ (c = 1 → 0 ≤ nd.pl ∧ nd.pl < H) ∧ (c = 1 → nd.al = true → 1 ≤ nd.w ∧ mn nd ≤ ah nd)
theorem nok.a1 {one two : Int → Int} {H L c : Int} {nd : Nd} (n : nok one two H L c nd) : ∀ x, 0 ≤ x → x < 10 → 0 ≤ nd.A x ∧ nd.A x ≤ 520 := n.1
theorem nok.a2 {one two : Int → Int} {H L c : Int} {nd : Nd} (n : nok one two H L c nd) : ∀ x, H ≤ x → x < 10 → nd.A x = 0 := n.2.1
theorem nok.b1 {one two : Int → Int} {H L c : Int} {nd : Nd} (n : nok one two H L c nd) : ∀ y, 0 ≤ y → y < 24 → 0 ≤ nd.B y ∧ nd.B y ≤ 520 := n.2.2.1
theorem nok.b2 {one two : Int → Int} {H L c : Int} {nd : Nd} (n : nok one two H L c nd) : ∀ y, L ≤ y → y < 24 → nd.B y = 0 := n.2.2.2.1
theorem nok.s1 {one two : Int → Int} {H L c : Int} {nd : Nd} (n : nok one two H L c nd) : nd.ea = sm nd.A 0 H.toNat := n.2.2.2.2.1
theorem nok.s2 {one two : Int → Int} {H L c : Int} {nd : Nd} (n : nok one two H L c nd) : nd.cb = sm nd.B 0 L.toNat := n.2.2.2.2.2.1
theorem nok.t1 {one two : Int → Int} {H L c : Int} {nd : Nd} (n : nok one two H L c nd) : nd.ea + nd.cb + nd.d + c ≤ 520 := n.2.2.2.2.2.2.1
theorem nok.t2 {one two : Int → Int} {H L c : Int} {nd : Nd} (n : nok one two H L c nd) : nd.w + nd.ea + c ≤ 40 := n.2.2.2.2.2.2.2.1
theorem nok.w0 {one two : Int → Int} {H L c : Int} {nd : Nd} (n : nok one two H L c nd) : 0 ≤ nd.w := n.2.2.2.2.2.2.2.2.1
theorem nok.g0 {one two : Int → Int} {H L c : Int} {nd : Nd} (n : nok one two H L c nd) : nd.bg 0 = 0 := n.2.2.2.2.2.2.2.2.2.1
theorem nok.g1 {one two : Int → Int} {H L c : Int} {nd : Nd} (n : nok one two H L c nd) : ∀ k, 0 ≤ k → k < nd.w → nd.bg k + 1 ≤ nd.bg (k + 1) := n.2.2.2.2.2.2.2.2.2.2.1
theorem nok.g2 {one two : Int → Int} {H L c : Int} {nd : Nd} (n : nok one two H L c nd) : nd.bg nd.w ≤ nd.d := n.2.2.2.2.2.2.2.2.2.2.2.1
theorem nok.g3 {one two : Int → Int} {H L c : Int} {nd : Nd} (n : nok one two H L c nd) : c = 0 → nd.bg nd.w = nd.d := n.2.2.2.2.2.2.2.2.2.2.2.2.1
theorem nok.m1 {one two : Int → Int} {H L c : Int} {nd : Nd} (n : nok one two H L c nd) : ∀ k i, 0 ≤ k → k ≤ nd.w → nd.bg k ≤ i → i < enN nd k → 0 ≤ nd.M i ∧ nd.M i < L := n.2.2.2.2.2.2.2.2.2.2.2.2.2.1
theorem nok.m2 {one two : Int → Int} {H L c : Int} {nd : Nd} (n : nok one two H L c nd) : ∀ k, 0 ≤ k → k < nd.w → nd.M (nd.bg (k + 1) - 1) = -1 := n.2.2.2.2.2.2.2.2.2.2.2.2.2.2.1
theorem nok.p1 {one two : Int → Int} {H L c : Int} {nd : Nd} (n : nok one two H L c nd) : ∀ k, 0 ≤ k → k < nd.w + c → 0 ≤ nd.hp k ∧ nd.hp k < H := n.2.2.2.2.2.2.2.2.2.2.2.2.2.2.2.1
theorem nok.p2 {one two : Int → Int} {H L c : Int} {nd : Nd} (n : nok one two H L c nd) : c = 1 → 0 ≤ nd.pl ∧ nd.pl < H := n.2.2.2.2.2.2.2.2.2.2.2.2.2.2.2.2.1
theorem nok.p3 {one two : Int → Int} {H L c : Int} {nd : Nd} (n : nok one two H L c nd) : c = 1 → nd.al = true → 1 ≤ nd.w ∧ mn nd ≤ ah nd := n.2.2.2.2.2.2.2.2.2.2.2.2.2.2.2.2.2
theorem sm_nn {f : Int → Int} : ∀ (n : Nat) (i : Int), (∀ j, i ≤ j → j < i + n → 0 ≤ f j) → 0 ≤ sm f i n
  | 0, _, _ => Int.le_refl _
  | n + 1, i, h => by
    have h1 := h i (Int.le_refl _) (by omega)
    have h2 := sm_nn n (i + 1) (fun j h1 h2 => h j (by omega) (by omega))
    rw [sm_s]; omega
theorem sm_ud {f : Int → Int} {x v : Int} : ∀ (n : Nat) (i : Int), i ≤ x → x < i + n → sm (ud f x v) i n = sm f i n - f x + v
  | 0, _, _, _ => by omega
  | n + 1, i, h1, h2 => by
    rw [sm_s, sm_s]
    by_cases e : i = x
    · subst e
      have : sm (ud f i v) (i + 1) n = sm f (i + 1) n := sm_congr n _ (fun j j1 j2 => ud_ne (by omega))
      rw [this, ud_eq]; omega
    · rw [ud_ne e, sm_ud n (i + 1) (by omega) (by omega)]; omega
theorem sm_one {f : Int → Int} {x : Int} (n : Nat) (i : Int) (h : ∀ j, i ≤ j → j < i + n → 0 ≤ f j) (h1 : i ≤ x) (h2 : x < i + n) : f x ≤ sm f i n := by
  have e := sm_ud (v := 0) (f := f) n i h1 h2
  have := sm_nn (f := ud f x 0) n i (fun j j1 j2 => by
    unfold ud
    split
    · omega
    · exact h j j1 j2)
  omega
theorem fhp_rg {A : Int → Int} : ∀ (n : Nat) (x : Int), x ≤ fhp A x n ∧ fhp A x n ≤ x + n ∧ (fhp A x n < x + n → A (fhp A x n) ≠ 0)
  | 0, x => by unfold fhp; omega
  | n + 1, x => by
    unfold fhp
    split
    · have := fhp_rg (A := A) n (x + 1)
      refine ⟨by omega, by omega, fun h => this.2.2 (by omega)⟩
    · next g => exact ⟨by omega, by omega, fun _ => g⟩
theorem fhp_z {A : Int → Int} : ∀ (n : Nat) (x : Int), fhp A x n = x + n → sm A x n = 0
  | 0, x, _ => rfl
  | n + 1, x, h => by
    unfold fhp at h
    rw [sm_s]
    split at h
    · next g =>
      rw [g, fhp_z n (x + 1) (by omega)]; rfl
    · omega
section NOK
variable {one two : Int → Int} {H L c : Int} {nd : Nd}
theorem n_ea (n : nok one two H L c nd) (h1 : H ≤ 10) : 0 ≤ nd.ea := by
  rw [n.s1]
  exact sm_nn _ _ (fun j j1 j2 => (n.a1 j j1 (by omega)).1)
theorem n_cb (n : nok one two H L c nd) (h1 : L ≤ 24) : 0 ≤ nd.cb := by
  rw [n.s2]
  exact sm_nn _ _ (fun j j1 j2 => (n.b1 j j1 (by omega)).1)
theorem n_bg (n : nok one two H L c nd) : ∀ (m : Nat) (k : Int), 0 ≤ k → k + m ≤ nd.w → nd.bg k + m ≤ nd.bg (k + m)
  | 0, k, _, _ => by simp
  | m + 1, k, h1, h2 => by
    have e1 := n_bg n m k h1 (by omega)
    have e2 := n.g1 (k + m) (by omega) (by omega)
    rw [show k + ((m + 1 : Nat) : Int) = k + m + 1 by omega]
    omega
theorem n_le (n : nok one two H L c nd) {k j : Int} (h1 : 0 ≤ k) (h2 : k ≤ j) (h3 : j ≤ nd.w) : nd.bg k + (j - k) ≤ nd.bg j := by
  have := n_bg n (j - k).toNat k h1 (by omega)
  rw [show k + ((j - k).toNat : Int) = j by omega] at this
  omega
theorem n_b0 (n : nok one two H L c nd) {k : Int} (h1 : 0 ≤ k) (h2 : k ≤ nd.w) : k ≤ nd.bg k ∧ nd.bg k - k ≤ nd.d - nd.w := by
  have e1 := n_le n (Int.le_refl 0) h1 h2
  have e2 := n_le n h1 h2 (Int.le_refl _)
  have e3 := n.g0
  have e4 := n.g2
  omega
theorem n_ix (n : nok one two H L c nd) {k i : Int} (h1 : 0 ≤ k) (h2 : k ≤ nd.w) (h3 : nd.bg k ≤ i) (h4 : i < enN nd k) : 0 ≤ i - k ∧ i - k < nd.d - nd.w ∧ i < nd.d := by
  have e1 := n_b0 n h1 h2
  unfold enN at h4
  split at h4
  · subst k; omega
  · have e2 := n_b0 n (k := k + 1) (by omega) (by omega)
    have e3 := n_le n (k := k + 1) (j := nd.w) (by omega) (by omega) (by omega)
    have e4 := n.g2
    omega
theorem nok_X (hH : H ≤ 10) (n : nok one two H L 1 nd) : nok one two H L 0 (ndX nd) := by
  have hw := n.w0
  have e := n_ea n hH
  refine ⟨n.a1, n.a2, n.b1, n.b2, n.s1, n.s2, ?_, ?_, ?_, ?_, ?_, ?_, ?_, ?_, ?_, ?_, fun h => by omega, fun h => by omega⟩
  · have := n.t1
    show nd.ea + nd.cb + (nd.d + 1) + 0 ≤ 520
    omega
  · have := n.t2
    show nd.w + 1 + nd.ea + 0 ≤ 40
    omega
  · show 0 ≤ nd.w + 1
    omega
  · show ud nd.bg (nd.w + 1) (nd.d + 1) 0 = 0
    rw [ud_ne (by omega)]; exact n.g0
  · intro k k0 k1
    have k1 : k < nd.w + 1 := k1
    show ud nd.bg (nd.w + 1) (nd.d + 1) k + 1 ≤ ud nd.bg (nd.w + 1) (nd.d + 1) (k + 1)
    rw [ud_ne (by omega)]
    by_cases e : k = nd.w
    · subst e; rw [ud_eq]
      have := n.g2; omega
    · rw [ud_ne (by omega)]; exact n.g1 k k0 (by omega)
  · show ud nd.bg (nd.w + 1) (nd.d + 1) (nd.w + 1) ≤ nd.d + 1
    rw [ud_eq]; omega
  · intro _
    show ud nd.bg (nd.w + 1) (nd.d + 1) (nd.w + 1) = nd.d + 1
    rw [ud_eq]
  · intro k i k0 k1 i0 i1
    have k1 : k ≤ nd.w + 1 := k1
    have i0 : ud nd.bg (nd.w + 1) (nd.d + 1) k ≤ i := i0
    have i1 : i < if k = nd.w + 1 then nd.d + 1 else ud nd.bg (nd.w + 1) (nd.d + 1) (k + 1) - 1 := i1
    show 0 ≤ ud nd.M nd.d (-1) i ∧ ud nd.M nd.d (-1) i < L
    by_cases e : k = nd.w + 1
    · subst e; rw [ud_eq] at i0; rw [if_pos rfl] at i1; omega
    · rw [if_neg e] at i1
      rw [ud_ne e] at i0
      by_cases e2 : k = nd.w
      · subst e2
        rw [ud_eq] at i1
        rw [ud_ne (by omega)]
        exact n.m1 nd.w i hw (Int.le_refl _) i0 (by unfold enN; rw [if_pos rfl]; omega)
      · rw [ud_ne (by omega)] at i1
        have i2 : i < enN nd k := by unfold enN; rw [if_neg e2]; exact i1
        have := n_ix n k0 (by omega) i0 i2
        rw [ud_ne (by omega)]
        exact n.m1 k i k0 (by omega) i0 i2
  · intro k k0 k1
    have k1 : k < nd.w + 1 := k1
    show ud nd.M nd.d (-1) (ud nd.bg (nd.w + 1) (nd.d + 1) (k + 1) - 1) = -1
    by_cases e : k = nd.w
    · subst e; rw [ud_eq, show nd.d + 1 - 1 = nd.d by omega, ud_eq]
    · rw [ud_ne (f := nd.bg) (by omega)]
      have e1 := n_le n (k := k + 1) (j := nd.w) (by omega) (by omega) (by omega)
      have e2 := n.g2
      rw [ud_ne (by omega)]
      exact n.m2 k k0 (by omega)
  · intro k k0 k1
    have k1 : k < nd.w + 1 + 0 := k1
    exact n.p1 k k0 (by omega)
theorem nok_O (hH : 0 ≤ H) (hH2 : H ≤ 10) (n : nok one two H L 0 nd) {x : Int} (x0 : 0 ≤ x) (x1 : x < H) (x2 : nd.A x ≠ 0) : nok one two H L 1 (ndO nd x) := by
  have hw := n.w0
  have e := n_ea n hH2
  have ex := n.a1 x x0 (by omega)
  have sx := sm_one H.toNat 0 (fun j j1 j2 => (n.a1 j j1 (by omega)).1) x0 (by omega)
  rw [← n.s1] at sx
  have g3 := n.g3 rfl
  refine ⟨?_, ?_, n.b1, n.b2, ?_, n.s2, ?_, ?_, n.w0, n.g0, n.g1, n.g2, fun h => by omega, n.m1, n.m2, ?_, ?_, ?_⟩
  · intro y y0 y1
    have := n.a1 y y0 y1
    show 0 ≤ ud nd.A x (nd.A x - 1) y ∧ ud nd.A x (nd.A x - 1) y ≤ 520
    unfold ud
    split <;> omega
  · intro y y0 y1
    show ud nd.A x (nd.A x - 1) y = 0
    rw [ud_ne (by omega)]; exact n.a2 y y0 y1
  · show nd.ea - 1 = sm (ud nd.A x (nd.A x - 1)) 0 H.toNat
    rw [sm_ud H.toNat 0 x0 (by omega), ← n.s1]; omega
  · have := n.t1
    show nd.ea - 1 + nd.cb + nd.d + 1 ≤ 520
    omega
  · have := n.t2
    show nd.w + (nd.ea - 1) + 1 ≤ 40
    omega
  · intro k k0 k1
    have k1 : k < nd.w + 1 := k1
    show 0 ≤ ud nd.hp nd.w x k ∧ ud nd.hp nd.w x k < H
    by_cases e : k = nd.w
    · subst e; rw [ud_eq]; exact ⟨x0, x1⟩
    · rw [ud_ne e]; exact n.p1 k k0 (by omega)
  · intro _; exact ⟨x0, x1⟩
  · intro _ ha
    have ha : (decide (0 < nd.w) && decide (nd.hp (nd.w - 1) = x)) = true := ha
    rw [Bool.and_eq_true, decide_eq_true_eq] at ha
    have e2 := n.g1 (nd.w - 1) (by omega) (by omega)
    rw [show nd.w - 1 + 1 = nd.w by omega] at e2
    refine ⟨by have := ha.1; show 1 ≤ nd.w; omega, ?_⟩
    show nd.d - nd.bg nd.w ≤ nd.bg nd.w - 1 - nd.bg (nd.w - 1)
    omega
theorem nok_L (hL2 : L ≤ 24) (n : nok one two H L 1 nd) {l : Int} (l0 : 0 ≤ l) (l1 : l < L) (l2 : nd.B l ≠ 0) (t0 : 0 ≤ two l ∧ two l < H) : nok one two H L 1 (ndL two nd l) := by
  have hw := n.w0
  have e := n_cb n hL2
  have ex := n.b1 l l0 (by omega)
  have sx := sm_one L.toNat 0 (fun j j1 j2 => (n.b1 j j1 (by omega)).1) l0 (by omega)
  rw [← n.s2] at sx
  refine ⟨n.a1, n.a2, ?_, ?_, n.s1, ?_, ?_, n.t2, n.w0, n.g0, n.g1, ?_, fun h => by omega, ?_, ?_, n.p1, fun _ => t0, ?_⟩
  · intro y y0 y1
    have := n.b1 y y0 y1
    show 0 ≤ ud nd.B l (nd.B l - 1) y ∧ ud nd.B l (nd.B l - 1) y ≤ 520
    unfold ud
    split <;> omega
  · intro y y0 y1
    show ud nd.B l (nd.B l - 1) y = 0
    rw [ud_ne (by omega)]; exact n.b2 y y0 y1
  · show nd.cb - 1 = sm (ud nd.B l (nd.B l - 1)) 0 L.toNat
    rw [sm_ud L.toNat 0 l0 (by omega), ← n.s2]; omega
  · have := n.t1
    show nd.ea + (nd.cb - 1) + (nd.d + 1) + 1 ≤ 520
    omega
  · have := n.g2
    show nd.bg nd.w ≤ nd.d + 1
    omega
  · intro k i k0 k1 i0 i1
    have k1 : k ≤ nd.w := k1
    have i0 : nd.bg k ≤ i := i0
    have i1 : i < if k = nd.w then nd.d + 1 else nd.bg (k + 1) - 1 := i1
    show 0 ≤ ud nd.M nd.d l i ∧ ud nd.M nd.d l i < L
    by_cases e : i = nd.d
    · subst e; rw [ud_eq]; exact ⟨l0, l1⟩
    · rw [ud_ne e]
      refine n.m1 k i k0 k1 i0 ?_
      unfold enN
      split
      · next g => rw [if_pos g] at i1; omega
      · next g => rw [if_neg g] at i1; omega
  · intro k k0 k1
    have k1 : k < nd.w := k1
    show ud nd.M nd.d l (nd.bg (k + 1) - 1) = -1
    have e1 := n_le n (k := k + 1) (j := nd.w) (by omega) (by omega) (by omega)
    have e2 := n.g2
    rw [ud_ne (by omega)]
    exact n.m2 k k0 k1
  · intro _ ha
    have ha : (gA nd && decide (l = lst0 nd)) = true := ha
    rw [Bool.and_eq_true] at ha
    have hg := ha.1
    unfold gA at hg
    rw [Bool.and_eq_true, decide_eq_true_eq] at hg
    have := n.p3 rfl hg.1
    refine ⟨this.1, ?_⟩
    have h2 := hg.2
    unfold mn ah at h2
    show nd.d + 1 - nd.bg nd.w ≤ nd.bg nd.w - 1 - nd.bg (nd.w - 1)
    omega
end NOK
