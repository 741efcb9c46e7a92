/-! NEW CELLS -/
theorem nw_t (h : tr_H) (r t n : Nat) : ht (hnw h r t n) r = t := if_pos rfl
theorem nw_n (h : tr_H) (r t n : Nat) : hn (hnw h r t n) r = n := if_pos rfl
theorem nw_R (h : tr_H) (r t n k : Nat) : hR (hnw h r t n) r k = 0 := by
  show up1 (hR h) r (fun _ => 0) r k = 0
  unfold up1; rw [if_pos rfl]
theorem nw_g (h : tr_H) (r t n : Nat) (z : Int) : gv (hnw h r t n) r z = 0 := by
  unfold gv
  split
  · rfl
  · show (up1 (hI h) r (fun _ => 0) r z.toNat).toInt = 0
    unfold up1; rw [if_pos rfl]; rfl
theorem cl_t (h : tr_H) (r q : Nat) : ht (hcl h r q) r = ht h q := if_pos rfl
theorem cl_n (h : tr_H) (r q : Nat) : hn (hcl h r q) r = hn h q := if_pos rfl
theorem cl_R (h : tr_H) (r q : Nat) : hR (hcl h r q) r = hR h q := if_pos rfl
theorem cl_g (h : tr_H) (r q : Nat) : gv (hcl h r q) r = gv h q := by
  funext z
  unfold gv
  split
  · rfl
  · show (up1 (hI h) r (hI h q) r z.toNat).toInt = _
    unfold up1; rw [if_pos rfl]
theorem hR_sR (h : tr_H) (r k v : Nat) : hR (hsR h r k v) r k = v := by
  show up2 (hR h) r k v r k = v
  unfold up2; rw [if_pos rfl, if_pos rfl]
theorem hR_sRk {h : tr_H} {r k v j : Nat} (hj : j ≠ k) : hR (hsR h r k v) r j = hR h r j := by
  show up2 (hR h) r k v r j = _
  unfold up2; rw [if_pos rfl, if_neg hj]
theorem hR_sRn {h : tr_H} {r k v x : Nat} (hx : x ≠ r) : hR (hsR h r k v) x = hR h x := by
  funext j
  show up2 (hR h) r k v x j = _
  unfold up2; rw [if_neg hx]
/-- nothing that was there has changed, but for one cell -/
def fx (r0 : Nat) (h h' : tr_H) : Prop := ∀ x, ht h x ≠ 0 → (ht h' x = ht h x ∧ hn h' x = hn h x) ∧ (x ≠ r0 → gv h' x = gv h x ∧ hJ h' x = hJ h x ∧ hR h' x = hR h x)
section NEW
variable {h h1 h2 hb : tr_H} {r0 r : Nat} {ad : Nat → Nat} {P : Nat → Bool} {F : Int → Bool} {R : Bool}
theorem fx_rfl : fx r0 h h := fun _ _ => ⟨⟨rfl, rfl⟩, fun _ => ⟨rfl, rfl, rfl⟩⟩
theorem fx_tr (a : fx r0 h h1) (b : fx r0 h1 h2) : fx r0 h h2 := by
  intro x hx
  obtain ⟨⟨a1, a2⟩, a3⟩ := a x hx
  obtain ⟨⟨b1, b2⟩, b3⟩ := b x (by rw [a1]; exact hx)
  refine ⟨⟨b1.trans a1, b2.trans a2⟩, fun e => ?_⟩
  obtain ⟨a4, a5, a6⟩ := a3 e
  obtain ⟨b4, b5, b6⟩ := b3 e
  exact ⟨b4.trans a4, b5.trans a5, b6.trans a6⟩
theorem fx_sI (k : Nat) (v : Int32) : fx r0 h (hsI h r0 k v) := fun x _ => ⟨⟨rfl, rfl⟩, fun e => ⟨gv_sIn e, rfl, rfl⟩⟩
theorem fx_sR (k v : Nat) : fx r0 h (hsR h r0 k v) := fun x _ => ⟨⟨rfl, rfl⟩, fun e => ⟨rfl, rfl, hR_sRn e⟩⟩
theorem fx_nw (hr : ht h r = 0) (t n : Nat) : fx r0 h (hnw h r t n) := by
  intro x hx
  have e : x ≠ r := fun e => by rw [e] at hx; exact hx hr
  refine ⟨⟨if_neg e, if_neg e⟩, fun _ => ⟨?_, if_neg e, if_neg e⟩⟩
  funext z
  unfold gv
  split
  · rfl
  · show (up1 (hI h) r (fun _ => 0) x z.toNat).toInt = _
    unfold up1; rw [if_neg e]
theorem fx_cl (hr : ht h r = 0) (q : Nat) : fx r0 h (hcl h r q) := by
  intro x hx
  have e : x ≠ r := fun e => by rw [e] at hx; exact hx hr
  refine ⟨⟨if_neg e, if_neg e⟩, fun _ => ⟨?_, if_neg e, if_neg e⟩⟩
  funext z
  unfold gv
  split
  · rfl
  · show (up1 (hI h) r (hI h q) x z.toNat).toInt = _
    unfold up1; rw [if_neg e]
theorem fx_fr (a : fr ad P F R hb h) (b : fx r0 h h1) (h0 : ht hb r0 = 0) : fr ad P F R hb h1 := by
  intro x hx
  obtain ⟨a1, a2, a3, a4⟩ := a x hx
  have e : x ≠ r0 := fun e => by rw [e] at hx; exact hx h0
  obtain ⟨⟨b1, b2⟩, b3⟩ := b x (by rw [a1]; exact hx)
  obtain ⟨b4, b5, b6⟩ := b3 e
  refine ⟨b1.trans a1, b2.trans a2, fun q => ⟨fun z hz => ?_, ?_⟩, fun k hk => ?_⟩
  · rw [b4]; exact (a3 q).1 z hz
  · rw [b5]; exact (a3 q).2
  · rw [b6]; exact a4 k hk
theorem ne_ht {a b : Nat} (h1 : ht h a ≠ 0) (h2 : ht h b = 0) : a ≠ b := fun e => h1 (by rw [e]; exact h2)
theorem dyn_0 (s : stat ad h) (h0 : ht h r = 0) : dyn ad r := fun i hi e => st_0 s hi (by rw [← e]; exact h0)
/-- a row is copied and the copy put into a field -/
theorem st_clone {g : tr_H} {s k : Nat} (hs : ht g s ≠ 0) (hsr : s ≠ r0) (hr0 : ht g r0 ≠ 0) (hr : ht g r = 0) : fx r0 g (hsR (hcl g r s) r0 k r) ∧ ht (hsR (hcl g r s) r0 k r) r = ht g s ∧ hn (hsR (hcl g r s) r0 k r) r = hn g s ∧ gv (hsR (hcl g r s) r0 k r) r = gv g s ∧ hR (hsR (hcl g r s) r0 k r) r0 k = r ∧ (∀ j, j ≠ k → hR (hsR (hcl g r s) r0 k r) r0 j = hR g r0 j) ∧ gv (hsR (hcl g r s) r0 k r) r0 = gv g r0 ∧ hR (hsR (hcl g r s) r0 k r) r = hR g s := by
  have e0 : r0 ≠ r := ne_ht hr0 hr
  have c := (fx_cl (r0 := r) (h := g) hr s r0 hr0).2 e0
  refine ⟨fx_tr (fx_cl hr s) (fx_sR k r), cl_t g r s, cl_n g r s, ?_, hR_sR _ _ _ _, fun j hj => ?_, ?_, ?_⟩
  · rw [gv_sR]; exact cl_g g r s
  · rw [hR_sRk hj, c.2.2]
  · rw [gv_sR]; exact c.1
  · rw [hR_sRn (fun e => e0 e.symm)]; exact cl_R g r s
end NEW
section CPY
variable {E : tr_Env} {ad : Nat → Nat} {h h0 : tr_H} {Q : tr_Q} {m one two : Int → Int} {H L : Int}
/-- the rows of a net that are its own: new ones -/
def own (hb h : tr_H) (n : Nat) : Prop := ht hb n = 0 ∧ ht hb (hR h n 4) = 0 ∧ ht hb (hR h n 5) = 0 ∧ ht hb (hR h n 6) = 0 ∧ (hR h n 4 ≠ hR h n 5 ∧ hR h n 4 ≠ hR h n 6 ∧ hR h n 5 ≠ hR h n 6) ∧ (hR h n 2 ≠ hR h n 4 ∧ hR h n 2 ≠ hR h n 5 ∧ hR h n 2 ≠ hR h n 6) ∧ hR h n 3 ≠ hR h n 4 ∧ hR h n 3 ≠ hR h n 5 ∧ hR h n 3 ≠ hR h n 6
theorem k_netCopy (ok : tr_ok E) (s0 : stat ad h0) {r nn : Nat} (h0r : ht h0 r = 0) (n : nst ad h0 nn m one two H L) (f : fx r h0 h) (hr : ht h r = 3) (q : ∀ h', fx r h h' → nst ad h' r m one two H L → own h0 h' r → hR h' r 2 = hR h0 nn 2 → hR h' r 3 = hR h0 nn 3 → Q (.inl none) h') : tr_C E 26 [.inr (.inr r), .inr (.inr nn)] h Q := by
  refine T_X2_init_ ok ?_
  obtain ⟨n0, n1, n2, ⟨sa, sb, sc⟩, ⟨ea, eb, ec⟩, ⟨ua, ub, uc⟩, ⟨ra, rb, rc⟩, ⟨ga, gb, g0, g1, g2, g3, g4⟩, d2, d3, d4, d5, d6⟩ := id n
  have nr : nn ≠ r := ne_ht (by rw [n0]; decide) h0r
  have e2 : hR h0 nn 2 ≠ r := ne_ht (by rw [sa]; decide) h0r
  have e3 : hR h0 nn 3 ≠ r := ne_ht (by rw [ea]; decide) h0r
  have e4 : hR h0 nn 4 ≠ r := ne_ht (by rw [ua]; decide) h0r
  have e5 : hR h0 nn 5 ≠ r := ne_ht (by rw [ra]; decide) h0r
  have e6 : hR h0 nn 6 ≠ r := ne_ht (by rw [ga]; decide) h0r
  obtain ⟨⟨fn1, fn2⟩, fn3⟩ := f nn (by rw [n0]; decide)
  obtain ⟨fn3, fn4, fn5⟩ := fn3 nr
  have tn : ht h nn = 3 := fn1.trans n0
  have z0 : gv h nn 0 = H := by rw [fn3]; exact n1
  have z1 : gv h nn 1 = L := by rw [fn3]; exact n2
  have rr := gv_rg h nn 0
  rw [z0] at rr
  have rr1 := gv_rg h nn 1
  rw [z1] at rr1
  have hi0 : hI h nn 0 = ii H := by rw [hI_gv]; show ii (gv h nn 0) = _; rw [z0]
  have hi1 : hI h nn 1 = ii L := by rw [hI_gv]; show ii (gv h nn 1) = _; rw [z1]
  refine ⟨by rw [hr]; decide, tn, hr, fun h1 x1 => ?_⟩
  have t1 : ht h1 = ht h := by rw [x1]; rfl
  have f1 : fx r h h1 := by rw [x1]; exact fx_sI _ _
  refine ⟨by rw [t1]; exact tn, by rw [t1]; exact hr, fun h2 x2 => ?_⟩
  have t2 : ht h2 = ht h := by rw [x2]; exact t1
  have f2 : fx r h1 h2 := by rw [x2]; exact fx_sI _ _
  refine ⟨by rw [t2]; exact tn, by rw [t2]; exact hr, fun h3 x3 => ?_⟩
  have t3 : ht h3 = ht h := by rw [x3]; exact t2
  have f3 : fx r h2 h3 := by rw [x3]; exact fx_sR _ _
  refine ⟨by rw [t3]; exact tn, by rw [t3]; exact hr, fun h4 x4 => ?_⟩
  have t4 : ht h4 = ht h := by rw [x4]; exact t3
  have f4 : fx r h3 h4 := by rw [x4]; exact fx_sR _ _
  have tnz : ht h nn ≠ 0 := by rw [tn]; decide
  have c1 := (f1 nn tnz).2 nr
  have c2 := (fx_tr f1 f2 nn tnz).2 nr
  have c3 := (fx_tr (fx_tr f1 f2) f3 nn tnz).2 nr
  have y0 : gv h4 r 0 = H := by
    rw [x4, gv_sR, x3, gv_sR, x2, gv_sI, ud_ne (by decide), x1, hi0, gv_sIi rr.1 rr.2]; exact ud_eq _ _ _
  have y1 : gv h4 r 1 = L := by
    have e : hI h1 nn 1 = ii L := by rw [hI_gv, c1.1]; show ii (gv h nn 1) = _; rw [z1]
    rw [x4, gv_sR, x3, gv_sR, x2, e, gv_sIi rr1.1 rr1.2]; exact ud_eq _ _ _
  have y2 : hR h4 r 2 = hR h0 nn 2 := by
    rw [x4, hR_sRk (by decide), x3, hR_sR, c2.2.2, fn5]
  have y3 : hR h4 r 3 = hR h0 nn 3 := by
    rw [x4, hR_sR, c3.2.2, fn5]
  have F4 : fx r h0 h4 := fx_tr f (fx_tr f1 (fx_tr f2 (fx_tr f3 f4)))
  have fh4 : fx r h h4 := fx_tr f1 (fx_tr f2 (fx_tr f3 f4))
  clear x1 x2 x3 x4 c1 c2 c3 f1 f2 f3 f4 t1 t2 t3 hi0 hi1
  have hr4 : ht h4 r = 3 := by rw [t4]; exact hr
  have fxc : ∀ {g : tr_H} {x : Nat}, fx r h0 g → ht h0 x ≠ 0 → x ≠ r → ht g x = ht h0 x ∧ hn g x = hn h0 x ∧ gv g x = gv h0 x ∧ hR g x = hR h0 x := fun {g x} a hx e => ⟨(a x hx).1.1, (a x hx).1.2, ((a x hx).2 e).1, ((a x hx).2 e).2.2⟩
  have nn0 : ht h0 nn ≠ 0 := by rw [n0]; decide
  have a4 : ht h0 (hR h0 nn 4) ≠ 0 := by rw [ua]; decide
  have a5 : ht h0 (hR h0 nn 5) ≠ 0 := by rw [ra]; decide
  have a6 : ht h0 (hR h0 nn 6) ≠ 0 := by rw [ga]; decide
  have b4 := fxc F4 nn0 nr
  have u4 := fxc F4 a4 e4
  refine ⟨b4.1.trans n0, ?_⟩
  rw [b4.2.2.2]
  refine ⟨u4.1.trans ua, u4.2.1.trans ub, fun r5 z5 q5 h6 x6 => ⟨?_, ?_, fun h7 x7 => ?_⟩⟩
  · rw [x6, cl_t]; exact u4.1.trans ua
  · rw [x6]; exact ((fx_cl (r0 := r5) q5 _ r (by rw [hr4]; decide)).1.1).trans hr4
  obtain ⟨C1, C2, C3, C4, C5, C6, C7, -⟩ := st_clone (g := h4) (r0 := r) (r := r5) (k := 4) (s := hR h0 nn 4) (by rw [u4.1]; exact a4) e4 (by rw [hr4]; decide) q5
  rw [x6] at x7
  rw [← x7] at C1 C2 C3 C4 C5 C6 C7
  have F7 : fx r h0 h7 := fx_tr F4 C1
  have fh7 : fx r h h7 := fx_tr fh4 C1
  have hr7 : ht h7 r = 3 := (C1 r (by rw [hr4]; decide)).1.1.trans hr4
  have y0b : gv h7 r 0 = H := by rw [C7]; exact y0
  have y1b : gv h7 r 1 = L := by rw [C7]; exact y1
  have y2b : hR h7 r 2 = hR h0 nn 2 := (C6 2 (by decide)).trans y2
  have y3b : hR h7 r 3 = hR h0 nn 3 := (C6 3 (by decide)).trans y3
  have w4 : ht h7 r5 = 11 ∧ hn h7 r5 = 24 ∧ gv h7 r5 = gv h0 (hR h0 nn 4) := ⟨C2.trans (u4.1.trans ua), C3.trans (u4.2.1.trans ub), C4.trans u4.2.2.1⟩
  have q5a : ht h0 r5 = 0 := by
    by_cases g : ht h0 r5 = 0
    · exact g
    · exact absurd q5 (by rw [(F4 r5 g).1.1]; exact g)
  have nr5 : r5 ≠ r := fun e => by rw [e, hr4] at q5; cases q5
  clear x6 x7 C1 C2 C3 C4 C6 C7 b4 u4
  have b7 := fxc F7 nn0 nr
  have u7 := fxc F7 a5 e5
  refine ⟨b7.1.trans n0, ?_⟩
  rw [b7.2.2.2]
  refine ⟨u7.1.trans ra, u7.2.1.trans rb, fun r8 z8 q8 h9 x9 => ⟨?_, ?_, fun h10 x10 => ?_⟩⟩
  · rw [x9, cl_t]; exact u7.1.trans ra
  · rw [x9]; exact ((fx_cl (r0 := r8) q8 _ r (by rw [hr7]; decide)).1.1).trans hr7
  obtain ⟨C1, C2, C3, C4, C5b, C6, C7, -⟩ := st_clone (g := h7) (r0 := r) (r := r8) (k := 5) (s := hR h0 nn 5) (by rw [u7.1]; exact a5) e5 (by rw [hr7]; decide) q8
  rw [x9] at x10
  rw [← x10] at C1 C2 C3 C4 C5b C6 C7
  have F10 : fx r h0 h10 := fx_tr F7 C1
  have fh10 : fx r h h10 := fx_tr fh7 C1
  have hr10 : ht h10 r = 3 := (C1 r (by rw [hr7]; decide)).1.1.trans hr7
  have y0c : gv h10 r 0 = H := by rw [C7]; exact y0b
  have y1c : gv h10 r 1 = L := by rw [C7]; exact y1b
  have y2c : hR h10 r 2 = hR h0 nn 2 := (C6 2 (by decide)).trans y2b
  have y3c : hR h10 r 3 = hR h0 nn 3 := (C6 3 (by decide)).trans y3b
  have y4c : hR h10 r 4 = r5 := (C6 4 (by decide)).trans C5
  have n85 : r5 ≠ r8 := ne_ht (by rw [w4.1]; decide) q8
  have k5 := C1 r5 (by rw [w4.1]; decide)
  have w4b : ht h10 r5 = 11 ∧ hn h10 r5 = 24 ∧ gv h10 r5 = gv h0 (hR h0 nn 4) := ⟨k5.1.1.trans w4.1, k5.1.2.trans w4.2.1, (k5.2 nr5).1.trans w4.2.2⟩
  have w5 : ht h10 r8 = 11 ∧ hn h10 r8 = 100 ∧ gv h10 r8 = gv h0 (hR h0 nn 5) := ⟨C2.trans (u7.1.trans ra), C3.trans (u7.2.1.trans rb), C4.trans u7.2.2.1⟩
  have q8a : ht h0 r8 = 0 := by
    by_cases g : ht h0 r8 = 0
    · exact g
    · exact absurd q8 (by rw [(F7 r8 g).1.1]; exact g)
  have nr8 : r8 ≠ r := fun e => by rw [e, hr7] at q8; cases q8
  clear x9 x10 C1 C2 C3 C4 C6 C7 b7 u7 k5
  have b10 := fxc F10 nn0 nr
  have u10 := fxc F10 a6 e6
  refine ⟨b10.1.trans n0, ?_⟩
  rw [b10.2.2.2]
  refine ⟨u10.1.trans ga, u10.2.1.trans gb, fun r11 z11 q11 h12 x12 => ⟨?_, ?_, fun h13 x13 => ?_⟩⟩
  · rw [x12, cl_t]; exact u10.1.trans ga
  · rw [x12]; exact ((fx_cl (r0 := r11) q11 _ r (by rw [hr10]; decide)).1.1).trans hr10
  obtain ⟨C1, C2, C3, C4, C5c, C6, C7, -⟩ := st_clone (g := h10) (r0 := r) (r := r11) (k := 6) (s := hR h0 nn 6) (by rw [u10.1]; exact a6) e6 (by rw [hr10]; decide) q11
  rw [x12] at x13
  rw [← x13] at C1 C2 C3 C4 C5c C6 C7
  have F13 : fx r h0 h13 := fx_tr F10 C1
  have fh13 : fx r h h13 := fx_tr fh10 C1
  have hr13 : ht h13 r = 3 := (C1 r (by rw [hr10]; decide)).1.1.trans hr10
  have n511 : r5 ≠ r11 := ne_ht (by rw [w4b.1]; decide) q11
  have n811 : r8 ≠ r11 := ne_ht (by rw [w5.1]; decide) q11
  have k5 := C1 r5 (by rw [w4b.1]; decide)
  have k8 := C1 r8 (by rw [w5.1]; decide)
  have q11a : ht h0 r11 = 0 := by
    by_cases g : ht h0 r11 = 0
    · exact g
    · exact absurd q11 (by rw [(F10 r11 g).1.1]; exact g)
  have m2 := fxc F13 (x := hR h0 nn 2) (by rw [sa]; decide) e2
  have m3 := fxc F13 (x := hR h0 nn 3) (by rw [ea]; decide) e3
  have R2 : hR h13 r 2 = hR h0 nn 2 := (C6 2 (by decide)).trans y2c
  have R3 : hR h13 r 3 = hR h0 nn 3 := (C6 3 (by decide)).trans y3c
  have R4 : hR h13 r 4 = r5 := (C6 4 (by decide)).trans y4c
  have R5 : hR h13 r 5 = r8 := (C6 5 (by decide)).trans C5b
  refine q h13 fh13 ?_ ?_ R2 R3
  · unfold nst
    rw [R2, R3, R4, R5, C5c, C7, y0c, y1c, m2.1, m2.2.1, m2.2.2.1, m3.1, m3.2.1, m3.2.2.1, k5.1.1, k5.1.2, (k5.2 nr5).1, w4b.1, w4b.2.1, w4b.2.2, k8.1.1, k8.1.2, (k8.2 nr8).1, w5.1, w5.2.1, w5.2.2, C2, C3, C4, u10.1, u10.2.1, u10.2.2.1]
    exact ⟨hr13, rfl, rfl, ⟨sa, sb, sc⟩, ⟨ea, eb, ec⟩, ⟨rfl, rfl, uc⟩, ⟨rfl, rfl, rc⟩, ⟨ga, gb, g0, g1, g2, g3, g4⟩, d2, d3, dyn_0 s0 q5a, dyn_0 s0 q8a, dyn_0 s0 q11a⟩
  · unfold own
    rw [R2, R3, R4, R5, C5c]
    exact ⟨h0r, q5a, q8a, q11a, ⟨n85, n511, n811⟩, ⟨ne_ht (h := h0) (by rw [sa]; decide) q5a, ne_ht (h := h0) (by rw [sa]; decide) q8a, ne_ht (h := h0) (by rw [sa]; decide) q11a⟩, ne_ht (h := h0) (by rw [ea]; decide) q5a, ne_ht (h := h0) (by rw [ea]; decide) q8a, ne_ht (h := h0) (by rw [ea]; decide) q11a⟩
end CPY
