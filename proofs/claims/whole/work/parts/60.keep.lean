/-! A STATE IS KEPT, AND GOES ON AS A COPY -/
section KEEP
variable {E : tr_Env} {ad : Nat → Nat} {h h0 h1 hb : tr_H} {Q : tr_Q} {m one two : Int → Int} {H L p : Int} {r n s qq : Nat}
theorem fx_c (f : fx r h h1) {x : Nat} (hx : ht h x ≠ 0) (e : x ≠ r) : ht h1 x = ht h x ∧ hn h1 x = hn h x ∧ gv h1 x = gv h x ∧ hR h1 x = hR h x := ⟨(f x hx).1.1, (f x hx).1.2, ((f x hx).2 e).1, ((f x hx).2 e).2.2⟩
theorem ne_tg {a b : Nat} (hn : ht h a ≠ ht h b) : a ≠ b := fun e => hn (by rw [e])
theorem nst_fx (f : fx r h h1) (h3 : ht h r ≠ 3) (h11 : ht h r ≠ 11) (w : nst ad h n m one two H L) : nst ad h1 n m one two H L := by
  obtain ⟨n0, n1, n2, ⟨sa, sb, sc⟩, ⟨ea, eb, ec⟩, ⟨ua, ub, uc⟩, ⟨ra, rb, rc⟩, ⟨ga, gb, g0, g1, g2, g3, g4⟩, d⟩ := w
  have a := fx_c f (x := n) (by omega) (ne_tg (h := h) (by omega))
  have b2 := fx_c f (x := hR h n 2) (by omega) (ne_tg (h := h) (by omega))
  have b3 := fx_c f (x := hR h n 3) (by omega) (ne_tg (h := h) (by omega))
  have b4 := fx_c f (x := hR h n 4) (by omega) (ne_tg (h := h) (by omega))
  have b5 := fx_c f (x := hR h n 5) (by omega) (ne_tg (h := h) (by omega))
  have b6 := fx_c f (x := hR h n 6) (by omega) (ne_tg (h := h) (by omega))
  unfold nst
  rw [a.2.2.2, a.1, a.2.2.1, b2.1, b2.2.1, b2.2.2.1, b3.1, b3.2.1, b3.2.2.1, b4.1, b4.2.1, b4.2.2.1, b5.1, b5.2.1, b5.2.2.1, b6.1, b6.2.1, b6.2.2.1]
  exact ⟨n0, n1, n2, ⟨sa, sb, sc⟩, ⟨ea, eb, ec⟩, ⟨ua, ub, uc⟩, ⟨ra, rb, rc⟩, ⟨ga, gb, g0, g1, g2, g3, g4⟩, d⟩
theorem pst_fx (f : fx r h h1) (h3 : ht h r ≠ 4) (h11 : ht h r ≠ 11) (w : pst ad h qq m two p) : pst ad h1 qq m two p := by
  obtain ⟨k0, ka, kb, kc, kd, ke, kf, kg, kh, ⟨ha, hb, hc⟩, ⟨la, lb, lc⟩, d⟩ := w
  have a := fx_c f (x := qq) (by omega) (ne_tg (h := h) (by omega))
  have b2 := fx_c f (x := hR h qq 6) (by omega) (ne_tg (h := h) (by omega))
  have b3 := fx_c f (x := hR h qq 7) (by omega) (ne_tg (h := h) (by omega))
  unfold pst
  rw [a.2.2.2, a.1, a.2.2.1, b2.1, b2.2.1, b2.2.2.1, b3.1, b3.2.1, b3.2.2.1]
  exact ⟨k0, ka, kb, kc, kd, ke, kf, kg, kh, ⟨ha, hb, hc⟩, ⟨la, lb, lc⟩, d⟩
theorem fx_0 (f : fx r h h1) {x : Nat} (hx : ht h1 x = 0) : ht h x = 0 := by
  by_cases g : ht h x = 0
  · exact g
  · have := (f x g).1.1
    rw [hx] at this
    exact this.symm
theorem own_0 (f : fx r hb h) (o : own h h1 n) : own hb h1 n := ⟨fx_0 f o.1, fx_0 f o.2.1, fx_0 f o.2.2.1, fx_0 f o.2.2.2.1, o.2.2.2.2⟩
/-- the cells of a state that are its own -/
def ownS (hb h : tr_H) (s : Nat) : Prop := ht hb s = 0 ∧ ht hb (hR h s 1) = 0 ∧ own hb h (hR h s 0)
theorem k_stateCopy (ok : tr_ok E) (s0 : stat ad hb) (hr0 : ht hb r = 0) (c : cst ad hb s m one two H L) (vm : 0 ≤ m 106 ∧ m 106 ≤ 40) (f : fx r hb h) (hr : ht h r = 7) (q : ∀ h', fx r h h' → cst ad h' r m one two H L → ownS hb h' r → hR h' (hR h' r 1) = hR hb (hR hb s 1) → Q (.inl none) h') : tr_C E 65 [.inr (.inr r), .inr (.inr s)] h Q := by
  refine T_X6_init_ ok ?_
  obtain ⟨c0, nw, c2, c3, c4, c5⟩ := id c
  have sr : s ≠ r := ne_ht (h := hb) (by rw [c0]; decide) hr0
  have fh : fr ad p00 f0 false hb h := fx_fr fr_rfl f hr0
  have t0 := st_fr s0 fh
  have nh : nst ad h (hR hb s 0) m one two H L := nst_fr s0 fh p00_lt nw
  have rz : ht h r ≠ 0 := by rw [hr]; decide
  refine ⟨rz, fun r1 z1 q1 h2 x2 => ?_⟩
  have f2 : ∀ x, fx x h h2 := fun x => by rw [x2]; exact fx_nw q1 3 0
  have e1 : ht h2 r1 = 3 := by rw [x2]; exact nw_t _ _ _ _
  have b := fx_c f (x := s) (by rw [c0]; decide) sr
  have s1 : s ≠ r1 := ne_ht (h := h) (by rw [b.1, c0]; decide) q1
  have b2 := fx_c (f2 r1) (x := s) (by rw [b.1, c0]; decide) s1
  have rr1 : r ≠ r1 := ne_ht rz q1
  refine ⟨b2.1.trans (b.1.trans c0), e1, ?_⟩
  rw [b2.2.2.2, b.2.2.2]
  refine k_netCopy ok t0 q1 nh (f2 r1) e1 (fun h3 f3 n3 o3 w2 w3 => ?_)
  have g3 : fx r1 h h3 := fx_tr (f2 r1) f3
  have r3 := fx_c g3 rz rr1
  have s3 := fx_c g3 (x := s) (by rw [b.1, c0]; decide) s1
  refine ⟨r3.1.trans hr, fun h4 x4 => ?_⟩
  have f4 : fx r h3 h4 := by rw [x4]; exact fx_sR _ _
  have r3z : ht h3 r ≠ 0 := by rw [r3.1]; exact rz
  have r4 : ht h4 r = 7 := (f4 r r3z).1.1.trans (r3.1.trans hr)
  have sz3 : ht h3 s ≠ 0 := by rw [s3.1, b.1, c0]; decide
  have s4 := fx_c f4 sz3 sr
  have hs1 : hR h4 s 1 = hR hb s 1 := by rw [s4.2.2.2, s3.2.2.2, b.2.2.2]
  have az : ht hb (hR hb s 1) ≠ 0 := by rw [c2]; decide
  have ar : hR hb s 1 ≠ r := ne_ht az hr0
  have ab := fx_c f az ar
  have a1 : hR hb s 1 ≠ r1 := ne_ht (h := h) (by rw [ab.1]; exact az) q1
  have a3 := fx_c g3 (x := hR hb s 1) (by rw [ab.1]; exact az) a1
  have a4 := fx_c f4 (x := hR hb s 1) (by rw [a3.1, ab.1]; exact az) ar
  refine ⟨s4.1.trans (s3.1.trans (b.1.trans c0)), ?_⟩
  rw [hs1]
  refine ⟨a4.1.trans (a3.1.trans (ab.1.trans c2)), a4.2.1.trans (a3.2.1.trans (ab.2.1.trans c3)), fun r5 z5 q5 h6 x6 => ⟨?_, ?_, fun h7 x7 => ?_⟩⟩
  · rw [x6, cl_t]; exact a4.1.trans (a3.1.trans (ab.1.trans c2))
  · rw [x6]; exact ((fx_cl (r0 := r5) q5 _ r (by rw [r4]; decide)).1.1).trans r4
  obtain ⟨C1, C2, C3, C4, C5, C6, C7, C8⟩ := st_clone (g := h4) (r0 := r) (r := r5) (k := 1) (s := hR hb s 1) (by rw [a4.1, a3.1, ab.1]; exact az) ar (by rw [r4]; decide) q5
  rw [x6] at x7
  rw [← x7] at C1 C2 C3 C4 C5 C6 C7 C8
  have r7 : ht h7 r = 7 := (C1 r (by rw [r4]; decide)).1.1.trans r4
  have s7 := fx_c C1 (x := s) (by rw [s4.1]; exact sz3) sr
  refine ⟨s7.1.trans (s4.1.trans (s3.1.trans (b.1.trans c0))), r7, fun h8 x8 => ?_⟩
  have f8 : fx r h7 h8 := by rw [x8]; exact fx_sI _ _
  have hcn : hI h7 s 2 = ii (m 106) := by
    rw [hI_gv, s7.2.2.1, s4.2.2.1, s3.2.2.1, b.2.2.1]
    show ii (gv hb s 2) = _
    rw [c4]
  have R0 : hR h8 r 0 = r1 := by
    rw [x8]
    show hR h7 r 0 = r1
    rw [C6 0 (by decide), x4, hR_sR]
  have R1 : hR h8 r 1 = r5 := by
    rw [x8]; exact C5
  have k8 : fx r h3 h8 := fx_tr f4 (fx_tr C1 f8)
  have nr5 : r5 ≠ r := fun e => by rw [e, r4] at q5; cases q5
  have m5 := fx_c f8 (x := r5) (by rw [C2, a4.1, a3.1, ab.1]; exact az) nr5
  have h11 : ht h3 r ≠ 11 := by rw [r3.1, hr]; decide
  have h38 : ht h3 r ≠ 3 := by rw [r3.1, hr]; decide
  have r13 : ht h3 r1 = 3 := n3.1
  have k1 := fx_c k8 (x := r1) (by rw [r13]; decide) (fun e => rr1 e.symm)
  have q1b : ht hb r1 = 0 := fx_0 f q1
  have q5b : ht hb r5 = 0 := by
    have z : ht h3 r5 = 0 := fx_0 f4 q5
    exact fx_0 f (fx_0 g3 z)
  -- all that was is as it was
  have fb3 : fr ad p00 f0 false h h3 := fx_fr fr_rfl g3 q1
  refine q h8 ?_ ⟨?_, ?_, ?_, ?_, ?_, fun y y0 y1 => ?_⟩ ?_ (by rw [R1, m5.2.2.2, C8, a4.2.2.2, a3.2.2.2, ab.2.2.2])
  · -- from h on, but for r, all is as it was
    intro x hx
    have e1x : x ≠ r1 := ne_ht hx q1
    have u := g3 x hx
    have w := k8 x (by rw [u.1.1]; exact hx)
    refine ⟨⟨w.1.1.trans u.1.1, w.1.2.trans u.1.2⟩, fun e => ?_⟩
    have u2 := u.2 e1x
    have w2 := w.2 e
    exact ⟨w2.1.trans u2.1, w2.2.1.trans u2.2.1, w2.2.2.trans u2.2.2⟩
  · exact (f8 r (by rw [r7]; decide)).1.1.trans r7
  · rw [R0]; exact nst_fx k8 h38 h11 n3
  · rw [R1]; exact m5.1.trans (C2.trans (a4.1.trans (a3.1.trans (ab.1.trans c2))))
  · rw [R1]; exact m5.2.1.trans (C3.trans (a4.2.1.trans (a3.2.1.trans (ab.2.1.trans c3))))
  · rw [x8, hcn, gv_sIi (by omega) (by omega)]; exact ud_eq _ _ _
  · rw [R1, m5.2.2.2, C8, a4.2.2.2, a3.2.2.2, ab.2.2.2]
    have ph : pst ad h (hR (hb) (hR hb s 1) y.toNat) m two y := pst_fr s0 fh p00_lt (c5 y y0 y1)
    have p3 := pst_fr t0 fb3 p00_lt ph
    exact pst_fx k8 (by rw [r3.1, hr]; decide) h11 p3
  · refine ⟨hr0, by rw [R1]; exact q5b, ?_⟩
    rw [R0]
    have e2 : hR h8 r1 = hR h3 r1 := k1.2.2.2
    have o8 : own h h8 r1 := by
      unfold own at o3 ⊢
      rw [e2]; exact o3
    obtain ⟨y0, y1, y2, ⟨ya, yb, yc⟩, ⟨xa, xb, xc⟩, -⟩ := id n3
    exact own_0 f o8
/-- the row of kept states: which there are -/
def his (ad : Nat → Nat) (h : tr_H) : Prop := ∀ i, i < 12 → hR h (ad 6) i = 0 ∨ ht h (hR h (ad 6) i) = 7
def pH (i : Nat) : Bool := Nat.beq i 1
theorem pH_lt (j : Nat) (h : pH j = true) : j < 42 := by
  unfold pH at h
  rw [Nat.beq_eq] at h
  omega
theorem fr_hsR6 {P : Nat → Bool} {F : Int → Bool} (a : fr ad P F true hb h) (k v : Nat) : fr ad P F true hb (hsR h (ad 6) k v) := by
  refine fr_tr a (fun x hx => ⟨rfl, rfl, fun q => ⟨fun z hz => rfl, rfl⟩, fun j hj => ?_⟩)
  have := (hj rfl).1
  rw [hR_sRn this]
theorem fr_hsR13 {P : Nat → Bool} {F : Int → Bool} (a : fr ad P F true hb h) (v : Nat) : fr ad P F true hb (hsR h (ad 1) 3 v) := by
  refine fr_tr a (fun x hx => ⟨rfl, rfl, fun q => ⟨fun z hz => rfl, rfl⟩, fun j hj => ?_⟩)
  by_cases e : x = ad 1
  · have := (hj rfl).2 e
    rw [e, hR_sRk this]
  · rw [hR_sRn e]
theorem fr_hcp6 {P : Nat → Bool} {F : Int → Bool} (a : fr ad P F true hb h) (q sp dp n : Nat) : fr ad P F true hb (hcp h q sp (ad 6) dp n) := by
  refine fr_tr a (fun x hx => ⟨rfl, rfl, fun q => ⟨fun z hz => rfl, rfl⟩, fun j hj => ?_⟩)
  have := (hj rfl).1
  show up1 (hR h) (ad 6) _ x j = _
  unfold up1; rw [if_neg this]
/-- the end of it: the copy -/
theorem k_keep_end (ok : tr_ok E) (s0 : stat ad h0) (c : cst ad h0 (hR h0 (ad 1) 3) m one two H L) (vm : 0 ≤ m 106 ∧ m 106 ≤ 40) (f : fr ad pH f0 true h0 h) (e3 : hR h (ad 1) 3 = hR h0 (ad 1) 3) (q : ∀ h', fr ad pH f0 true h0 h' → gv h' (ad 1) = gv h (ad 1) → hR h' (ad 6) = hR h (ad 6) → cst ad h' (hR h' (ad 1) 3) m one two H L → ownS h0 h' (hR h' (ad 1) 3) → hR h' (hR h' (hR h' (ad 1) 3) 1) = hR h0 (hR h0 (hR h0 (ad 1) 3) 1) → Q (.inl none) h') : ∀ r, r ≠ 0 → ht h r = 0 → ∀ h6 : tr_H, h6 = hnw h r 7 0 → (ht h6 (ad 1) = 8 ∧ (ht h6 r = 7 ∧ tr_C E 65 [.inr (.inr r), .inr (.inr (hR h6 (ad 1) 3))] h6 (kV (fun h7 => ht h7 (ad 1) = 8 ∧ ∀ h8 : tr_H, h8 = hsR h7 (ad 1) 3 r → (Q (.inl none) h8)) (fun E h' => Q (.inr E) h')))) := by
  intro r z qr h6 x6
  have t0 := st_fr s0 f
  have c1 := cst_fr s0 f pH_lt c
  have f6 : ∀ x, fx x h h6 := fun x => by rw [x6]; exact fx_nw qr 7 0
  have er : ht h6 r = 7 := by rw [x6]; exact nw_t _ _ _ _
  have z1 : ht h (ad 1) ≠ 0 := st_0 t0 (by decide)
  have r1 : ad 1 ≠ r := ne_ht z1 qr
  have a1 := fx_c (f6 r) z1 r1
  refine ⟨a1.1.trans (st_t t0 (by decide)), er, ?_⟩
  rw [a1.2.2.2, e3]
  refine k_stateCopy ok t0 qr c1 vm (f6 r) er (fun h7 f7 c7 o7 p7 => ?_)
  have g7 : fx r h h7 := fx_tr (f6 r) f7
  have b1 := fx_c g7 z1 r1
  refine ⟨b1.1.trans (st_t t0 (by decide)), fun h8 x8 => ?_⟩
  have z6 : ht h (ad 6) ≠ 0 := st_0 t0 (by decide)
  have b6 := fx_c g7 z6 (ne_ht z6 qr)
  have f7r : fr ad pH f0 true h0 h7 := fx_fr f g7 (by
    by_cases g : ht h0 r = 0
    · exact g
    · exact absurd qr (by rw [(f r g).1]; exact g))
  have f8 : fr ad pH f0 true h0 h8 := by rw [x8]; exact fr_hsR13 f7r r
  have q0 : ∀ x, ht h x = 0 → ht h0 x = 0 := fun x hx => by
    by_cases g : ht h0 x = 0
    · exact g
    · exact absurd hx (by rw [(f x g).1]; exact g)
  have R : hR h8 (ad 1) 3 = r := by rw [x8]; exact hR_sR _ _ _ _
  have s7 := st_fr s0 f7r
  have f78 : fr ad pH f0 true h7 h8 := by rw [x8]; exact fr_hsR13 fr_rfl r
  have c8 := cst_fr s7 f78 pH_lt c7
  have rne : r ≠ ad 1 := fun e => r1 e.symm
  have ep : hR h8 (hR h8 r 1) = hR h0 (hR h0 (hR h0 (ad 1) 3) 1) := by
    have er8 : hR h8 r = hR h7 r := by rw [x8]; exact hR_sRn rne
    rw [er8]
    have t16 : ht h7 (hR h7 r 1) = 16 := c7.2.2.1
    have : hR h8 (hR h7 r 1) = hR h7 (hR h7 r 1) := by
      rw [x8]
      refine hR_sRn (fun e => ?_)
      rw [e, st_t s7 (by decide)] at t16
      cases t16
    rw [this, p7]
    have z7 : ht h0 (hR h0 (ad 1) 3) = 7 := c.1
    have z16 : ht h0 (hR h0 (hR h0 (ad 1) 3) 1) = 16 := c.2.2.1
    have y1 := fr_dyn f pH_lt (r := hR h0 (ad 1) 3) (by rw [z7]; decide) (dyn_t s0 (by rw [z7]; decide) (by rw [z7]; decide))
    have y2 := fr_dyn f pH_lt (r := hR h0 (hR h0 (ad 1) 3) 1) (by rw [z16]; decide) (dyn_t s0 (by rw [z16]; decide) (by rw [z16]; decide))
    rw [y1.2.2.2.2, y2.2.2.2.2]
  refine q h8 f8 ?_ ?_ ?_ ?_ (by rw [R]; exact ep)
  · rw [x8, gv_sR]; exact b1.2.2.1
  · rw [x8, hR_sRn (st_ne t0 (by decide) (by decide) (by decide))]; exact b6.2.2.2
  · rw [R]; exact c8
  · rw [R]
    have er8 : hR h8 r = hR h7 r := by rw [x8]; exact hR_sRn rne
    have nz : ht h7 (hR h7 r 0) = 3 := c7.2.1.1
    have ern : hR h8 (hR h7 r 0) = hR h7 (hR h7 r 0) := by
      rw [x8]
      refine hR_sRn (fun e => ?_)
      rw [e, st_t s7 (by decide)] at nz
      cases nz
    obtain ⟨o1, o2, o3, o4, o5, o6, o9⟩ := o7
    refine ⟨q0 _ o1, by rw [er8]; exact q0 _ o2, ?_⟩
    unfold own
    rw [er8, ern]
    exact ⟨q0 _ o3, q0 _ o4, q0 _ o5, q0 _ o6, o9⟩
/-- which states are kept after it -/
def hisN (R : Nat → Nat) (u : Int) (s : Nat) (i : Nat) : Nat := if u = 12 then (if i = 11 then s else if i < 11 then R (i + 1) else R i) else if (i : Int) = u then s else R i
theorem k_keepState (ok : tr_ok E) (c : kst ad h m one two H L) (v : vok m one two H L) (hh : his ad h) {u : Int} (hu : gv h (ad 1) 5 = u) (u0 : 0 ≤ u) (u1 : u ≤ 12) (q : ∀ h', fr ad pH f0 true h h' → gv h' (ad 1) = ud (gv h (ad 1)) 5 (if u = 12 then 12 else u + 1) → (∀ i, i < 12 → hR h' (ad 6) i = hisN (hR h (ad 6)) u (hR h (ad 1) 3) i) → cst ad h' (hR h' (ad 1) 3) m one two H L → ownS h h' (hR h' (ad 1) 3) → hR h' (hR h' (hR h' (ad 1) 3) 1) = hR h (hR h (hR h (ad 1) 3) 1) → Q (.inl none) h') : tr_C E 107 [.inr (.inr (ad 1))] h Q := by
  refine T_X7_keepState ok ?_
  have s0 := c.1
  have vm := v_m v
  have c0 := c.2.1
  have t1 : ht h (ad 1) = 8 := st_t s0 (by decide)
  have t6 : ht h (ad 6) = 15 := st_t s0 (by decide)
  have n6 : hn h (ad 6) = 12 := st_n s0 (by decide)
  have r4 : hR h (ad 1) 4 = ad 6 := st_r (i := 1) (k := 4) s0 (by decide) (by decide)
  have h5 : hI h (ad 1) 5 = ii u := by rw [hI_gv]; show ii (gv h (ad 1) 5) = _; rw [hu]
  have e16 : ad 1 ≠ ad 6 := st_ne s0 (by decide) (by decide) (by decide)
  refine ⟨t1, fun g => ?_, fun g => ?_⟩
  · rw [h5, ii_eq (by omega) (by omega) (by omega) (by omega)] at g
    subst g
    refine ⟨t1, t1, ?_⟩
    rw [r4]
    have i1 : ixn (ii 1) = 1 := by decide
    have i11 : ixn (ii 11) = 11 := by decide
    have i00 : ixn (ii 0) = 0 := by decide
    rw [i1, i11, i00]
    refine ⟨t6, t6, by decide, by decide, by decide, by rw [n6]; decide, by rw [n6]; decide, fun i hi => hh (1 + i) (by omega), fun h1 x1 => ?_⟩
    have k1 : fr ad pH f0 true h h1 := by rw [x1]; exact fr_hcp6 fr_rfl _ _ _ _
    have s1 := st_fr s0 k1
    have y5 : hI h1 (ad 1) 5 = ii 12 := by rw [x1]; exact h5
    refine ⟨st_t s1 (by decide), st_t s1 (by decide), fun h2 x2 => ?_⟩
    have k2 : fr ad pH f0 true h h2 := by rw [x2]; exact fr_sI k1 rfl
    have s2 := st_fr s0 k2
    have w5 : gv h2 (ad 1) = ud (gv h (ad 1)) 5 11 := by
      rw [x2, y5, gv_sI, x1, gv_cp]; rfl
    have z5 : hI h2 (ad 1) 5 = ii 11 := by rw [hI_gv, w5]; rfl
    have r42 : hR h2 (ad 1) 4 = ad 6 := st_r (i := 1) (k := 4) s2 (by decide) (by decide)
    have r32 : hR h2 (ad 1) 3 = hR h (ad 1) 3 := by
      rw [x2, hR_sI, x1]
      show up1 (hR h) (ad 6) _ (ad 1) 3 = _
      unfold up1; rw [if_neg e16]
    have c2 := cst_fr s0 k2 pH_lt c.2
    refine ⟨st_t s2 (by decide), st_t s2 (by decide), st_t s2 (by decide), ?_⟩
    rw [r42, z5, r32]
    have j11 : ixn (ii 11) = 11 := by decide
    rw [j11]
    refine ⟨st_t s2 (by decide), by rw [st_n s2 (by decide), ixo_ii (by decide) (by decide)]; decide, c2.1, fun h3 x3 => ?_⟩
    have k3 : fr ad pH f0 true h h3 := by rw [x3]; exact fr_hsR6 k2 _ _
    have s3 := st_fr s0 k3
    refine ⟨st_t s3 (by decide), st_t s3 (by decide), fun h4 x4 => ?_⟩
    have k4 : fr ad pH f0 true h h4 := by rw [x4]; exact fr_sI k3 rfl
    have v5 : hI h3 (ad 1) 5 = ii 11 := by rw [x3]; exact z5
    have w4 : gv h4 (ad 1) = ud (gv h (ad 1)) 5 12 := by
      rw [x4, v5, gv_sI, x3, gv_sR, w5]
      funext z
      unfold ud
      split
      · next e =>
        have e : z = 5 := e
        rw [if_pos e]; decide
      · next e =>
        have e : ¬ z = 5 := e
        rw [if_neg e, if_neg e]
    have e3 : hR h4 (ad 1) 3 = hR h (ad 1) 3 := by
      rw [x4, hR_sI, x3, hR_sRn e16]; exact r32
    have e6 : ∀ i, i < 12 → hR h4 (ad 6) i = hisN (hR h (ad 6)) 12 (hR h (ad 1) 3) i := by
      intro i hi
      unfold hisN
      rw [if_pos rfl, x4, hR_sI, x3]
      by_cases e : i = 11
      · subst e; rw [if_pos rfl, hR_sR]
      · rw [if_neg e, if_pos (by omega), hR_sRk e, x2, hR_sI, x1]
        show up1 (hR h) (ad 6) _ (ad 6) i = _
        unfold up1
        rw [if_pos rfl]
        unfold va_cpy
        rw [if_pos (by omega)]
        congr 1
        omega
    exact k_keep_end ok s0 c.2 vm k4 e3 (fun h' a1 a2 a3 a4 a5 a6 => q h' a1 (by rw [a2, w4]; rfl) (fun i hi => by rw [a3]; exact e6 i hi) a4 a5 a6)
  · rw [h5, ii_eq (by omega) (by omega) (by omega) (by omega)] at g
    refine ⟨t1, t1, t1, ?_⟩
    rw [r4, h5]
    refine ⟨t6, by rw [n6, ixo_ii (by omega) (by omega)]; omega, c0, fun h3 x3 => ?_⟩
    have k3 : fr ad pH f0 true h h3 := by rw [x3]; exact fr_hsR6 fr_rfl _ _
    have s3 := st_fr s0 k3
    refine ⟨st_t s3 (by decide), st_t s3 (by decide), fun h4 x4 => ?_⟩
    have k4 : fr ad pH f0 true h h4 := by rw [x4]; exact fr_sI k3 rfl
    have v5 : hI h3 (ad 1) 5 = ii u := by rw [x3]; exact h5
    have w4 : gv h4 (ad 1) = ud (gv h (ad 1)) 5 (u + 1) := by
      rw [x4, v5, ii_add, gv_sIi (by omega) (by omega), x3, gv_sR]; rfl
    have e3 : hR h4 (ad 1) 3 = hR h (ad 1) 3 := by
      rw [x4, hR_sI, x3, hR_sRn e16]
    have e6 : ∀ i, i < 12 → hR h4 (ad 6) i = hisN (hR h (ad 6)) u (hR h (ad 1) 3) i := by
      intro i hi
      unfold hisN
      rw [if_neg g, x4, hR_sI, x3, ixn_ii u0 (by omega)]
      by_cases e : (i : Int) = u
      · rw [if_pos e, show i = u.toNat by omega, hR_sR]
      · rw [if_neg e, hR_sRk (by omega)]
    exact k_keep_end ok s0 c.2 vm k4 e3 (fun h' a1 a2 a3 a4 a5 a6 => q h' a1 (by rw [a2, w4, if_neg g]) (fun i hi => by rw [a3]; exact e6 i hi) a4 a5 a6)
end KEEP
