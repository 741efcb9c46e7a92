/-! NEW NETS, STATES, READERS -/
section INI
variable {E : tr_Env} {ad : Nat → Nat} {hb h h0 h1 h2 : tr_H} {Q : tr_Q} {t g m one two : Int → Int} {n s p H L : Int} {q r r0 : Nat}
theorem st_new {g : tr_H} {k T N : Nat} (hr0 : ht g r0 ≠ 0) (hr : ht g r = 0) : fx r0 g (hsR (hnw g r T N) r0 k r) ∧ ht (hsR (hnw g r T N) r0 k r) r = T ∧ hn (hsR (hnw g r T N) r0 k r) r = N ∧ (∀ z, gv (hsR (hnw g r T N) r0 k r) r z = 0) ∧ hR (hsR (hnw g r T N) r0 k r) r0 k = r ∧ (∀ j, j ≠ k → hR (hsR (hnw g r T N) r0 k r) r0 j = hR g r0 j) ∧ gv (hsR (hnw g r T N) r0 k r) r0 = gv g r0 ∧ (r ≠ r0) := by
  have e0 : r0 ≠ r := ne_ht hr0 hr
  have c := (fx_nw (r0 := r) (h := g) hr T N r0 hr0).2 e0
  refine ⟨fx_tr (fx_nw hr T N) (fx_sR k r), nw_t g r T N, nw_n g r T N, fun z => ?_, hR_sR _ _ _ _, fun j hj => ?_, ?_, fun e => e0 e.symm⟩
  · rw [gv_sR]; exact nw_g g r T N z
  · rw [hR_sRk hj, c.2.2]
  · rw [gv_sR]; exact c.1
theorem fx_wr {x : Nat} (f : fx r h h1) (w : wr x h1 h2) (hx : ht h x = 0) : fx r h h2 := by
  intro y hy
  obtain ⟨⟨a1, a2⟩, a3⟩ := f y hy
  obtain ⟨b1, b2, b3, b4, b5⟩ := w y
  have e : y ≠ x := fun e => by rw [e] at hy; exact hy hx
  refine ⟨⟨b1.trans a1, b2.trans a2⟩, fun g => ?_⟩
  obtain ⟨a4, a5, a6⟩ := a3 g
  exact ⟨(b5 e).trans a4, b4.trans a5, b3.trans a6⟩
theorem wr_fl {v : Int32} : wr r h (hfl h r n v) := fun _ => ⟨rfl, rfl, rfl, rfl, fun e => gv_fln e⟩
theorem k_netInit (ok : tr_ok E) (dn : ∀ x, x ≠ 0 → ht hb x = 0 → dyn ad x) (r0 : ht hb r = 0) (f : fx r hb h) (tr : ht h r = 3) (z1 : gv h r 1 = 0) (Qq : ∀ h', fx r h h' → nst ad h' r (clf g) one two 2 0 → own hb h' r → ht hb (hR h' r 2) = 0 → ht hb (hR h' r 3) = 0 → hR h' r 2 ≠ hR h' r 3 → Q (.inl none) h') : tr_C E 25 [.inr (.inr r)] h Q := by
  refine T_X2_init ok ?_
  have t0 : ht h r ≠ 0 := by rw [tr]; decide
  refine ⟨t0, tr, fun h1 x1 => ?_⟩
  have f1 : fx r h h1 := by rw [x1]; exact fx_sI _ _
  have t1 : ht h1 r = 3 := by rw [x1]; exact tr
  have g1 : gv h1 r = ud (gv h r) 0 2 := by rw [x1, gv_sIi (by omega) (by omega)]; rfl
  refine ⟨rfl, fun r2 z2 q2 h3 x3 => ?_⟩
  obtain ⟨A1, A2, A3, A4, A5, A6, A7, A8⟩ := st_new (g := h1) (r0 := r) (r := r2) (k := 2) (T := 11) (N := 24) (by rw [t1]; decide) q2
  have u3 : ht h3 r = 3 := by rw [x3]; exact ((fx_nw (r0 := r) q2 11 24 r (by rw [t1]; decide)).1.1).trans t1
  refine ⟨u3, fun h4 x4 => ?_⟩
  rw [x3] at x4
  rw [← x4] at A1 A2 A3 A4 A5 A6 A7
  have t4 : ht h4 r = 3 := (A1 r (by rw [t1]; decide)).1.1.trans t1
  clear x1 x3 x4 u3
  refine ⟨rfl, fun r5 z5 q5 h6 x6 => ?_⟩
  obtain ⟨B1, B2, B3, B4, B5, B6, B7, B8⟩ := st_new (g := h4) (r0 := r) (r := r5) (k := 3) (T := 11) (N := 24) (by rw [t4]; decide) q5
  have u6 : ht h6 r = 3 := by rw [x6]; exact ((fx_nw (r0 := r) q5 11 24 r (by rw [t4]; decide)).1.1).trans t4
  refine ⟨u6, fun h7 x7 => ?_⟩
  rw [x6] at x7
  rw [← x7] at B1 B2 B3 B4 B5 B6 B7
  have t7 : ht h7 r = 3 := (B1 r (by rw [t4]; decide)).1.1.trans t4
  clear x6 x7 u6
  refine ⟨rfl, fun r8 z8 q8 h9 x9 => ?_⟩
  obtain ⟨C1, C2, C3, C4, C5, C6, C7, C8⟩ := st_new (g := h7) (r0 := r) (r := r8) (k := 4) (T := 11) (N := 24) (by rw [t7]; decide) q8
  have u9 : ht h9 r = 3 := by rw [x9]; exact ((fx_nw (r0 := r) q8 11 24 r (by rw [t7]; decide)).1.1).trans t7
  refine ⟨u9, fun h10 x10 => ?_⟩
  rw [x9] at x10
  rw [← x10] at C1 C2 C3 C4 C5 C6 C7
  have t10 : ht h10 r = 3 := (C1 r (by rw [t7]; decide)).1.1.trans t7
  clear x9 x10 u9
  refine ⟨rfl, fun r11 z11 q11 h12 x12 => ?_⟩
  obtain ⟨D1, D2, D3, D4, D5, D6, D7, D8⟩ := st_new (g := h10) (r0 := r) (r := r11) (k := 5) (T := 11) (N := 100) (by rw [t10]; decide) q11
  have u12 : ht h12 r = 3 := by rw [x12]; exact ((fx_nw (r0 := r) q11 11 100 r (by rw [t10]; decide)).1.1).trans t10
  refine ⟨u12, fun h13 x13 => ?_⟩
  rw [x12] at x13
  rw [← x13] at D1 D2 D3 D4 D5 D6 D7
  have t13 : ht h13 r = 3 := (D1 r (by rw [t10]; decide)).1.1.trans t10
  clear x12 x13 u12
  refine ⟨t13, ?_⟩
  rw [D5]
  refine k_fill ok D2 (by rw [D3]; decide) ?_
  have w14 : wr r11 h13 (hfl h13 r11 (hn h13 r11) (ii (-1))) := wr_fl
  have G14 : ∀ z, 0 ≤ z → z < 100 → gv (hfl h13 r11 (hn h13 r11) (ii (-1))) r11 z = -1 := fun z z0 z1 => by
    rw [D3, gv_fl _ _ _ _ (by decide) (by decide)]; exact if_pos ⟨z0, z1⟩
  generalize hfl h13 r11 (hn h13 r11) (ii (-1)) = h14 at w14 G14 ⊢
  have t14 : ht h14 r = 3 := (w14 r).1.trans t13
  refine ⟨rfl, fun r15 z15' q15 h16 x16 => ?_⟩
  obtain ⟨F1, F2, F3, F4, F5, F6, F7, F8⟩ := st_new (g := h14) (r0 := r) (r := r15) (k := 6) (T := 11) (N := 5) (by rw [t14]; decide) q15
  have u16 : ht h16 r = 3 := by rw [x16]; exact ((fx_nw (r0 := r) q15 11 5 r (by rw [t14]; decide)).1.1).trans t14
  refine ⟨u16, fun h17 x17 => ?_⟩
  rw [x16] at x17
  rw [← x17] at F1 F2 F3 F4 F5 F6 F7
  have t17 : ht h17 r = 3 := (F1 r (by rw [t14]; decide)).1.1.trans t14
  clear x16 x17 u16
  have w22 : wr r15 h17 (hsI (hsI (hsI (hsI (hsI h17 r15 0 (ii 7)) r15 1 (ii 101)) r15 2 (ii 20)) r15 3 (ii 0)) r15 4 (ii 16)) := wr_tr (wr_sI _ _) (wr_tr (wr_sI _ _) (wr_tr (wr_sI _ _) (wr_tr (wr_sI _ _) (wr_sI _ _))))
  have G22 : gv (hsI (hsI (hsI (hsI (hsI h17 r15 0 (ii 7)) r15 1 (ii 101)) r15 2 (ii 20)) r15 3 (ii 0)) r15 4 (ii 16)) r15 = ud (ud (ud (ud (ud (gv h17 r15) 0 7) 1 101) 2 20) 3 0) 4 16 := by
    rw [gv_sIi (by omega) (by omega), gv_sIi (by omega) (by omega), gv_sIi (by omega) (by omega), gv_sIi (by omega) (by omega), gv_sIi (by omega) (by omega)]; rfl
  have fin : Q (.inl none) (hsI (hsI (hsI (hsI (hsI h17 r15 0 (ii 7)) r15 1 (ii 101)) r15 2 (ii 20)) r15 3 (ii 0)) r15 4 (ii 16)) := by
    generalize hsI (hsI (hsI (hsI (hsI h17 r15 0 (ii 7)) r15 1 (ii 101)) r15 2 (ii 20)) r15 3 (ii 0)) r15 4 (ii 16) = h22 at w22 G22 ⊢
    have z15 : ht h13 r15 = 0 := by rw [← (w14 r15).1]; exact q15
    have y15 : ht h10 r15 = 0 := fx_0 D1 z15
    have x15 : ht h7 r15 = 0 := fx_0 C1 y15
    have v15 : ht h4 r15 = 0 := fx_0 B1 x15
    have u15 : ht h1 r15 = 0 := fx_0 A1 v15
    have s15 : ht h r15 = 0 := fx_0 f1 u15
    have y11 : ht h7 r11 = 0 := fx_0 C1 q11
    have x11 : ht h4 r11 = 0 := fx_0 B1 y11
    have v11 : ht h1 r11 = 0 := fx_0 A1 x11
    have u11 : ht h r11 = 0 := fx_0 f1 v11
    have y8 : ht h4 r8 = 0 := fx_0 B1 q8
    have x8 : ht h1 r8 = 0 := fx_0 A1 y8
    have v8 : ht h r8 = 0 := fx_0 f1 x8
    have y5 : ht h1 r5 = 0 := fx_0 A1 q5
    have x5 : ht h r5 = 0 := fx_0 f1 y5
    have y2 : ht h r2 = 0 := fx_0 f1 q2
    have K14 : fx r h14 h22 := fx_wr F1 w22 q15
    have K10 : fx r h10 h22 := fx_wr (fx_tr (fx_wr D1 w14 q11) F1) w22 y15
    have K7 : fx r h7 h22 := fx_wr (fx_tr (fx_wr (fx_tr C1 D1) w14 y11) F1) w22 x15
    have K4 : fx r h4 h22 := fx_wr (fx_tr (fx_wr (fx_tr B1 (fx_tr C1 D1)) w14 x11) F1) w22 v15
    have K0 : fx r h h22 := fx_wr (fx_tr (fx_wr (fx_tr f1 (fx_tr A1 (fx_tr B1 (fx_tr C1 D1)))) w14 u11) F1) w22 s15
    have R22 : hR h22 r = hR h17 r := (w22 r).2.2.1
    have R14 : hR h14 r = hR h13 r := (w14 r).2.2.1
    have n15 : r ≠ r15 := fun e => F8 e.symm
    have n11 : r ≠ r11 := fun e => D8 e.symm
    have e6 : hR h22 r 6 = r15 := by rw [R22]; exact F5
    have e5 : hR h22 r 5 = r11 := by rw [R22, F6 5 (by decide), R14]; exact D5
    have e4 : hR h22 r 4 = r8 := by rw [R22, F6 4 (by decide), R14, D6 4 (by decide)]; exact C5
    have e3 : hR h22 r 3 = r5 := by rw [R22, F6 3 (by decide), R14, D6 3 (by decide), C6 3 (by decide)]; exact B5
    have e2 : hR h22 r 2 = r2 := by rw [R22, F6 2 (by decide), R14, D6 2 (by decide), C6 2 (by decide), B6 2 (by decide)]; exact A5
    have gr : gv h22 r = ud (gv h r) 0 2 := by
      rw [(w22 r).2.2.2.2 n15, F7, (w14 r).2.2.2.2 n11, D7, C7, B7, A7, g1]
    have a2 := fx_c K4 (x := r2) (by rw [A2]; decide) A8
    have a5 := fx_c K7 (x := r5) (by rw [B2]; decide) B8
    have a8 := fx_c K10 (x := r8) (by rw [C2]; decide) C8
    have b11 : ht h14 r11 = 11 := (w14 r11).1.trans D2
    have c11 : hn h14 r11 = 100 := (w14 r11).2.1.trans D3
    have a11 := fx_c K14 (x := r11) (by rw [b11]; decide) D8
    have n25 : r2 ≠ r5 := ne_ht (h := h4) (by rw [A2]; decide) q5
    have n28 : r2 ≠ r8 := ne_ht (h := h7) (by rw [(fx_c B1 (x := r2) (by rw [A2]; decide) A8).1, A2]; decide) q8
    have n58 : r5 ≠ r8 := ne_ht (h := h7) (by rw [B2]; decide) q8
    have n211 : r2 ≠ r11 := fun e => by rw [← e, A2] at x11; cases x11
    have n511 : r5 ≠ r11 := fun e => by rw [← e, B2] at y11; cases y11
    have n811 : r8 ≠ r11 := fun e => by rw [← e, C2] at q11; cases q11
    have n215 : r2 ≠ r15 := fun e => by rw [← e, A2] at v15; cases v15
    have n515 : r5 ≠ r15 := fun e => by rw [← e, B2] at x15; cases x15
    have n815 : r8 ≠ r15 := fun e => by rw [← e, C2] at y15; cases y15
    have n1115 : r11 ≠ r15 := fun e => by rw [← e, b11] at q15; cases q15
    have h2b : ht hb r2 = 0 := fx_0 f y2
    have h5b : ht hb r5 = 0 := fx_0 f x5
    have h8b : ht hb r8 = 0 := fx_0 f v8
    have h11b : ht hb r11 = 0 := fx_0 f u11
    have h15b : ht hb r15 = 0 := fx_0 f s15
    have ck : ∀ k, 0 ≤ k → k < 100 → clf g (6 + k) = -1 := fun k k0 k1 => by
      unfold clf
      rw [if_neg (by omega), if_neg (by omega), if_neg (by omega), if_neg (by omega), if_neg (by omega), if_pos (by omega)]
    refine Qq h22 K0 ?_ ?_ (by rw [e2]; exact h2b) (by rw [e3]; exact h5b) (by rw [e2, e3]; exact n25)
    · unfold nst
      rw [e2, e3, e4, e5, e6, gr, G22, a2.1, a2.2.1, a5.1, a5.2.1, a8.1, a8.2.1, a11.1, a11.2.1, a11.2.2.1]
      refine ⟨(K0 r t0).1.1.trans tr, ud_eq _ _ _, (ud_ne (by decide)).trans z1, ⟨A2, A3, fun l l0 l1 => by omega⟩, ⟨B2, B3, fun l l0 l1 => by omega⟩, ⟨C2, C3, fun l l0 l1 => by omega⟩, ⟨b11, c11, fun k k0 k1 => by rw [G14 k k0 k1, ck k k0 k1]⟩, ⟨(w22 r15).1.trans F2, (w22 r15).2.1.trans F3, rfl, rfl, rfl, rfl, rfl⟩, dn r2 z2 h2b, dn r5 z5 h5b, dn r8 z8 h8b, dn r11 z11 h11b, dn r15 z15' h15b⟩
    · unfold own
      rw [e2, e3, e4, e5, e6]
      exact ⟨r0, h8b, h11b, h15b, ⟨n811, n815, n1115⟩, ⟨n28, n211, n215⟩, n58, n511, n515⟩
  simp (disch := first | omega | decide | assumption | exact st_ne s0 (by decide) (by decide) (by decide) | exact dyn_ne (by assumption) (by decide) | fail) only [Int.reduceAdd, Int.reduceSub, Int.reduceNeg, ii_add, ii_sub, ii_mul, ii_lt, ii_le, ii_eq, ixn_ii, ixo_ii, rem_ii, nb_1, nb_0, nb_bb, bb_0, hI_gv, Int.toNat_of_nonneg, Int.cast_ofNat_Int, ht_sI, ht_sJ, ht_sR, hn_sI, hn_sJ, hn_sR, hR_sI, hR_sJ, kI_v, kV_v, kJ_v, true_and, and_true, forall_eq, tg, ln, rf, ne_eq, not_false_eq_true, forall_const, not_true_eq_false, false_implies, Int.reduceEq, Int.reduceLT, Int.reduceLE, implies_true, and_self, reduceCtorEq, false_and, t17, F5, F2, F3]
  exact fin
end INI
