/-! SEND: the class -/
section SN5
variable {E : tr_Env} {ad : Nat → Nat} {h h3 h6 h7 : tr_H} {Q : tr_Q} {m one two : Int → Int} {H L a de nu si lf u : Int} {r : Nat}
theorem hsh_sd (m0 : 0 ≤ m 106) : hsh (sdm m two a de nu si lf) (m 106) = (37 * ((37 * ((37 * (a % 9973) + de) % 9973) + nu) % 9973) + si) % 9973 := by
  obtain ⟨f0, f1, f2, f3, -⟩ := sdm_f (m := m) (two := two) (a := a) (de := de) (nu := nu) (si := si) (lf := lf) m0
  show hshL (fd (sdm m two a de nu si lf) (m 106)) 0 0 4 = _
  show (37 * ((37 * ((37 * ((37 * 0 + fd (sdm m two a de nu si lf) (m 106) 0) % 9973) + fd (sdm m two a de nu si lf) (m 106) (0 + 1)) % 9973) + fd (sdm m two a de nu si lf) (m 106) (0 + 1 + 1)) % 9973) + fd (sdm m two a de nu si lf) (m 106) (0 + 1 + 1 + 1)) % 9973 = _
  rw [show (0 + 1 + 1 + 1 : Int) = 3 from rfl, show (0 + 1 + 1 : Int) = 2 from rfl, show (0 + 1 : Int) = 1 from rfl, f0, f1, f2, f3, Int.mul_zero, Int.zero_add]
theorem pst_sd (s3 : stat ad h3) (m0 : 0 ≤ m 106) (g : sdG H a de nu si lf) {A B : Nat} (hA : ht h3 A = 0) (hB : ht h3 B = 0) (pk : pkg h7 r A B a de nu si lf ((37 * ((37 * ((37 * (a % 9973) + de) % 9973) + nu) % 9973) + si) % 9973)) (e8 : gv h7 r 8 = nz m two de a lf.toNat + 1) (e9 : gv h7 r 9 = fq m two de a lf.toNat) (rows : ∀ j : Nat, (j : Int) ≤ nz m two de a lf.toNat → gv h7 A j = xs m two de a j ∧ gv h7 B j = cmj m two de a j) : pst ad h7 r (sdm m two a de nu si lf) two (m 106) := by
  obtain ⟨p0, p1, p2, p3, p4, p5, p6, p7, p8, ⟨a1, a2⟩, b1, b2⟩ := pk
  obtain ⟨f0, f1, f2, f3, f4, f5, f6⟩ := sdm_f (m := m) (two := two) (a := a) (de := de) (nu := nu) (si := si) (lf := lf) m0
  unfold pst
  rw [f0, f1, f2, f3, f4, f5, f6, hsh_sd m0, p7, p8]
  refine ⟨p0, p1, p2, p3, p4, p5, p6, e8, e9, ⟨a1, a2, fun k k0 k1 => ?_⟩, ⟨b1, b2, fun k k0 k1 => ?_⟩, dyn_0 s3 hA, dyn_0 s3 hB⟩
  · obtain ⟨j, rfl⟩ : ∃ j : Nat, k = j := ⟨k.toNat, by omega⟩
    rw [(rows j k1).1, sdm_hop m0 j k1]
  · obtain ⟨j, rfl⟩ : ∃ j : Nat, k = j := ⟨k.toNat, by omega⟩
    rw [(rows j k1).2]
    unfold lkk
    cases j with
    | zero =>
      have z : ((0 : Nat) : Int) = 0 := rfl
      rw [if_pos z]; rfl
    | succ j =>
      rw [if_neg (by omega), show ((j + 1 : Nat) : Int) - 1 = (j : Int) by omega, sdm_lk m0 j (by omega)]
      rfl
theorem k_send_89 (ok : tr_ok E) (c : kst ad h m one two H L) (v : vok m one two H L) (hh : his ad h) (hu : gv h (ad 1) 5 = u) (u0 : 0 ≤ u) (u1 : u ≤ 12) (g : sdG H a de nu si lf) (q : m 106 < 40 → ∀ h', KP ad h (sdm m two a de nu si lf) one two H L u h' → Q (.inl (some (.inl (ii (m 106))))) h') (r2 : ¬ m 106 < 40 → Q (.inr 2) (rfz ad h 2)) : tr_G E 76 Q 89 [some (.inr (.inr (ad 1))), some (.inl (ii a)), some (.inl (ii de)), some (.inl (ii nu)), some (.inl (ii si)), some (.inl (ii lf)), none] [.inl (ii 1), .inr (.inr (ad 1))] h 11 227 := by
  refine T_X7_send_89 ok ?_
  have s0 := c.1
  have vm := v_m v
  have vH := v_H v
  refine ⟨st_t s0 (by decide), k_req1 ok ⟨st_t s0 (by decide), k_full ok c v (fun k => ⟨st_t s0 (by decide), ?_⟩) r2⟩⟩
  refine k_keepState ok c v hh hu u0 u1 (fun h3 f3 g3 r3 c3 o3 p3 => ?_)
  have s3 := st_fr s0 f3
  obtain ⟨b0, nw, b2, b3, b4, b5⟩ := id c3
  intro r zr qr h5 x5
  have f5 : ∀ x, fx x h3 h5 := fun x => by rw [x5]; exact fx_nw qr 4 0
  have e5 : ht h5 r = 4 := by rw [x5]; exact nw_t _ _ _ _
  have q0 : ∀ x, ht h3 x = 0 → ht h x = 0 := fun x hx => by
    by_cases k : ht h x = 0
    · exact k
    · exact absurd hx (by rw [(f3 x k).1]; exact k)
  refine ⟨e5, k_packetInit ok g vH.2 e5 (fun h6 f6 pk6 A6 B6 => ?_)⟩
  have F6 : fx r h3 h6 := fx_tr (f5 r) f6
  have z1 : ht h3 (ad 1) ≠ 0 := st_0 s3 (by decide)
  have m1 := fx_c F6 z1 (ne_ht z1 qr)
  have zs : ht h3 (hR h3 (ad 1) 3) ≠ 0 := by rw [b0]; decide
  have ms := fx_c F6 zs (ne_ht zs qr)
  obtain ⟨k0, k1, k2, k3, k4, k5, k6, ⟨k7, k8⟩, ⟨k9, k10⟩, k11⟩ := id pk6
  have A3 : ht h3 (hR h6 r 6) = 0 := fx_0 (f5 r) A6
  have B3 : ht h3 (hR h6 r 7) = 0 := fx_0 (f5 r) B6
  refine ⟨m1.1.trans (st_t s3 (by decide)), ?_⟩
  rw [m1.2.2.2]
  refine ⟨ms.1.trans b0, k0, ?_⟩
  rw [ms.2.2.2]
  refine T_X3_follow ok ⟨k0, ?_⟩
  have i0 : hI h6 r 0 = ii a := by rw [hI_gv]; show ii (gv h6 r 0) = _; rw [k1]
  rw [i0]
  have fin : ∀ h7, fx r h3 h7 → pkg h7 r (hR h6 r 6) (hR h6 r 7) a de nu si lf ((37 * ((37 * ((37 * (a % 9973) + de) % 9973) + nu) % 9973) + si) % 9973) → gv h7 r 8 = nz m two de a lf.toNat + 1 → gv h7 r 9 = fq m two de a lf.toNat → (∀ j : Nat, (j : Int) ≤ nz m two de a lf.toNat → gv h7 (hR h6 r 6) j = xs m two de a j ∧ gv h7 (hR h6 r 7) j = cmj m two de a j) → kV (fun h7 => ht h7 (ad 1) = 8 ∧ (ht h7 (hR h7 (ad 1) 3) = 7 ∧ tr_C E 67 [.inr (.inr (hR h7 (ad 1) 3)), .inr (.inr r)] h7 (kV (fun h8 => ht h8 (ad 1) = 8 ∧ (ht h8 (hR h8 (ad 1) 3) = 7 ∧ (Q (.inl (some (.inl ((hI h8 (hR h8 (ad 1) 3) 2) - (ii 1))))) h8))) (fun E h' => Q (.inr E) h')))) (fun E h' => Q (.inr E) h') (.inl none) h7 := by
    intro h7 F7 pk7 e8 e9 rows
    have n1 := fx_c F7 z1 (ne_ht z1 qr)
    have ns := fx_c F7 zs (ne_ht zs qr)
    have zt : ht h3 (hR h3 (hR h3 (ad 1) 3) 1) ≠ 0 := by rw [b2]; decide
    have nt := fx_c F7 zt (ne_ht zt qr)
    have pr := pst_sd (ad := ad) (h3 := h3) s3 vm.1 g A3 B3 pk7 e8 e9 rows
    have s7 : stat ad h7 := st_fr s3 (fx_fr (ad := ad) (P := p00) (F := f0) (R := false) fr_rfl F7 qr)
    have fr37 : fr ad p00 f0 false h3 h7 := fx_fr fr_rfl F7 qr
    refine ⟨n1.1.trans (st_t s3 (by decide)), ?_⟩
    rw [n1.2.2.2]
    refine ⟨ns.1.trans b0, ?_⟩
    refine T_X6_add ok ?_
    have tS : ht h7 (hR h3 (ad 1) 3) = 7 := ns.1.trans b0
    have i2 : hI h7 (hR h3 (ad 1) 3) 2 = ii (m 106) := by rw [hI_gv, ns.2.2.1]; show ii (gv h3 (hR h3 (ad 1) 3) 2) = _; rw [b4]
    have R1 : hR h7 (hR h3 (ad 1) 3) 1 = hR h3 (hR h3 (ad 1) 3) 1 := by rw [ns.2.2.2]
    have R0 : hR h7 (hR h3 (ad 1) 3) 0 = hR h3 (hR h3 (ad 1) 3) 0 := by rw [ns.2.2.2]
    have tT : ht h7 (hR h3 (hR h3 (ad 1) 3) 1) = 16 := nt.1.trans b2
    have nT : hn h7 (hR h3 (hR h3 (ad 1) 3) 1) = 40 := nt.2.1.trans b3
    have ix : ixn (ii (m 106)) = (m 106).toNat := ixn_ii vm.1 (by omega)
    refine ⟨tS, ?_, fun kk => absurd (by rw [i2, ii_lt (by omega) (by omega) (by omega) (by omega)]; exact k) kk⟩
    intro _
    rw [R1, i2, ix]
    refine ⟨tS, tS, tT, by rw [ixo_ii (by omega) (by omega), nT]; omega, pr.1, fun h8 x8 => ?_⟩
    have f8 : fx (hR h3 (hR h3 (ad 1) 3) 1) h7 h8 := by rw [x8]; exact fx_sR _ _
    have T8 : ht h8 = ht h7 := by rw [x8]; rfl
    refine ⟨by rw [T8]; exact tS, by rw [T8]; exact tS, fun h9 x9 => ?_⟩
    have i8 : hI h8 (hR h3 (ad 1) 3) 2 = ii (m 106) := by rw [x8]; exact i2
    rw [i8, ii_add] at x9
    have f9 : fx (hR h3 (ad 1) 3) h8 h9 := by rw [x9]; exact fx_sI _ _
    have T9 : ht h9 = ht h7 := by rw [x9]; exact T8
    have d1S : ad 1 ≠ hR h3 (ad 1) 3 := fun e => dyn_t s3 (r := hR h3 (ad 1) 3) (by rw [b0]; decide) (by rw [b0]; decide) 1 (by decide) e.symm
    have d1T : ad 1 ≠ hR h3 (hR h3 (ad 1) 3) 1 := fun e => dyn_t s3 (r := hR h3 (hR h3 (ad 1) 3) 1) (by rw [b2]; decide) (by rw [b2]; decide) 1 (by decide) e.symm
    have d6T : ad 6 ≠ hR h3 (hR h3 (ad 1) 3) 1 := fun e => dyn_t s3 (r := hR h3 (hR h3 (ad 1) 3) 1) (by rw [b2]; decide) (by rw [b2]; decide) 6 (by decide) e.symm
    have z6 : ht h3 (ad 6) ≠ 0 := st_0 s3 (by decide)
    have n6 := fx_c F7 z6 (ne_ht z6 qr)
    have nST : hR h3 (ad 1) 3 ≠ hR h3 (hR h3 (ad 1) 3) 1 := ne_tg (h := h3) (by rw [b0, b2]; decide)
    have H9 : ∀ y, y ≠ hR h3 (hR h3 (ad 1) 3) 1 → hR h9 y = hR h7 y := fun y hy => by rw [x9, hR_sI, x8, hR_sRn hy]
    have G9 : ∀ y, y ≠ hR h3 (ad 1) 3 → gv h9 y = gv h7 y := fun y hy => by rw [x9, gv_sIn hy, x8, gv_sR]
    have e13 : hR h9 (ad 1) 3 = hR h3 (ad 1) 3 := by rw [H9 _ d1T, n1.2.2.2]
    have g92 : gv h9 (hR h3 (ad 1) 3) 2 = m 106 + 1 := by rw [x9, gv_sIi (by omega) (by omega)]; exact ud_eq _ _ _
    have i9 : hI h9 (hR h3 (ad 1) 3) 2 = ii (m 106 + 1) := by rw [hI_gv]; show ii (gv h9 (hR h3 (ad 1) 3) 2) = _; rw [g92]
    refine ⟨by rw [T9]; exact n1.1.trans (st_t s3 (by decide)), ?_⟩
    rw [e13]
    refine ⟨by rw [T9]; exact tS, ?_⟩
    rw [i9, ii_sub, show m 106 + 1 - 1 = m 106 by omega]
    have frh7 : fr ad pH f0 true h h7 := fx_fr f3 F7 (q0 _ qr)
    have frh8 : fr ad pH f0 true h h8 := fx_fr frh7 f8 o3.2.1
    have frh9 : fr ad pH f0 true h h9 := fx_fr frh8 f9 o3.1
    have m106 := sdm_106 (two := two) vm.1 g
    have tz : ∀ (qq : Nat) (mm : Int → Int) (p : Int), pst ad h7 qq mm two p → pst ad h9 qq mm two p := fun qq mm p w => pst_fx f9 (by rw [T8, tS]; decide) (by rw [T8, tS]; decide) (pst_fx f8 (by rw [tT]; decide) (by rw [tT]; decide) w)
    refine q k h9 ⟨frh9, ?_, fun i hi => ?_, ?_⟩
    · rw [G9 _ d1S, n1.2.2.1]; exact g3
    · rw [H9 _ d6T, n6.2.2.2]; exact r3 i hi
    · rw [e13]
      refine ⟨by rw [T9]; exact tS, ?_, ?_, ?_, by rw [g92, m106], fun p p0 p1 => ?_⟩
      · rw [H9 _ nST, R0]
        have n7 := nst_fr s3 fr37 p00_lt nw
        have n8 := nst_fx f8 (by rw [tT]; decide) (by rw [tT]; decide) n7
        have n9 := nst_fx f9 (by rw [T8, tS]; decide) (by rw [T8, tS]; decide) n8
        exact nst_e (fun z z0 z1 => (sdm_ne g (by omega) (by omega)).symm) n9
      · rw [H9 _ nST, R1, T9]; exact tT
      · rw [H9 _ nST, R1, x9, hn_sI, x8, hn_sR]; exact nT
      · rw [H9 _ nST, R1]
        rw [m106] at p1
        by_cases e : p = m 106
        · subst e
          have er : hR h9 (hR h3 (hR h3 (ad 1) 3) 1) (m 106).toNat = r := by rw [x9, hR_sI, x8, hR_sR]
          rw [er]
          exact tz _ _ _ pr
        · have er : hR h9 (hR h3 (hR h3 (ad 1) 3) 1) p.toNat = hR h3 (hR h3 (hR h3 (ad 1) 3) 1) p.toNat := by
            rw [x9, hR_sI, x8, hR_sRk (by omega), nt.2.2.2]
          rw [er]
          have w3 := pst_fr s3 fr37 p00_lt (b5 p p0 (by omega))
          exact pst_e (fun w w0 w1 => (sdm_ne (z := 107 + 19 * p + w) g (by omega) (by omega)).symm) (v_p v p0 (by omega)) (tz _ _ _ w3)
  have gl := g.2.2.2
  have go := k_follow_10 (N := nz m two de a lf.toNat) (F := fq m two de a lf.toNat) ok s3 nw v g qr A3 B3 k11 (fun e => by rw [e, e5] at A6; cases A6) (fun e => by rw [e, e5] at B6; cases B6) fin lf.toNat 0 h6 (by omega) (by show _ = ((0 : Nat) : Int) + nz m two de a lf.toNat; omega) rfl g.1.1.1 g.1.1.2 (by show (-1 : Int) ≤ -1; decide) (by show (-1 : Int) < 24; decide) F6 ⟨k0, k1, k2, k3, k4, k5, k6, rfl, rfl, ⟨k7, k8⟩, k9, k10⟩ (fun j hj => by omega)
  exact go
theorem K_send (ok : tr_ok E) (c : kst ad h m one two H L) (v : vok m one two H L) (hh : his ad h) (hu : gv h (ad 1) 5 = u) (u0 : 0 ≤ u) (u1 : u ≤ 12) (a0 : -2147483648 ≤ a) (a1 : a ≤ 2147483647) (d0 : -2147483648 ≤ de) (d1 : de ≤ 2147483647) (n0 : -2147483648 ≤ nu) (n1 : nu ≤ 2147483647) (i0 : -2147483648 ≤ si) (i1 : si ≤ 2147483647) (l0 : -2147483648 ≤ lf) (l1 : lf ≤ 2147483647) (q : sdG H a de nu si lf → m 106 < 40 → ∀ h', KP ad h (sdm m two a de nu si lf) one two H L u h' → Q (.inl (some (.inl (ii (m 106))))) h') (r : ¬ sdG H a de nu si lf → Q (.inr 1) (rfz ad h 1)) (r2 : sdG H a de nu si lf → ¬ m 106 < 40 → Q (.inr 2) (rfz ad h 2)) : tr_C E 76 [.inr (.inr (ad 1)), .inl (ii a), .inl (ii de), .inl (ii nu), .inl (ii si), .inl (ii lf)] h Q := by
  refine T_X7_send ok ?_
  have s0 := c.1
  have cc := c.2
  have b0 := cc.1
  have nw := cc.2.1
  have m0 := nw.1
  have vH := v_H v
  have b89 : ¬ sdG H a de nu si lf → tr_G E 76 Q 89 [some (.inr (.inr (ad 1))), some (.inl (ii a)), some (.inl (ii de)), some (.inl (ii nu)), some (.inl (ii si)), some (.inl (ii lf)), none] [.inl (ii 0), .inr (.inr (ad 1))] h 11 227 := by
    intro g
    refine T_X7_send_89 ok ?_
    simp (disch := first | omega | decide | assumption | exact st_ne s0 (by decide) (by decide) (by decide) | exact dyn_ne (by assumption) (by decide) | fail) only [Int.reduceAdd, Int.reduceSub, Int.reduceNeg, ii_add, ii_sub, ii_mul, ii_lt, ii_le, ii_eq, ixn_ii, ixo_ii, rem_ii, nb_1, nb_0, nb_bb, bb_0, hI_gv, Int.toNat_of_nonneg, Int.cast_ofNat_Int, ht_sI, ht_sJ, ht_sR, hn_sI, hn_sJ, hn_sR, hR_sI, hR_sJ, kI_v, kV_v, kJ_v, true_and, and_true, forall_eq, tg, ln, rf, ne_eq, not_false_eq_true, forall_const, not_true_eq_false, false_implies, W_X7_send_89, st_t s0]
    exact k_req0 ok s0 (r g)
  have b68 : ¬ sdG H a de nu si lf → tr_G E 76 Q 68 [some (.inr (.inr (ad 1))), some (.inl (ii a)), some (.inl (ii de)), some (.inl (ii nu)), some (.inl (ii si)), some (.inl (ii lf)), none] [.inl (ii 0), .inr (.inr (ad 1))] h 12 233 := by
    intro g
    refine T_X7_send_68 ok ?_
    simp (disch := first | omega | decide | assumption | exact st_ne s0 (by decide) (by decide) (by decide) | exact dyn_ne (by assumption) (by decide) | fail) only [Int.reduceAdd, Int.reduceSub, Int.reduceNeg, ii_add, ii_sub, ii_mul, ii_lt, ii_le, ii_eq, ixn_ii, ixo_ii, rem_ii, nb_1, nb_0, nb_bb, bb_0, hI_gv, Int.toNat_of_nonneg, Int.cast_ofNat_Int, ht_sI, ht_sJ, ht_sR, hn_sI, hn_sJ, hn_sR, hR_sI, hR_sJ, kI_v, kV_v, kJ_v, true_and, and_true, forall_eq, tg, ln, rf, ne_eq, not_false_eq_true, forall_const, not_true_eq_false, false_implies, W_X7_send_68, st_t s0]
    exact k_req0 ok s0 (r g)
  have b34 : ¬ sdG H a de nu si lf → tr_G E 76 Q 34 [some (.inr (.inr (ad 1))), some (.inl (ii a)), some (.inl (ii de)), some (.inl (ii nu)), some (.inl (ii si)), some (.inl (ii lf)), none] [.inl (ii 0), .inr (.inr (ad 1))] h 13 239 := by
    intro g
    refine T_X7_send_34 ok ?_
    simp (disch := first | omega | decide | assumption | exact st_ne s0 (by decide) (by decide) (by decide) | exact dyn_ne (by assumption) (by decide) | fail) only [Int.reduceAdd, Int.reduceSub, Int.reduceNeg, ii_add, ii_sub, ii_mul, ii_lt, ii_le, ii_eq, ixn_ii, ixo_ii, rem_ii, nb_1, nb_0, nb_bb, bb_0, hI_gv, Int.toNat_of_nonneg, Int.cast_ofNat_Int, ht_sI, ht_sJ, ht_sR, hn_sI, hn_sJ, hn_sR, hR_sI, hR_sJ, kI_v, kV_v, kJ_v, true_and, and_true, forall_eq, tg, ln, rf, ne_eq, not_false_eq_true, forall_const, not_true_eq_false, false_implies, W_X7_send_34, st_t s0]
    exact k_req0 ok s0 (r g)
  have g68 : ((0 ≤ a ∧ a < H) ∧ (0 ≤ de ∧ de < H)) → (0 ≤ nu ∧ nu ≤ 9999) → (1 ≤ si ∧ si ≤ 200) → tr_G E 76 Q 68 [some (.inr (.inr (ad 1))), some (.inl (ii a)), some (.inl (ii de)), some (.inl (ii nu)), some (.inl (ii si)), some (.inl (ii lf)), none] [.inl (ii 1), .inr (.inr (ad 1))] h 12 233 := by
    intro x1 x2 x3
    refine T_X7_send_68 ok ?_
    simp (disch := first | omega | decide | assumption | exact st_ne s0 (by decide) (by decide) (by decide) | exact dyn_ne (by assumption) (by decide) | fail) only [Int.reduceAdd, Int.reduceSub, Int.reduceNeg, ii_add, ii_sub, ii_mul, ii_lt, ii_le, ii_eq, ixn_ii, ixo_ii, rem_ii, nb_1, nb_0, nb_bb, bb_0, hI_gv, Int.toNat_of_nonneg, Int.cast_ofNat_Int, ht_sI, ht_sJ, ht_sR, hn_sI, hn_sJ, hn_sR, hR_sI, hR_sJ, kI_v, kV_v, kJ_v, true_and, and_true, forall_eq, tg, ln, rf, ne_eq, not_false_eq_true, forall_const, not_true_eq_false, false_implies, W_X7_send_68, st_t s0]
    refine k_req1 ok ?_
    simp (disch := first | omega | decide | assumption | exact st_ne s0 (by decide) (by decide) (by decide) | exact dyn_ne (by assumption) (by decide) | fail) only [Int.reduceAdd, Int.reduceSub, Int.reduceNeg, ii_add, ii_sub, ii_mul, ii_lt, ii_le, ii_eq, ixn_ii, ixo_ii, rem_ii, nb_1, nb_0, nb_bb, bb_0, hI_gv, Int.toNat_of_nonneg, Int.cast_ofNat_Int, ht_sI, ht_sJ, ht_sR, hn_sI, hn_sJ, hn_sR, hR_sI, hR_sJ, kI_v, kV_v, kJ_v, true_and, and_true, forall_eq, tg, ln, rf, ne_eq, not_false_eq_true, forall_const, not_true_eq_false, false_implies]
    refine ⟨fun k => b89 (fun e => by have := e.2.2.2; omega), fun k => ⟨fun k2 => ?_, fun k2 => b89 (fun e => by have := e.2.2.2; omega)⟩⟩
    have gg : sdG H a de nu si lf := ⟨x1, x2, x3, by omega, k2⟩
    exact k_send_89 ok c v hh hu u0 u1 gg (q gg) (r2 gg)
  have g34 : ((0 ≤ a ∧ a < H) ∧ (0 ≤ de ∧ de < H)) → tr_G E 76 Q 34 [some (.inr (.inr (ad 1))), some (.inl (ii a)), some (.inl (ii de)), some (.inl (ii nu)), some (.inl (ii si)), some (.inl (ii lf)), none] [.inl (ii 1), .inr (.inr (ad 1))] h 13 239 := by
    intro x1
    refine T_X7_send_34 ok ?_
    simp (disch := first | omega | decide | assumption | exact st_ne s0 (by decide) (by decide) (by decide) | exact dyn_ne (by assumption) (by decide) | fail) only [Int.reduceAdd, Int.reduceSub, Int.reduceNeg, ii_add, ii_sub, ii_mul, ii_lt, ii_le, ii_eq, ixn_ii, ixo_ii, rem_ii, nb_1, nb_0, nb_bb, bb_0, hI_gv, Int.toNat_of_nonneg, Int.cast_ofNat_Int, ht_sI, ht_sJ, ht_sR, hn_sI, hn_sJ, hn_sR, hR_sI, hR_sJ, kI_v, kV_v, kJ_v, true_and, and_true, forall_eq, tg, ln, rf, ne_eq, not_false_eq_true, forall_const, not_true_eq_false, false_implies, W_X7_send_34, st_t s0]
    refine k_req1 ok ?_
    simp (disch := first | omega | decide | assumption | exact st_ne s0 (by decide) (by decide) (by decide) | exact dyn_ne (by assumption) (by decide) | fail) only [Int.reduceAdd, Int.reduceSub, Int.reduceNeg, ii_add, ii_sub, ii_mul, ii_lt, ii_le, ii_eq, ixn_ii, ixo_ii, rem_ii, nb_1, nb_0, nb_bb, bb_0, hI_gv, Int.toNat_of_nonneg, Int.cast_ofNat_Int, ht_sI, ht_sJ, ht_sR, hn_sI, hn_sJ, hn_sR, hR_sI, hR_sJ, kI_v, kV_v, kJ_v, true_and, and_true, forall_eq, tg, ln, rf, ne_eq, not_false_eq_true, forall_const, not_true_eq_false, false_implies]
    refine ⟨fun k => b68 (fun e => by have := e.2.1; omega), fun k => ⟨fun k2 => ⟨fun k3 => b68 (fun e => by have := e.2.2.1; omega), fun k3 => ⟨fun k4 => g68 x1 ⟨by omega, k2⟩ ⟨by omega, k4⟩, fun k4 => b68 (fun e => by have := e.2.2.1; omega)⟩⟩, fun k2 => b68 (fun e => by have := e.2.1; omega)⟩⟩
  simp (disch := first | omega | decide | assumption | exact st_ne s0 (by decide) (by decide) (by decide) | exact dyn_ne (by assumption) (by decide) | fail) only [Int.reduceAdd, Int.reduceSub, Int.reduceNeg, ii_add, ii_sub, ii_mul, ii_lt, ii_le, ii_eq, ixn_ii, ixo_ii, rem_ii, nb_1, nb_0, nb_bb, bb_0, hI_gv, Int.toNat_of_nonneg, Int.cast_ofNat_Int, ht_sI, ht_sJ, ht_sR, hn_sI, hn_sJ, hn_sR, hR_sI, hR_sJ, kI_v, kV_v, kJ_v, true_and, and_true, forall_eq, tg, ln, rf, ne_eq, not_false_eq_true, forall_const, not_true_eq_false, false_implies, W_X7_send, st_t s0, b0, m0]
  refine k_hasHop ok nw (by omega) (by omega) a0 a1 ?_
  simp (disch := first | omega | decide | assumption | exact st_ne s0 (by decide) (by decide) (by decide) | exact dyn_ne (by assumption) (by decide) | fail) only [Int.reduceAdd, Int.reduceSub, Int.reduceNeg, ii_add, ii_sub, ii_mul, ii_lt, ii_le, ii_eq, ixn_ii, ixo_ii, rem_ii, nb_1, nb_0, nb_bb, bb_0, hI_gv, Int.toNat_of_nonneg, Int.cast_ofNat_Int, ht_sI, ht_sJ, ht_sR, hn_sI, hn_sJ, hn_sR, hR_sI, hR_sJ, kI_v, kV_v, kJ_v, true_and, and_true, forall_eq, tg, ln, rf, ne_eq, not_false_eq_true, forall_const, not_true_eq_false, false_implies, st_t s0, b0, m0]
  refine ⟨fun g => ?_, fun g => ?_⟩
  · rw [decide_eq_false_iff_not] at g
    exact b34 (fun e => g e.1.1)
  rw [Bool.not_eq_false, decide_eq_true_eq] at g
  refine k_hasHop ok nw (by omega) (by omega) d0 d1 ?_
  simp (disch := first | omega | decide | assumption | exact st_ne s0 (by decide) (by decide) (by decide) | exact dyn_ne (by assumption) (by decide) | fail) only [Int.reduceAdd, Int.reduceSub, Int.reduceNeg, ii_add, ii_sub, ii_mul, ii_lt, ii_le, ii_eq, ixn_ii, ixo_ii, rem_ii, nb_1, nb_0, nb_bb, bb_0, hI_gv, Int.toNat_of_nonneg, Int.cast_ofNat_Int, ht_sI, ht_sJ, ht_sR, hn_sI, hn_sJ, hn_sR, hR_sI, hR_sJ, kI_v, kV_v, kJ_v, true_and, and_true, forall_eq, tg, ln, rf, ne_eq, not_false_eq_true, forall_const, not_true_eq_false, false_implies]
  refine ⟨fun k2 => ?_, fun k2 => ?_⟩
  · rw [decide_eq_false_iff_not] at k2
    exact b34 (fun e => k2 e.1.2)
  rw [Bool.not_eq_false, decide_eq_true_eq] at k2
  exact g34 ⟨g, k2⟩
end SN5
