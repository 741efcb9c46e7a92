/-! THE LAW FROM ITS BEGINNING -/
section FIRST
variable {E : tr_Env}
theorem fi_all (ok : tr_ok E) {h : tr_H} {b : Nat} (hb : ht h b = 17) (hN : hn h b ≤ 3072) : tr_LG E 100 20000 (tr_lZ E) 0 [some (.inr (.inr b)), none, none, none, none, none, none, none] [] h 100 20000 := by
  refine T_L_law ok (Nat.le_of_ble_eq_true rfl) (Nat.le_of_ble_eq_true rfl) (tr_lEnds (Nat.le_of_ble_eq_true rfl) (Nat.le_of_ble_eq_true rfl)) ?_
  intro r1 n1 z1 h2 e2
  have t2 : ht h2 r1 = 8 := by rw [e2]; exact nw_t _ _ _ _
  have bn : b ≠ r1 := fun g => by rw [g, z1] at hb; cases hb
  have f0 : fx r1 h h2 := by rw [e2]; exact fx_nw z1 8 0
  refine ⟨t2, k_born7 (g := fun _ => 0) (one := fun _ => 0) (two := fun _ => 0) ok t2 (by rw [e2]; exact nw_n _ _ _ _) (by rw [e2]; funext z; exact nw_g _ _ _ _ z) ?_⟩
  refine fun h4 h11 h3 rT rH rF rJ rJ0 rJ1 rJ2 rJ3 rJ4 rJ5 rJ6 rJ7 rJ8 rJ9 rJ10 rI rI0 rI1 rI2 rS rS0 r5 r7 C l4 o k e7 f1 => ?_
  refine fun r4 n4 z4 h5 e5 => ?_
  have C1 : cry r5 h11 2 h5 [r1, rT, rH, rF, rJ, rJ0, rJ1, rJ2, rJ3, rJ4, rJ5, rJ6, rJ7, rJ8, rJ9, rJ10, rI, rI0, rI1, rI2, rS, rS0, r4] [(8, 0), (12, 400), (15, 12), (11, 3), (2, 0), (11, 10), (11, 24), (11, 520), (11, 520), (11, 520), (11, 520), (11, 40), (11, 40), (11, 40), (11, 520), (13, 40), (1, 0), (11, 40), (11, 40), (11, 64), (6, 0), (11, 997), (9, 0)] [(ud (fun _ => 0) 2 (-1)), (fun _ => 0), (fun _ => 0), (fun _ => 0), (fun _ => 0), (fun _ => 0), (fun _ => 0), (fun _ => 0), (fun _ => 0), (fun _ => 0), (fun _ => 0), (fun _ => 0), (fun _ => 0), (fun _ => 0), (fun _ => 0), (fun _ => 0), (fun _ => 0), (fun _ => 0), (fun _ => 0), (fun _ => 0), (fun _ => 0), (fun _ => 0), (fun _ => 0)] [(0, 0, 1), (0, 4, 2), (0, 6, 3), (4, 0, 5), (4, 1, 6), (4, 4, 7), (4, 5, 8), (4, 6, 9), (4, 7, 10), (4, 11, 11), (4, 12, 12), (4, 13, 13), (4, 14, 14), (4, 15, 15), (0, 7, 4), (16, 0, 17), (16, 1, 18), (16, 2, 19), (0, 8, 16), (20, 0, 21), (0, 9, 20)] := cry_nw C z4 (by decide) e5
  refine ⟨by rw [e5]; exact nw_t _ _ _ _, k_born8 ok C1 ?_⟩
  refine fun h6 m24 m25 m26 m27 m28 m29 m30 m31 m32 m33 m34 m35 m36 m37 m38 m39 m40 m41 C2 => ?_
  refine ⟨rfl, fun r9 n9 z9 h8 e8 => ?_⟩
  have C3 : cry r5 h11 2 h8 [r1, rT, rH, rF, rJ, rJ0, rJ1, rJ2, rJ3, rJ4, rJ5, rJ6, rJ7, rJ8, rJ9, rJ10, rI, rI0, rI1, rI2, rS, rS0, r4, m24, m25, m26, m27, m28, m29, m30, m31, m32, m33, m34, m35, m36, m37, m38, m39, m40, m41, r9] bTT bG bRf := cry_nw C2 z9 (by decide) e8
  have t8 : ht h11 r1 = 8 := (f1 r1 (by rw [t2]; decide)).1.1.trans t2
  obtain ⟨J, RFh⟩ := beg_JI C3 rfl l4 o k e7 t8
  have f2 : fx r1 h11 h8 := C3.1.1
  have b0 : ht h b ≠ 0 := by rw [hb]; decide
  have b2 : ht h2 b = 17 := (f0 b b0).1.1.trans hb
  have b2n : ht h2 b ≠ 0 := by rw [b2]; decide
  have b3 : ht h11 b = 17 := (f1 b b2n).1.1.trans b2
  have b3n : ht h11 b ≠ 0 := by rw [b3]; decide
  have LI0 : LI (fun i => ([r1, rT, rH, rF, rJ, rJ0, rJ1, rJ2, rJ3, rJ4, rJ5, rJ6, rJ7, rJ8, rJ9, rJ10, rI, rI0, rI1, rI2, rS, rS0, r4, m24, m25, m26, m27, m28, m29, m30, m31, m32, m33, m34, m35, m36, m37, m38, m39, m40, m41, r9] : List Nat).getD (psn i) 0) b (hn h b) (gv h b) h8 (clf (fun _ => 0)) (fun _ => 0) (fun _ => 0) 2 0 0 :=
    ⟨J, RFh, (f2 b b3n).1.1.trans b3, (f2 b b3n).1.2.trans ((f1 b b2n).1.2.trans (f0 b b0).1.2), ((f2 b b3n).2 bn).1.trans (((f1 b b2n).2 bn).1.trans ((f0 b b0).2 bn).1)⟩
  have e1 : tr_nb (ii 1) = ii 1 := by decide
  have k1 : 100 + 40 + 40 * 512 ≤ room_1.cells := by show 100 + 40 + 40 * 512 ≤ 601024; omega
  have k2 : 20000 + 500 + 500 * 512 ≤ room_1.slots := by show 20000 + 500 + 500 * 512 ≤ 7293034; omega
  have lp := lp_all (Q := tr_lQ) (Z := tr_lZ E) ok (fun lc lz c1 c2 => tr_lEnds c1 c2) (gv_rg h b) hN (fun h' => congrArg (fun z => (.inl (some (.inl z)) : tr_Rs)) e1) 512 (lc := 100 + 40) (lz := 20000 + 500) (i := 0) k1 k2 LI0 (by omega) (by omega) (by omega)
  exact tr_LG_shift (a := 40) (b := 500) lp
end FIRST
