/-! SEND: the class's packet -/
section SN3
variable {E : tr_Env} {ad : Nat → Nat} {h h0 hb : tr_H} {Q : tr_Q} {m one two : Int → Int} {H L a de nu si lf : Int} {r : Nat}
/-- what a new packet holds before it goes -/
def pk0 (h : tr_H) (r : Nat) (a de nu si lf : Int) : Prop := ht h r = 4 ∧ gv h r 0 = a ∧ gv h r 1 = de ∧ gv h r 2 = nu ∧ gv h r 3 = si ∧ gv h r 4 = lf ∧ gv h r 5 = (37 * ((37 * ((37 * (a % 9973) + de) % 9973) + nu) % 9973) + si) % 9973 ∧ (ht h (hR h r 6) = 11 ∧ (hn h (hR h r 6) : Int) = lf + 1) ∧ (ht h (hR h r 7) = 11 ∧ (hn h (hR h r 7) : Int) = lf + 1) ∧ hR h r 6 ≠ hR h r 7
theorem k_packetInit (ok : tr_ok E) (g : sdG H a de nu si lf) (hH : H ≤ 10) (hr : ht h r = 4) (q : ∀ h', fx r h h' → pk0 h' r a de nu si lf → ht h (hR h' r 6) = 0 → ht h (hR h' r 7) = 0 → Q (.inl none) h') : tr_C E 37 [.inr (.inr r), .inl (ii a), .inl (ii de), .inl (ii nu), .inl (ii si), .inl (ii lf)] h Q := by
  refine T_X3_init ok ?_
  obtain ⟨⟨ga, gd⟩, gn, gs, gl⟩ := g
  refine ⟨by rw [hr]; decide, hr, fun h1 x1 => ?_⟩
  have f1 : fx r h h1 := by rw [x1]; exact fx_sI _ _
  have t1 : ht h1 r = 4 := by rw [x1]; exact hr
  refine ⟨t1, fun h2 x2 => ?_⟩
  have f2 : fx r h1 h2 := by rw [x2]; exact fx_sI _ _
  have t2 : ht h2 r = 4 := by rw [x2]; exact t1
  refine ⟨t2, fun h3 x3 => ?_⟩
  have f3 : fx r h2 h3 := by rw [x3]; exact fx_sI _ _
  have t3 : ht h3 r = 4 := by rw [x3]; exact t2
  refine ⟨t3, fun h4 x4 => ?_⟩
  have f4 : fx r h3 h4 := by rw [x4]; exact fx_sI _ _
  have t4 : ht h4 r = 4 := by rw [x4]; exact t3
  refine ⟨t4, fun h5 x5 => ?_⟩
  have f5 : fx r h4 h5 := by rw [x5]; exact fx_sI _ _
  have t5 : ht h5 r = 4 := by rw [x5]; exact t4
  have F5 : fx r h h5 := fx_tr f1 (fx_tr f2 (fx_tr f3 (fx_tr f4 f5)))
  have e5 : gv h5 r = ud (ud (ud (ud (ud (gv h r) 0 a) 1 de) 2 nu) 3 si) 4 lf := by
    rw [x5, gv_sIi (by omega) (by omega), x4, gv_sIi (by omega) (by omega), x3, gv_sIi (by omega) (by omega), x2, gv_sIi (by omega) (by omega), x1, gv_sIi (by omega) (by omega)]
    rfl
  clear x1 x2 x3 x4 x5 f1 f2 f3 f4 f5 t1 t2 t3 t4
  have n9 : ¬ ii 9973 = ii 0 := by decide
  have hl0 : ¬ ii lf < ii 0 := by rw [ii_lt (by omega) (by omega) (by omega) (by omega)]; omega
  have hl1 : ii lf ≤ ii 12 := by rw [ii_le (by omega) (by omega) (by omega) (by omega)]; omega
  have e1 : ii lf + ii 1 = ii (lf + 1) := ii_add _ _
  have et : (ii (lf + 1)).toInt = lf + 1 := ti_ii (by omega) (by omega)
  have ei : ixn (ii (lf + 1)) = (lf + 1).toNat := ixn_ii (by omega) (by omega)
  refine ⟨fun k => absurd k hl0, fun _ => ⟨fun _ => ?_, fun k => absurd hl1 k⟩⟩
  rw [e1, et, ei]
  refine ⟨by omega, by omega, by omega, fun r6 z6 q6 h7 x7 => ?_⟩
  have f7 : ∀ x, fx x h5 h7 := fun x => by rw [x7]; exact fx_nw q6 11 _
  have r6r : r ≠ r6 := ne_ht (h := h5) (by rw [t5]; decide) q6
  have a7 := fx_c (f7 r6) (x := r) (by rw [t5]; decide) r6r
  refine ⟨a7.1.trans t5, fun h8 x8 => ?_⟩
  have f8 : fx r h7 h8 := by rw [x8]; exact fx_sR _ _
  have t8 : ht h8 r = 4 := by rw [x8]; exact a7.1.trans t5
  have y6 : hR h8 r 6 = r6 := by rw [x8]; exact hR_sR _ _ _ _
  have w6 : ht h8 r6 = 11 ∧ hn h8 r6 = (lf + 1).toNat := by rw [x8, x7]; exact ⟨nw_t h5 r6 11 (lf + 1).toNat, nw_n h5 r6 11 (lf + 1).toNat⟩
  have g8 : gv h8 r = gv h5 r := by rw [x8, gv_sR]; exact a7.2.2.1
  have F8 : fx r h h8 := fx_tr F5 (fx_tr (f7 r) f8)
  have q6h : ht h r6 = 0 := fx_0 F5 q6
  clear x7 x8
  refine ⟨by omega, by omega, by omega, fun r9 z9 q9 h10 x10 => ?_⟩
  have f10 : ∀ x, fx x h8 h10 := fun x => by rw [x10]; exact fx_nw q9 11 _
  have r9r : r ≠ r9 := ne_ht (h := h8) (by rw [t8]; decide) q9
  have a10 := fx_c (f10 r9) (x := r) (by rw [t8]; decide) r9r
  have r69 : r6 ≠ r9 := ne_ht (h := h8) (by rw [w6.1]; decide) q9
  have b10 := fx_c (f10 r9) (x := r6) (by rw [w6.1]; decide) r69
  refine ⟨a10.1.trans t8, fun h11 x11 => ?_⟩
  have f11 : fx r h10 h11 := by rw [x11]; exact fx_sR _ _
  have t11 : ht h11 r = 4 := by rw [x11]; exact a10.1.trans t8
  have y7 : hR h11 r 7 = r9 := by rw [x11]; exact hR_sR _ _ _ _
  have y6b : hR h11 r 6 = r6 := by rw [x11, hR_sRk (by decide), a10.2.2.2]; exact y6
  have w9 : ht h11 r9 = 11 ∧ hn h11 r9 = (lf + 1).toNat := by rw [x11, x10]; exact ⟨nw_t h8 r9 11 (lf + 1).toNat, nw_n h8 r9 11 (lf + 1).toNat⟩
  have w6b : ht h11 r6 = 11 ∧ hn h11 r6 = (lf + 1).toNat := by rw [x11]; exact ⟨b10.1.trans w6.1, b10.2.1.trans w6.2⟩
  have g11 : gv h11 r = gv h5 r := by rw [x11, gv_sR]; exact a10.2.2.1.trans g8
  have F11 : fx r h h11 := fx_tr F8 (fx_tr (f10 r) f11)
  have q9h : ht h r9 = 0 := fx_0 F8 q9
  refine ⟨n9, n9, n9, n9, t11, fun h12 x12 => ?_⟩
  have m1 := Int.emod_nonneg a (by omega : (9973 : Int) ≠ 0)
  have m2 := Int.emod_lt_of_pos a (by omega : (0 : Int) < 9973)
  have m3 := Int.emod_nonneg (37 * (a % 9973) + de) (by omega : (9973 : Int) ≠ 0)
  have m4 := Int.emod_lt_of_pos (37 * (a % 9973) + de) (by omega : (0 : Int) < 9973)
  have m5 := Int.emod_nonneg (37 * ((37 * (a % 9973) + de) % 9973) + nu) (by omega : (9973 : Int) ≠ 0)
  have m6 := Int.emod_lt_of_pos (37 * ((37 * (a % 9973) + de) % 9973) + nu) (by omega : (0 : Int) < 9973)
  have m7 := Int.emod_nonneg (37 * ((37 * ((37 * (a % 9973) + de) % 9973) + nu) % 9973) + si) (by omega : (9973 : Int) ≠ 0)
  have m8 := Int.emod_lt_of_pos (37 * ((37 * ((37 * (a % 9973) + de) % 9973) + nu) % 9973) + si) (by omega : (0 : Int) < 9973)
  have ew : tr_rem (((ii 37) * (tr_rem (((ii 37) * (tr_rem (((ii 37) * (tr_rem (ii a) (ii 9973))) + (ii de)) (ii 9973))) + (ii nu)) (ii 9973))) + (ii si)) (ii 9973) = ii ((37 * ((37 * ((37 * (a % 9973) + de) % 9973) + nu) % 9973) + si) % 9973) := by
    rw [rem_ii (by omega) (by omega) (by omega) (by omega), ii_mul, ii_add, rem_ii (by omega) (by omega) (by omega) (by omega), ii_mul, ii_add, rem_ii (by omega) (by omega) (by omega) (by omega), ii_mul, ii_add, rem_ii (by omega) (by omega) (by omega) (by omega)]
  rw [ew] at x12
  have f12 : fx r h11 h12 := by rw [x12]; exact fx_sI _ _
  have g12 : gv h12 r = ud (gv h5 r) 5 ((37 * ((37 * ((37 * (a % 9973) + de) % 9973) + nu) % 9973) + si) % 9973) := by
    rw [x12, gv_sIi (by omega) (by omega), g11]; rfl
  have R12 : hR h12 = hR h11 := by rw [x12]; rfl
  have T12 : ht h12 = ht h11 := by rw [x12]; rfl
  have N12 : hn h12 = hn h11 := by rw [x12]; rfl
  refine q h12 (fx_tr F11 f12) ⟨by rw [T12]; exact t11, ?_, ?_, ?_, ?_, ?_, ?_, ?_, ?_, ?_⟩ (by rw [R12, y6b]; exact q6h) (by rw [R12, y7]; exact q9h)
  · rw [g12, ud_ne (by decide), e5, ud_ne (by decide), ud_ne (by decide), ud_ne (by decide), ud_ne (by decide), ud_eq]
  · rw [g12, ud_ne (by decide), e5, ud_ne (by decide), ud_ne (by decide), ud_ne (by decide), ud_eq]
  · rw [g12, ud_ne (by decide), e5, ud_ne (by decide), ud_ne (by decide), ud_eq]
  · rw [g12, ud_ne (by decide), e5, ud_ne (by decide), ud_eq]
  · rw [g12, ud_ne (by decide), e5, ud_eq]
  · rw [g12, ud_eq]
  · rw [R12, T12, N12, y6b, w6b.1, w6b.2]; exact ⟨rfl, by omega⟩
  · rw [R12, T12, N12, y7, w9.1, w9.2]; exact ⟨rfl, by omega⟩
  · rw [R12, y6b, y7]; exact r69
end SN3
