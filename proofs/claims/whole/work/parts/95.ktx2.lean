/-! TEXT of the class: readers, states, the call -/
section KTY
variable {E : tr_Env} {ad : Nat → Nat} {hb h h0 h1 h2 : tr_H} {Q : tr_Q} {t g m one two o2 w2 : Int → Int} {n s p x N H L : Int} {q r nn : Nat} {P : Nat → Bool} {F : Int → Bool} {R : Bool}
theorem fx_any {y : Nat} (f : fx q hb h) (hq : ht hb q = 0) : fx y hb h := fun x hx => ⟨(f x hx).1, fun _ => (f x hx).2 (fun e => hx (by rw [e]; exact hq))⟩
theorem wn_fr (a : fr ad P F R hb h) (w : wn hb h h1) : fr ad P F R hb h1 := by
  intro x hx
  obtain ⟨a1, a2, a3, a4⟩ := a x hx
  obtain ⟨b1, b2, b3, b4, b5⟩ := w x
  refine ⟨b1.trans a1, b2.trans a2, fun q => ⟨fun z hz => ?_, b4.trans (a3 q).2⟩, fun k hk => by rw [b3]; exact a4 k hk⟩
  rw [b5 hx]; exact (a3 q).1 z hz
theorem k_readerInit (ok : tr_ok E) (s0 : stat ad hb) (hq : ht hb q = 0) (f : fx q hb h) (tq : ht h q = 5) (z0 : ∀ z, gv h q z = 0) (n0 : 0 ≤ n) (n1 : n ≤ 400) (tt : ∀ z, 0 ≤ z → z < n → gv hb (ad 5) z = t z) (Qq : ∀ h', fx q hb h' → RD hb ad h' q t n 0 (clf g) one two 2 0 → Q (.inl none) h') : tr_C E 42 [.inr (.inr q), .inr (.inr (ad 5)), .inl (ii n)] h Q := by
  refine T_X4_init ok ?_
  have t0 : ht h q ≠ 0 := by rw [tq]; decide
  refine ⟨t0, tq, fun h1 x1 => ?_⟩
  have f1 : fx q h h1 := by rw [x1]; exact fx_sR _ _
  have t1 : ht h1 q = 5 := by rw [x1]; exact tq
  refine ⟨t1, fun h2 x2 => ?_⟩
  have f2 : fx q h1 h2 := by rw [x2]; exact fx_sI _ _
  have t2 : ht h2 q = 5 := by rw [x2]; exact t1
  have g2 : gv h2 q = ud (gv h q) 1 n := by rw [x2, gv_sIi (by omega) (by omega), x1, gv_sR]; rfl
  have R2 : hR h2 q 0 = ad 5 := by rw [x2, x1]; exact hR_sR _ _ _ _
  clear x1 x2
  refine fun r3 _ q3 h4 x4 => ?_
  have f4 : fx r3 h2 h4 := by rw [x4]; exact fx_nw q3 3 0
  have nq : q ≠ r3 := ne_ht (h := h2) (by rw [t2]; decide) q3
  have t4 : ht h4 r3 = 3 := by rw [x4]; exact nw_t _ _ _ _
  have z4 : gv h4 r3 1 = 0 := by rw [x4]; exact nw_g _ _ _ _ _
  clear x4
  have k4 := fx_c f4 (x := q) (by rw [t2]; decide) nq
  have F2 : fx q hb h2 := fx_tr f (fx_tr f1 f2)
  have F4 : fx r3 hb h4 := fx_tr (fx_any F2 hq) f4
  have hb3 : ht hb r3 = 0 := fx_0 F2 q3
  refine ⟨t4, k_netInit (g := g) (one := one) (two := two) ok (fun x _ hx => dyn_0 s0 hx) hb3 F4 t4 z4 (fun h5 f5 n5 o5 c2 c3 c23 => ?_)⟩
  have t4q : ht h4 q = 5 := k4.1.trans t2
  have k5 := fx_c f5 (x := q) (by rw [t4q]; decide) nq
  have t5 : ht h5 q = 5 := k5.1.trans t4q
  have g5 : gv h5 q = ud (gv h q) 1 n := by rw [k5.2.2.1, k4.2.2.1]; exact g2
  have R5 : hR h5 q 0 = ad 5 := by rw [k5.2.2.2, k4.2.2.2]; exact R2
  refine ⟨t5, fun h6 x6 => ?_⟩
  have f6 : fx q h5 h6 := by rw [x6]; exact fx_sR _ _
  have t6 : ht h6 q = 5 := by rw [x6]; exact t5
  refine ⟨t6, fun h7 x7 => ?_⟩
  have f7 : fx q h6 h7 := by rw [x7]; exact fx_sI _ _
  have t7 : ht h7 q = 5 := by rw [x7]; exact t6
  have g7 : gv h7 q = ud (ud (gv h q) 1 n) 9 (-1) := by rw [x7, gv_sIi (by omega) (by omega), x6, gv_sR, g5]; rfl
  have R7 : hR h7 q 0 = ad 5 := by rw [x7, x6]; exact (hR_sRk (by decide)).trans R5
  have S7 : hR h7 q 7 = r3 := by rw [x7, x6]; exact hR_sR _ _ _ _
  have V7 : hR h7 r3 = hR h5 r3 := by rw [x7, x6]; exact hR_sRn (fun e => nq e.symm)
  clear x6 x7
  have f57 : fx q h5 h7 := fx_tr f6 f7
  have n7 : nst ad h7 r3 (clf g) one two 2 0 := nst_fx f57 (by rw [t5]; decide) (by rw [t5]; decide) n5
  have F5 : fx q hb h5 := fx_any (fx_tr F4 f5) hb3
  have F7 : fx q hb h7 := fx_tr F5 f57
  have fr7 : fr ad pH f0 false hb h7 := fx_fr fr_rfl F7 hq
  have s7 : stat ad h7 := st_fr s0 fr7
  have a5 : gv h7 (ad 5) = gv hb (ad 5) := fr_gv s0 fr7 (by decide) (by decide) rfl pH_lt
  refine Qq h7 F7 ⟨⟨s7, t7, R7, ?_, ?_, fun z z0 z1 => by rw [a5]; exact tt z z0 z1, by omega, n0, n1⟩, ?_, ?_, ?_, fun l _ _ => ?_⟩
  · rw [g7, ud_ne (by decide), ud_eq]
  · rw [g7, ud_ne (by decide), ud_ne (by decide)]; exact z0 2
  · rw [g7, ud_eq]
  · rw [S7]; exact n7
  · rw [S7]
    unfold own at o5 ⊢
    rw [V7]
    exact ⟨hq, o5, c2, c3, c23⟩
  · show bt 0 l = false
    unfold bt; exact Nat.zero_testBit _
theorem k_stateInit (ok : tr_ok E) (t7 : ht h r = 7) (z2 : gv h r 2 = 0) (nw : nst ad h nn m one two H L) (m0 : m 106 = 0) (Qq : ∀ h', fx r h h' → cst ad h' r m one two H L → hR h' r 0 = nn → Q (.inl none) h') : tr_C E 64 [.inr (.inr r), .inr (.inr nn)] h Q := by
  refine T_X6_init ok ?_
  have t0 : ht h r ≠ 0 := by rw [t7]; decide
  refine ⟨t0, t7, fun h1 x1 => ?_⟩
  have f1 : fx r h h1 := by rw [x1]; exact fx_sR _ _
  have t1 : ht h1 r = 7 := by rw [x1]; exact t7
  have R1 : hR h1 r 0 = nn := by rw [x1]; exact hR_sR _ _ _ _
  have g1 : gv h1 r = gv h r := by rw [x1, gv_sR]
  refine ⟨rfl, fun r2 _ q2 h3 x3 => ?_⟩
  obtain ⟨A1, A2, A3, A4, A5, A6, A7, A8⟩ := st_new (g := h1) (r0 := r) (r := r2) (k := 1) (T := 16) (N := 40) (by rw [t1]; decide) q2
  have u3 : ht h3 r = 7 := by rw [x3]; exact ((fx_nw (r0 := r) q2 16 40 r (by rw [t1]; decide)).1.1).trans t1
  refine ⟨u3, fun h4 x4 => ?_⟩
  rw [x3] at x4
  rw [← x4] at A1 A2 A3 A4 A5 A6 A7
  have f4 := fx_tr f1 A1
  have R4 : hR h4 r 0 = nn := (A6 0 (by decide)).trans R1
  refine Qq h4 f4 ⟨(f4 r t0).1.1.trans t7, ?_, by rw [A5]; exact A2, by rw [A5]; exact A3, by rw [A7, g1, z2, m0], fun p p0 p1 => by omega⟩ R4
  rw [R4]
  exact nst_fx f4 (by rw [t7]; decide) (by rw [t7]; decide) nw
def KTZ (ad : Nat → Nat) (h : tr_H) (m' o' w' : Int → Int) (H' L' : Int) (h' : tr_H) : Prop := fr ad pH f0 true h h' ∧ gv h' (ad 1) = ud (ud (ud (gv h (ad 1)) 1 0) 2 (-1)) 5 0 ∧ hR h' (ad 6) = hR h (ad 6) ∧ cst ad h' (hR h' (ad 1) 3) m' o' w' H' L'
theorem K_text (ok : tr_ok E) (s : stat ad h) (hN : gv h (ad 1) 1 = N) (N0 : 0 ≤ N) (N1 : N ≤ 400) (x0 : -2147483648 ≤ x) (x1 : x ≤ 2147483647) (tt : ∀ z, 0 ≤ z → z < x → gv h (ad 5) z = t z) (rr : ¬ (0 ≤ x ∧ x ≤ N) → Q (.inr 1) (rfz ad h 1)) (qX : 0 ≤ x ∧ x ≤ N → ∀ kd wh, txAll t (clf g) o2 w2 x = .inl (kd, wh) → ∀ h', fr ad pH f0 false h h' → gv h' (ad 1) = ud (ud (gv h (ad 1)) 1 0) 2 wh → Q (.inl (some (.inl (ii (kd - 10))))) h') (qY : 0 ≤ x ∧ x ≤ N → ∀ H' m' o' w' L', txAll t (clf g) o2 w2 x = .inr (H', m', o', w', L') → vk m' o' w' H' L' → ∀ h', KTZ ad h m' o' w' H' L' h' → Q (.inl (some (.inl (ii L')))) h') : tr_C E 74 [.inr (.inr (ad 1)), .inl (ii x)] h Q := by
  refine T_X7_text ok ?_
  have bad : ¬ (0 ≤ x ∧ x ≤ N) → tr_G E 74 Q 18 [some (.inr (.inr (ad 1))), some (.inl (ii x)), none, none] [.inl (ii 0), .inr (.inr (ad 1))] h 10 243 := fun g => by
    refine T_X7_text_18 ok ⟨st_t s (by decide), k_req0 ok s (rr g)⟩
  have good : 0 ≤ x ∧ x ≤ N → tr_G E 74 Q 18 [some (.inr (.inr (ad 1))), some (.inl (ii x)), none, none] [.inl (ii 1), .inr (.inr (ad 1))] h 10 243 := fun gx => by
    refine T_X7_text_18 ok ⟨st_t s (by decide), k_req1 ok ?_⟩
    refine fun r2 _ q2 h3 x3 => ?_
    have f3 : fx r2 h h3 := by rw [x3]; exact fx_nw q2 5 0
    have t3 : ht h3 r2 = 5 := by rw [x3]; exact nw_t _ _ _ _
    have z3 : ∀ z, gv h3 r2 z = 0 := by rw [x3]; exact nw_g _ _ _ _
    clear x3
    have fr3 : fr ad pH f0 false h h3 := fx_fr fr_rfl f3 q2
    have s3 := st_fr s fr3
    refine ⟨st_t s3 (by decide), t3, ?_⟩
    rw [show hR h3 (ad 1) 0 = ad 5 from st_r s3 (i := 1) (k := 0) (by decide) (by decide)]
    refine k_readerInit (hb := h) (t := t) (g := g) (one := o2) (two := w2) ok s q2 f3 t3 z3 gx.1 (by omega) tt (fun h4 f4 r4 => ?_)
    have fr4 : fr ad pH f0 false h h4 := fx_fr fr_rfl f4 q2
    have n1 : ad 1 ≠ r2 := ne_ht (h := h) (st_0 s (by decide)) q2
    have fin : ∀ {h5 : tr_H} {wh : Int}, wn h h4 h5 → gv h5 r2 9 = wh → -2147483648 ≤ wh → wh ≤ 2147483647 → ∀ h7 h8 : tr_H, h7 = hsI h5 (ad 1) 1 (ii 0) → h8 = hsI h7 (ad 1) 2 (hI h7 r2 9) → (fr ad pH f0 false h h8 ∧ gv h8 (ad 1) = ud (ud (gv h (ad 1)) 1 0) 2 wh) ∧ (ht h8 = ht h5 ∧ hn h8 = hn h5 ∧ hR h8 = hR h5) ∧ ∀ y, y ≠ ad 1 → gv h8 y = gv h5 y := fun {h5 wh} w5 e9 b0 b1 h7 h8 x7 x8 => by
      have fr5 : fr ad pH f0 false h h5 := wn_fr fr4 w5
      have a1 : gv h5 (ad 1) = gv h (ad 1) := by
        rw [(w5 (ad 1)).2.2.2.2 (st_0 s (by decide))]
        exact ((f4 (ad 1) (st_0 s (by decide))).2 n1).1
      have i9 : hI h7 r2 9 = ii wh := hI_e (by rw [x7, gv_sIn (fun e => n1 e.symm)]; exact e9)
      rw [i9] at x8
      refine ⟨⟨?_, ?_⟩, ⟨by rw [x8, x7]; rfl, by rw [x8, x7]; rfl, by rw [x8, x7]; rfl⟩, fun y hy => by rw [x8, gv_sIn hy, x7, gv_sIn hy]⟩
      · rw [x8, x7]; exact fr_sI (fr_sI fr5 rfl) rfl
      · rw [x8, gv_sIi b0 b1, x7, gv_sIi (by omega) (by omega), a1]; rfl
    have t4 : ht h4 r2 = 5 := r4.1.2.1
    refine ⟨t4, k_readAll ok r4 (fun H' a b => vk_clf g a b) (fun kd wh e h5 w5 e8 e9 => ?_) (fun H' m' o' w' L' e v' p' h5 w5 r5 => ?_)⟩
    · have wb := gv_rg h5 r2 9
      rw [e9] at wb
      have s5 : stat ad h5 := st_fr s (wn_fr fr4 w5)
      have t5 : ht h5 r2 = 5 := (w5 r2).1.trans t4
      refine ⟨st_t s5 (by decide), fun h7 x7 => ⟨by rw [x7]; exact t5, by rw [x7]; exact st_t s5 (by decide), fun h8 x8 => ?_⟩⟩
      obtain ⟨⟨f8, g8⟩, ⟨c1, c2, c3⟩, c4⟩ := fin w5 e9 wb.1 wb.2 h7 h8 x7 x8
      refine ⟨fun _ => ⟨by rw [c1]; exact t5, ?_⟩, fun e => absurd rfl e⟩
      rw [show hI h8 r2 8 = ii kd from hI_e (by rw [c4 r2 (fun e => n1 e.symm)]; exact e8), ii_sub]
      exact qX gx kd wh e h8 f8 g8
    · obtain ⟨t5, t53⟩ := RD_5 r5
      have s5 : stat ad h5 := st_fr s (wn_fr fr4 w5)
      refine ⟨st_t s5 (by decide), fun h7 x7 => ⟨by rw [x7]; exact t5, by rw [x7]; exact st_t s5 (by decide), fun h8 x8 => ?_⟩⟩
      obtain ⟨⟨f8, g8⟩, ⟨c1, c2, c3⟩, c4⟩ := fin w5 r5.2.1 (by omega) (by omega) h7 h8 x7 x8
      have s8 := st_fr s f8
      refine ⟨fun e => by rw [ii_eq (by omega) (by omega) (by omega) (by omega)] at e; omega, fun _ => ?_⟩
      refine fun r9 _ q9 h10 x10 => ?_
      have f10 : fx r9 h8 h10 := by rw [x10]; exact fx_nw q9 7 0
      have t10 : ht h10 r9 = 7 := by rw [x10]; exact nw_t _ _ _ _
      have z10 : gv h10 r9 2 = 0 := by rw [x10]; exact nw_g _ _ _ _ _
      clear x10
      have n29 : r2 ≠ r9 := ne_ht (h := h8) (by rw [c1, t5]; decide) q9
      have k10 := fx_c f10 (x := r2) (by rw [c1, t5]; decide) n29
      have nst5 := r5.2.2.1
      have nn8 : nst ad h8 (hR h5 r2 7) m' o' w' H' L' := by
        have n1' : fx (ad 1) h5 h8 := fun y _ => ⟨⟨by rw [c1], by rw [c2]⟩, fun hy => ⟨c4 y hy, by rw [x8, x7]; rfl, by rw [c3]⟩⟩
        exact nst_fx n1' (by rw [st_t s5 (by decide)]; decide) (by rw [st_t s5 (by decide)]; decide) nst5
      have nn10 : nst ad h10 (hR h5 r2 7) m' o' w' H' L' := nst_fx f10 (by rw [q9]; decide) (by rw [q9]; decide) nn8
      have hr10 : hR h10 r2 7 = hR h5 r2 7 := by rw [k10.2.2.2, c3]
      refine ⟨by rw [k10.1, c1]; exact t5, t10, ?_⟩
      rw [hr10]
      refine k_stateInit ok t10 z10 nn10 v'.2 (fun h11 f11 k11 R11 => ?_)
      have hb9 : ht h r9 = 0 := by
        by_cases gg : ht h r9 = 0
        · exact gg
        · have := (f8 r9 gg).1
          rw [q9] at this
          exact absurd this.symm gg
      have f811 : fx r9 h8 h11 := fx_tr f10 f11
      have fr11 : fr ad pH f0 false h h11 := fx_fr f8 f811 hb9
      have fr11' : fr ad pH f0 true h h11 := fr_mono (fun _ e => e) (fun _ e => e) (fun _ => rfl) fr11
      have s11 := st_fr s fr11
      refine ⟨st_t s11 (by decide), fun h12 x12 => ?_⟩
      have f12 : fr ad pH f0 true h h12 := by rw [x12]; exact fr_hsR13 fr11' _
      have s12 := st_fr s f12
      refine ⟨st_t s12 (by decide), fun h13 x13 => ?_⟩
      have f13 : fr ad pH f0 true h h13 := by rw [x13]; exact fr_sI f12 rfl
      have s13 := st_fr s f13
      have R13 : hR h13 (ad 1) 3 = r9 := by rw [x13, x12]; exact hR_sR _ _ _ _
      have n19 : ad 1 ≠ r9 := ne_ht (h := h) (st_0 s (by decide)) hb9
      have n69 : ad 6 ≠ r9 := ne_ht (h := h) (st_0 s (by decide)) hb9
      have q1 := fx_c f811 (x := ad 1) (st_0 s8 (by decide)) n19
      have q6 := fx_c f811 (x := ad 6) (st_0 s8 (by decide)) n69
      have f1113 : fx (ad 1) h11 h13 := by rw [x13, x12]; exact fx_tr (fx_sR _ _) (fx_sI _ _)
      have t1 : ht h11 (ad 1) = 8 := st_t s11 (by decide)
      have c13 : cst ad h13 r9 m' o' w' H' L' := by
        obtain ⟨a0, a1, a2, a3, a4, a5⟩ := id k11
        have e9 := fx_c f1113 (x := r9) (by rw [a0]; decide) (fun e => n19 e.symm)
        have e1 := fx_c f1113 (x := hR h11 r9 1) (by rw [a2]; decide) (ne_tg (h := h11) (by rw [a2, t1]; decide))
        unfold cst
        rw [e9.1, e9.2.2.2, e9.2.2.1, e1.1, e1.2.1]
        exact ⟨a0, nst_fx f1113 (by rw [t1]; decide) (by rw [t1]; decide) a1, a2, a3, a4, fun p p0 p1 => by rw [v'.2] at p1; omega⟩
      have nst13 := c13.2.1
      have r90 : hR h13 r9 0 = hR h11 r9 0 := by rw [(fx_c f1113 (x := r9) (by rw [k11.1]; decide) (fun e => n19 e.symm)).2.2.2]
      rw [R13]
      refine ⟨st_t s13 (by decide), c13.1, nst13.1, ?_⟩
      rw [show hI h13 (hR h13 r9 0) 1 = ii L' from hI_e nst13.2.2.1]
      refine qY gx H' m' o' w' L' e v' h13 ⟨f13, ?_, ?_, by rw [R13]; exact c13⟩
      · rw [x13, gv_sIi (by omega) (by omega), x12, gv_sR, q1.2.2.1, g8]; rfl
      · rw [x13, hR_sI, x12, hR_sRn (st_ne s (by decide) (by decide) (by decide)), q6.2.2.2, c3]
        have a := (w5 (ad 6)).2.2.1
        have b := ((f4 (ad 6) (st_0 s (by decide))).2 (ne_ht (h := h) (st_0 s (by decide)) q2)).2.2
        rw [a, b]
  have Nr := gv_rg h (ad 1) 1
  rw [hN] at Nr
  have i1 : hI h (ad 1) 1 = ii N := hI_e hN
  rw [W_X7_text, i1, ii_lt x0 x1 (by omega) (by omega), ii_le x0 x1 (by omega) (by omega)]
  exact ⟨fun e => bad (by omega), fun e => ⟨st_t s (by decide), fun e2 => good (by omega), fun e2 => bad (by omega)⟩⟩
end KTY
