/-! TEXT: the class's reader, lines -/
section RD4
variable {E : tr_Env} {ad : Nat → Nat} {hb h h0 h1 h2 : tr_H} {Q : tr_Q} {t m one two m' o' w' : Int → Int} {n s p H L H' L' a b : Int} {q w : Nat}
theorem lkb_lb : ∀ (k : Nat) (i : Int), lkb one two a b i k = lb one two a b k i
  | 0, i => rfl
  | k + 1, i => by
    unfold lkb lb
    rw [lkb_lb k (i + 1)]
theorem k_lbw (ok : tr_ok E) (r : RD hb ad h q t n p m one two H L) (v : vk m one two H L) (a0 : 0 ≤ a) (a1 : a < H) (b0 : 0 ≤ b) (b1 : b < H) (f : Q (.inl (some (.inl (ii (lbw one two L a b))))) h) : tr_C E 30 [.inr (.inr (hR h q 7)), .inl (ii a), .inl (ii b)] h Q := by
  have vH := v_H v.1
  have vL := v_L v.1
  refine k_linkBetween ok r.2.2.1 vL.1 vL.2 (fun l l0 l1 => ?_) a0 (by omega) b0 (by omega) ?_
  · have := v_l v.1 l0 l1; omega
  · rw [lkb_lb]; exact f
theorem nst_add (w : nst ad h q m one two H L) (o : own hb h q) (o23 : hR h q 2 ≠ hR h q 3) (L0 : 0 ≤ L) (L1 : L < 24) (a0 : 0 ≤ a) (a1 : a < 100) (b0 : 0 ≤ b) (b1 : b < 100) (bz : bt (m 0) L = false) : nst ad (hsI (hsI (hsI (hsI h (hR h q 2) L.toNat (ii a)) (hR h q 3) L.toNat (ii b)) (hR h q 4) L.toNat (ii 1)) q 1 (ii (L + 1))) q m (ud one L a) (ud two L b) H (L + 1) := by
  obtain ⟨⟨o1, o2, o3⟩, ⟨o4, o5, o6⟩, o7, o8, o9⟩ := own_d o
  obtain ⟨n0, n1, n2, ⟨sa, sb, sc⟩, ⟨ea, eb, ec⟩, ⟨ua, ub, uc⟩, ⟨ra, rb, rc⟩, ⟨ga, gb, g0, g1, g2, g3, g4⟩, d⟩ := w
  have q2 : hR h q 2 ≠ q := ne_tg (h := h) (by rw [n0, sa]; decide)
  have q3 : hR h q 3 ≠ q := ne_tg (h := h) (by rw [n0, ea]; decide)
  have q4 : hR h q 4 ≠ q := ne_tg (h := h) (by rw [n0, ua]; decide)
  have q5 : hR h q 5 ≠ q := ne_tg (h := h) (by rw [n0, ra]; decide)
  have q6 : hR h q 6 ≠ q := ne_tg (h := h) (by rw [n0, ga]; decide)
  have lt : (L.toNat : Int) = L := Int.toNat_of_nonneg L0
  unfold nst
  simp only [hR_sI, ht_sI, hn_sI]
  have G0 : gv (hsI (hsI (hsI (hsI h (hR h q 2) L.toNat (ii a)) (hR h q 3) L.toNat (ii b)) (hR h q 4) L.toNat (ii 1)) q 1 (ii (L + 1))) q = ud (gv h q) 1 (L + 1) := by
    rw [gv_sIi (by omega) (by omega), gv_sIn (fun e => q4 e.symm), gv_sIn (fun e => q3 e.symm), gv_sIn (fun e => q2 e.symm)]; rfl
  have G2 : gv (hsI (hsI (hsI (hsI h (hR h q 2) L.toNat (ii a)) (hR h q 3) L.toNat (ii b)) (hR h q 4) L.toNat (ii 1)) q 1 (ii (L + 1))) (hR h q 2) = ud (gv h (hR h q 2)) L a := by
    rw [gv_sIn q2, gv_sIn o4, gv_sIn o23, gv_sIi (by omega) (by omega), lt]
  have G3 : gv (hsI (hsI (hsI (hsI h (hR h q 2) L.toNat (ii a)) (hR h q 3) L.toNat (ii b)) (hR h q 4) L.toNat (ii 1)) q 1 (ii (L + 1))) (hR h q 3) = ud (gv h (hR h q 3)) L b := by
    rw [gv_sIn q3, gv_sIn o7, gv_sIi (by omega) (by omega), gv_sIn (fun e => o23 e.symm), lt]
  have G4 : gv (hsI (hsI (hsI (hsI h (hR h q 2) L.toNat (ii a)) (hR h q 3) L.toNat (ii b)) (hR h q 4) L.toNat (ii 1)) q 1 (ii (L + 1))) (hR h q 4) = ud (gv h (hR h q 4)) L 1 := by
    rw [gv_sIn q4, gv_sIi (by omega) (by omega), gv_sIn (fun e => o7 e.symm), gv_sIn (fun e => o4 e.symm), lt]
  have G5 : gv (hsI (hsI (hsI (hsI h (hR h q 2) L.toNat (ii a)) (hR h q 3) L.toNat (ii b)) (hR h q 4) L.toNat (ii 1)) q 1 (ii (L + 1))) (hR h q 5) = gv h (hR h q 5) := by
    rw [gv_sIn q5, gv_sIn (fun e => o1 e.symm), gv_sIn (fun e => o8 e.symm), gv_sIn (fun e => o5 e.symm)]
  have G6 : gv (hsI (hsI (hsI (hsI h (hR h q 2) L.toNat (ii a)) (hR h q 3) L.toNat (ii b)) (hR h q 4) L.toNat (ii 1)) q 1 (ii (L + 1))) (hR h q 6) = gv h (hR h q 6) := by
    rw [gv_sIn q6, gv_sIn (fun e => o2 e.symm), gv_sIn (fun e => o9 e.symm), gv_sIn (fun e => o6 e.symm)]
  rw [G0, G2, G3, G4, G5, G6]
  refine ⟨n0, (ud_ne (by decide)).trans n1, ud_eq _ _ _, ⟨sa, sb, fun l l0 l1 => ?_⟩, ⟨ea, eb, fun l l0 l1 => ?_⟩, ⟨ua, ub, fun l l0 l1 => ?_⟩, ⟨ra, rb, rc⟩, ⟨ga, gb, g0, g1, g2, g3, g4⟩, d⟩
  · by_cases e : l = L
    · rw [e, ud_eq, ud_eq]
    · rw [ud_ne e, ud_ne e]; exact sc l l0 (by omega)
  · by_cases e : l = L
    · rw [e, ud_eq, ud_eq]
    · rw [ud_ne e, ud_ne e]; exact ec l l0 (by omega)
  · by_cases e : l = L
    · rw [e, ud_eq, bz]; rfl
    · rw [ud_ne e]; exact uc l l0 (by omega)
theorem k_add (ok : tr_ok E) (r : RD hb ad h q t n p m one two H L) (L0 : 0 ≤ L) (L1 : L < 24) (a0 : 0 ≤ a) (a1 : a < 100) (b0 : 0 ≤ b) (b1 : b < 100) (f : ∀ h', wn hb h h' → RD hb ad h' q t n p m (ud one L a) (ud two L b) H (L + 1) → Q (.inl none) h') : tr_C E 29 [.inr (.inr (hR h q 7)), .inl (ii a), .inl (ii b)] h Q := by
  refine T_X2_addLink ok ?_
  obtain ⟨⟨s, c0, c1, c2, c3, c4, c5, c6, c7⟩, e9, nn, ⟨o0, o1, o2, o3, o4⟩, bz⟩ := id r
  obtain ⟨n0, n1, n2, ⟨sa, sb, sc⟩, ⟨ea, eb, ec⟩, ⟨ua, ub, uc⟩, -⟩ := id nn
  have q2 : hR h q 7 ≠ hR h (hR h q 7) 2 := ne_tg (h := h) (by rw [n0, sa]; decide)
  have q3 : hR h q 7 ≠ hR h (hR h q 7) 3 := ne_tg (h := h) (by rw [n0, ea]; decide)
  have q4 : hR h q 7 ≠ hR h (hR h q 7) 4 := ne_tg (h := h) (by rw [n0, ua]; decide)
  have na := nst_add (a := a) (b := b) nn o1 o4 L0 L1 a0 a1 b0 b1 (bz L (by omega) L1)
  have d2 : q ≠ hR h (hR h q 7) 2 := ne_tg (h := h) (by rw [c0, sa]; decide)
  have d3 : q ≠ hR h (hR h q 7) 3 := ne_tg (h := h) (by rw [c0, ea]; decide)
  have d4 : q ≠ hR h (hR h q 7) 4 := ne_tg (h := h) (by rw [c0, ua]; decide)
  have d7 : q ≠ hR h q 7 := ne_tg (h := h) (by rw [c0, n0]; decide)
  have m2 : ad 5 ≠ hR h (hR h q 7) 2 := ne_tg (h := h) (by rw [st_t s (by decide), sa]; decide)
  have m3 : ad 5 ≠ hR h (hR h q 7) 3 := ne_tg (h := h) (by rw [st_t s (by decide), ea]; decide)
  have m4 : ad 5 ≠ hR h (hR h q 7) 4 := ne_tg (h := h) (by rw [st_t s (by decide), ua]; decide)
  have m7 : ad 5 ≠ hR h q 7 := ne_tg (h := h) (by rw [st_t s (by decide), n0]; decide)
  have gq : gv (hsI (hsI (hsI (hsI h (hR h (hR h q 7) 2) L.toNat (ii a)) (hR h (hR h q 7) 3) L.toNat (ii b)) (hR h (hR h q 7) 4) L.toNat (ii 1)) (hR h q 7) 1 (ii (L + 1))) q = gv h q := by
    rw [gv_sIn d7, gv_sIn d4, gv_sIn d3, gv_sIn d2]
  have g5 : gv (hsI (hsI (hsI (hsI h (hR h (hR h q 7) 2) L.toNat (ii a)) (hR h (hR h q 7) 3) L.toNat (ii b)) (hR h (hR h q 7) 4) L.toNat (ii 1)) (hR h q 7) 1 (ii (L + 1))) (ad 5) = gv h (ad 5) := by
    rw [gv_sIn m7, gv_sIn m4, gv_sIn m3, gv_sIn m2]
  have fin := f _ (wn_tr (wn_sI (h := h) (k := L.toNat) (v := ii a) o2) (wn_tr (wn_sI (k := L.toNat) (v := ii b) o3) (wn_tr (wn_sI (k := L.toNat) (v := ii 1) o1.2.1) (wn_sI (k := 1) (v := ii (L + 1)) o1.1)))) ⟨⟨s, c0, c1, by rw [gq]; exact c2, by rw [gq]; exact c3, by rw [g5]; exact c4, c5, c6, c7⟩, by rw [gq]; exact e9, na, ⟨o0, o1, o2, o3, o4⟩, fun l l0 l1 => bz l (by omega) l1⟩
  have i0 : hI h (hR h q 7) 1 = ii L := hI_e n2
  have ix : ixn (ii L) = L.toNat := ixn_ii (by omega) (by omega)
  refine ⟨n0, fun g => ⟨n0, n0, sa, ?_, fun h1 x1 => ?_⟩, fun g => ?_⟩
  · rw [i0, ixo_ii (by omega) (by omega), sb]; omega
  · rw [i0, ix] at x1
    have i1 : hI h1 (hR h q 7) 1 = ii L := hI_e (by rw [x1, gv_sIn q2]; exact n2)
    refine ⟨by rw [x1]; exact n0, by rw [x1]; exact n0, by rw [x1]; exact ea, ?_, fun h2 x2 => ?_⟩
    · rw [i1, ixo_ii (by omega) (by omega), x1, hR_sI, hn_sI, eb]; omega
    · rw [i1, ix, x1, hR_sI] at x2
      have i2 : hI h2 (hR h q 7) 1 = ii L := hI_e (by rw [x2, gv_sIn q3, gv_sIn q2]; exact n2)
      refine ⟨by rw [x2]; exact n0, by rw [x2]; exact n0, by rw [x2]; exact ua, ?_, fun h3 x3 => ?_⟩
      · rw [i2, ixo_ii (by omega) (by omega), x2, hR_sI, hn_sI, hR_sI, hn_sI, ub]; omega
      · rw [i2, ix, x2, hR_sI, hR_sI] at x3
        have i3 : hI h3 (hR h q 7) 1 = ii L := hI_e (by rw [x3, gv_sIn q4, gv_sIn q3, gv_sIn q2]; exact n2)
        refine ⟨by rw [x3]; exact n0, by rw [x3]; exact n0, fun h4 x4 => ?_⟩
        rw [i3, ii_add, x3] at x4
        rw [x4]
        exact fin
  · rw [i0, ii_lt (by omega) (by omega) (by omega) (by omega)] at g; omega
end RD4
