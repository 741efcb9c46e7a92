/-! TEXT: what a line makes stays right -/
def vk (m one two : Int → Int) (H L : Int) : Prop := vok m one two H L ∧ m 106 = 0
section TX8
variable {t m one two m' o' w' : Int → Int} {n s p p' H L L' a b k z lo hi : Int}
theorem bl_ge : p ≤ bl t n p := (skp_rg (cB t) n p).1
theorem nE_ge : p ≤ nE t n p := Int.le_trans (bl_ge (t := t) (n := n)) (skp_rg (cD t) n (bl t n p)).1
theorem vk_link (v : vk m one two H L) (h1 : L ≠ 24) (a0 : 0 ≤ a) (a1 : a < H) (b0 : 0 ≤ b) (b1 : b < H) : vk m (ud one L a) (ud two L b) H (L + 1) := by
  obtain ⟨v, e⟩ := v
  obtain ⟨vH, vL, vl, v0, v1, v2, v3, v4, v5, vr, vm, vp⟩ := id v
  refine ⟨⟨vH, by omega, fun l l0 l1 => ?_, v0, v1, v2, v3, v4, v5, fun k k0 k1 => ?_, vm, fun p p0 p1 => by omega⟩, e⟩
  · by_cases c : l = L
    · rw [c, ud_eq, ud_eq]; exact ⟨a0, a1, b0, b1⟩
    · rw [ud_ne c, ud_ne c]; exact vl l l0 (by omega)
  · have := vr k k0 k1
    omega
theorem lnLink_ok (v : vk m one two H L) (e : lnLink t m one two n s p H L = .inr (p', m', o', w', L')) : vk m' o' w' H L' ∧ p ≤ p' := by
  unfold lnLink at e
  by_cases c0 : L = 24
  · rw [if_pos c0] at e; cases e
  rw [if_neg c0] at e
  by_cases c1 : nK t n p 0 (H - 1) ≠ 0
  · rw [if_pos c1] at e; cases e
  rw [if_neg c1] at e
  by_cases c2 : oKd t n (nE t n p) H (nV t n p) ≠ 0
  · rw [if_pos c2] at e; cases e
  rw [if_neg c2] at e
  by_cases c3 : lbw one two L (nV t n p) (nV t n (nE t n p)) ≠ -1
  · rw [if_pos c3] at e; cases e
  rw [if_neg c3] at e
  have r1 := (nK_0.1 (Decidable.not_not.1 c1)).2
  have r2 := (oKd_0.1 (Decidable.not_not.1 c2)).2.1
  cases e
  exact ⟨vk_link v c0 r1.1 (by omega) r2.1 (by omega), Int.le_trans nE_ge nE_ge⟩
theorem lnCut_ok (v : vk m one two H L) (e : lnCut t m one two n p H L = .inr (p', m', o', w', L')) : vk m' o' w' H L' ∧ p ≤ p' := by
  unfold lnCut at e
  by_cases c1 : nK t n p 0 (H - 1) ≠ 0
  · rw [if_pos c1] at e; cases e
  rw [if_neg c1] at e
  by_cases c2 : oKd t n (nE t n p) H (nV t n p) ≠ 0
  · rw [if_pos c2] at e; cases e
  rw [if_neg c2] at e
  by_cases c3 : lbw one two L (nV t n p) (nV t n (nE t n p)) = -1
  · rw [if_pos c3] at e; cases e
  rw [if_neg c3] at e
  have vL := v_L v.1
  have lr := lbw_rg (one := one) (two := two) (L := L) (a := nV t n p) (b := nV t n (nE t n p)) vL.1
  cases e
  exact ⟨⟨vok_l v.1 (by omega) (by omega), by rw [ud_ne (by decide)]; exact v.2⟩, Int.le_trans nE_ge nE_ge⟩
theorem lnRoute_ok (v : vk m one two H L) (e : lnRoute t m one two n p H L = .inr (p', m', o', w', L')) : vk m' o' w' H L' ∧ p ≤ p' := by
  unfold lnRoute at e
  by_cases c1 : nK t n p 0 (H - 1) ≠ 0
  · rw [if_pos c1] at e; cases e
  rw [if_neg c1] at e
  by_cases c2 : oKd t n (nE t n p) H (nV t n p) ≠ 0
  · rw [if_pos c2] at e; cases e
  rw [if_neg c2] at e
  by_cases c4 : oKd t n (nE t n (nE t n p)) H (nV t n p) ≠ 0
  · rw [if_pos c4] at e; cases e
  rw [if_neg c4] at e
  by_cases c3 : lbw one two L (nV t n p) (nV t n (nE t n (nE t n p))) = -1
  · rw [if_pos c3] at e; cases e
  rw [if_neg c3] at e
  have vL := v_L v.1
  have vH := v_H v.1
  have r1 := (nK_0.1 (Decidable.not_not.1 c1)).2
  have r2 := (oKd_0.1 (Decidable.not_not.1 c2)).2.1
  have lr := lbw_rg (one := one) (two := two) (L := L) (a := nV t n p) (b := nV t n (nE t n (nE t n p))) vL.1
  cases e
  have w := vok_r (k := 10 * nV t n p + nV t n (nE t n p)) (x := lbw one two L (nV t n p) (nV t n (nE t n (nE t n p)))) v.1 (by omega) (by omega) (by omega) (by omega)
  rw [show 6 + (10 * nV t n p + nV t n (nE t n p)) = 6 + 10 * nV t n p + nV t n (nE t n p) by omega] at w
  exact ⟨⟨w, by rw [ud_ne (by omega)]; exact v.2⟩, Int.le_trans nE_ge (Int.le_trans nE_ge nE_ge)⟩
theorem vk_set (v : vk m one two H L) {i x : Int} (i0 : i = 1 ∨ i = 4 ∨ i = 5) (h1 : i = 1 → 1 ≤ x ∧ x ≤ 31) (h4 : i = 4 → 0 ≤ x ∧ x < m 2) (h5 : i = 5 → 2 ≤ x ∧ x ≤ 64) : vk (ud m i x) one two H L := by
  obtain ⟨v, e⟩ := v
  obtain ⟨vH, vL, vl, v0, v1, v2, v3, v4, v5, vr, vm, vp⟩ := id v
  have u0 : ud m i x 0 = m 0 := ud_ne (by omega)
  have u2 : ud m i x 2 = m 2 := ud_ne (by omega)
  have u3 : ud m i x 3 = m 3 := ud_ne (by omega)
  have u6 : ud m i x 106 = m 106 := ud_ne (by omega)
  refine ⟨⟨vH, vL, vl, by rw [u0]; exact v0, ?_, by rw [u2]; exact v2, by rw [u2, u3]; exact v3, ?_, ?_, fun k k0 k1 => by rw [ud_ne (by omega)]; exact vr k k0 k1, by rw [u6]; exact vm, fun p p0 p1 => by rw [u6] at p1; omega⟩, by rw [u6]; exact e⟩
  · by_cases c : i = 1
    · have e1 : ud m i x 1 = x := by rw [c]; exact ud_eq _ _ _
      rw [e1]; exact h1 c
    · rw [ud_ne (by omega)]; exact v1
  · rw [u2]
    by_cases c : i = 4
    · rw [← c, ud_eq]; exact h4 c
    · rw [ud_ne (by omega)]; exact v4
  · by_cases c : i = 5
    · rw [← c, ud_eq]; exact h5 c
    · rw [ud_ne (by omega)]; exact v5
theorem lnSet_ok (v : vk m one two H L) {i : Int} (i0 : i = 1 ∨ i = 4 ∨ i = 5) (h1 : i = 1 → 1 ≤ lo ∧ hi ≤ 31) (h4 : i = 4 → 0 ≤ lo ∧ hi < m 2) (h5 : i = 5 → 2 ≤ lo ∧ hi ≤ 64) (e : lnSet t m one two n p L lo hi i = .inr (p', m', o', w', L')) : vk m' o' w' H L' ∧ p ≤ p' := by
  unfold lnSet at e
  by_cases c1 : nK t n p lo hi ≠ 0
  · rw [if_pos c1] at e; cases e
  rw [if_neg c1] at e
  have r1 := (nK_0.1 (Decidable.not_not.1 c1)).2
  cases e
  exact ⟨vk_set v i0 (fun c => by have := h1 c; omega) (fun c => by have := h4 c; omega) (fun c => by have := h5 c; omega), nE_ge⟩
theorem lnBase_ok (v : vk m one two H L) (e : lnBase t m one two n p L = .inr (p', m', o', w', L')) : vk m' o' w' H L' ∧ p ≤ p' := by
  unfold lnBase at e
  by_cases c1 : nK t n p (bse (m 4)) 997 ≠ 0
  · rw [if_pos c1] at e; cases e
  rw [if_neg c1] at e
  by_cases c2 : nK t n (nE t n p) 1 (nV t n p) ≠ 0
  · rw [if_pos c2] at e; cases e
  rw [if_neg c2] at e
  have r1 := (nK_0.1 (Decidable.not_not.1 c1)).2
  have r2 := (nK_0.1 (Decidable.not_not.1 c2)).2
  obtain ⟨v, e6⟩ := v
  obtain ⟨vH, vL, vl, v0, v1, v2, v3, v4, v5, vr, vm, vp⟩ := id v
  have br : m 4 < bse (m 4) ∧ 2 ≤ bse (m 4) := by unfold bse; split <;> omega
  cases e
  have u : ∀ j, j ≠ 2 → j ≠ 3 → ud (ud m 2 (nV t n p)) 3 (nV t n (nE t n p)) j = m j := fun j j2 j3 => by rw [ud_ne j3, ud_ne j2]
  have u2 : ud (ud m 2 (nV t n p)) 3 (nV t n (nE t n p)) 2 = nV t n p := by rw [ud_ne (by decide), ud_eq]
  have u3 : ud (ud m 2 (nV t n p)) 3 (nV t n (nE t n p)) 3 = nV t n (nE t n p) := ud_eq _ _ _
  refine ⟨⟨⟨vH, vL, vl, by rw [u 0 (by decide) (by decide)]; exact v0, by rw [u 1 (by decide) (by decide)]; exact v1, by rw [u2]; omega, by rw [u2, u3]; omega, by rw [u2, u 4 (by decide) (by decide)]; omega, by rw [u 5 (by decide) (by decide)]; exact v5, fun k k0 k1 => by rw [u (6 + k) (by omega) (by omega)]; exact vr k k0 k1, by rw [u 106 (by decide) (by decide)]; exact vm, fun p p0 p1 => by rw [u 106 (by decide) (by decide)] at p1; omega⟩, by rw [u 106 (by decide) (by decide)]; exact e6⟩, Int.le_trans nE_ge nE_ge⟩
theorem lnOne_ok (v : vk m one two H L) (e : lnOne t m one two n s H L = .inr (p', m', o', w', L')) : vk m' o' w' H L' ∧ s ≤ p' := by
  unfold lnOne at e
  by_cases c1 : wdB t n s (tr_txt 1) = true
  · rw [if_pos c1] at e; exact ⟨(lnLink_ok v e).1, by have := (lnLink_ok v e).2; omega⟩
  rw [if_neg c1] at e
  by_cases c2 : wdB t n s (tr_txt 2) = true
  · rw [if_pos c2] at e; exact ⟨(lnCut_ok v e).1, by have := (lnCut_ok v e).2; omega⟩
  rw [if_neg c2] at e
  by_cases c3 : wdB t n s (tr_txt 3) = true
  · rw [if_pos c3] at e; exact ⟨(lnRoute_ok v e).1, by have := (lnRoute_ok v e).2; omega⟩
  rw [if_neg c3] at e
  by_cases c4 : wdB t n s (tr_txt 4) = true
  · rw [if_pos c4] at e; exact ⟨(lnBase_ok v e).1, by have := (lnBase_ok v e).2; omega⟩
  rw [if_neg c4] at e
  by_cases c5 : wdB t n s (tr_txt 5) = true
  · rw [if_pos c5] at e
    have w := lnSet_ok v (by omega) (fun c => by omega) (fun c => by omega) (fun c => by omega) e
    exact ⟨w.1, by have := w.2; omega⟩
  rw [if_neg c5] at e
  by_cases c6 : wdB t n s (tr_txt 6) = true
  · rw [if_pos c6] at e
    have w := lnSet_ok v (by omega) (fun c => by omega) (fun c => by omega) (fun c => by omega) e
    exact ⟨w.1, by have := w.2; omega⟩
  rw [if_neg c6] at e
  by_cases c7 : wdB t n s (tr_txt 7) = true
  · rw [if_pos c7] at e
    have w := lnSet_ok v (by omega) (fun c => by omega) (fun c => by omega) (fun c => by omega) e
    exact ⟨w.1, by have := w.2; omega⟩
  rw [if_neg c7] at e
  cases e
theorem lnE_ok {R : LR} (v : ∀ p' m' o' w' L', R = .inr (p', m', o', w', L') → vk m' o' w' H L' ∧ s ≤ p') (e : lnE t n R = .inr (p', m', o', w', L')) : vk m' o' w' H L' ∧ s + 1 ≤ p' ∧ p' ≤ n := by
  unfold lnE at e
  cases R with
  | inl x => cases e
  | inr y =>
    obtain ⟨q, y2, y3, y4, y5⟩ := y
    have vv := v _ _ _ _ _ rfl
    by_cases c : bl t n q < n ∧ t (bl t n q) = 59
    · have e2 : (Sum.inr (bl t n q + 1, y2, y3, y4, y5) : LR) = .inr (p', m', o', w', L') := (if_pos c).symm.trans e
      have g := bl_ge (t := t) (n := n) (p := q)
      cases e2
      exact ⟨vv.1, by omega, by omega⟩
    · have e2 : (Sum.inl (1, bl t n q) : LR) = .inr (p', m', o', w', L') := (if_neg c).symm.trans e
      cases e2
end TX8
