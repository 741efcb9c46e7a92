/-! HOW IT BEGINS: what holds then -/
def psn (i : Nat) : Nat := match i with
  | 0 => 41
  | 1 => 0
  | 2 => 4
  | 3 => 16
  | 4 => 20
  | 5 => 1
  | 6 => 2
  | 7 => 3
  | _ => if i ≤ 18 then i - 3 else if i ≤ 21 then i - 2 else i - 1
def bTT : List (Nat × Nat) := [(8, 0), (12, 400), (15, 12), (11, 3), (2, 0), (11, 10), (11, 24), (11, 520), (11, 520), (11, 520), (11, 520), (11, 40), (11, 40), (11, 40), (11, 520), (13, 40), (1, 0), (11, 40), (11, 40), (11, 64), (6, 0), (11, 997), (9, 0), (11, 3), (11, 867), (11, 867), (11, 10404), (11, 24), (11, 24), (11, 24), (11, 24), (12, 400), (12, 400), (11, 10), (11, 24), (11, 41), (11, 42), (11, 520), (11, 41), (11, 42), (11, 520), (14, 1)]
def bRf : List (Nat × Nat × Nat) := [(0, 0, 1), (0, 4, 2), (0, 6, 3), (4, 0, 5), (4, 1, 6), (4, 4, 7), (4, 5, 8), (4, 6, 9), (4, 7, 10), (4, 11, 11), (4, 12, 12), (4, 13, 13), (4, 14, 14), (4, 15, 15), (0, 7, 4), (16, 0, 17), (16, 1, 18), (16, 2, 19), (0, 8, 16), (20, 0, 21), (0, 9, 20), (22, 1, 23), (22, 2, 24), (22, 3, 25), (22, 4, 26), (22, 5, 27), (22, 6, 28), (22, 7, 29), (22, 8, 30), (22, 12, 31), (22, 13, 32), (22, 23, 33), (22, 24, 34), (22, 26, 35), (22, 27, 36), (22, 28, 37), (22, 29, 38), (22, 30, 39), (22, 31, 40)]
def bG : List (Int → Int) := [(ud (fun _ => 0) 2 (-1)), (fun _ => 0), (fun _ => 0), (fun _ => 0), (fun _ => 0), (fun _ => 0), (fun _ => 0), (fun _ => 0), (fun _ => 0), (fun _ => 0), (fun _ => 0), (fun _ => 0), (fun _ => 0), (fun _ => 0), (fun _ => 0), (fun _ => 0), (fun _ => 0), (fun _ => 0), (fun _ => 0), (fun _ => 0), (fun _ => 0), (fun _ => 0), (ud (ud (fun _ => 0) 10 (2)) 20 (-1)), (fun _ => 0), (clf (fun _ => 0)), (fun _ => 0), (fun _ => 0), (fun _ => 0), (fun _ => 0), (fun _ => 0), (fun _ => 0), (fun _ => 0), (fun _ => 0), (fun _ => 0), (fun _ => 0), (fun _ => 0), (fun _ => 0), (fun _ => 0), (fun _ => 0), (fun _ => 0), (fun _ => 0), (fun _ => 0)]
section BEG
variable {hB h : tr_H} {al : List Nat} {X : Nat}
theorem rf_k {i k : Nat} (e : rf i k < 42) : k < 32 := by
  unfold rf at e
  split at e <;> omega
theorem psn_lt : ∀ i : Fin 42, psn i.val < 42 := by decide +kernel
theorem psn_in : ∀ i j : Fin 42, psn i.val = psn j.val → i = j := by decide +kernel
theorem bTT_ok : ∀ i : Fin 42, bTT.getD (psn i.val) (0, 0) = (tg i.val, ln i.val) := by decide +kernel
theorem bRf_ok : ∀ (i : Fin 42) (k : Fin 32), rf i.val k.val < 42 → (psn i.val, k.val, psn (rf i.val k.val)) ∈ bRf := by decide +kernel
theorem beg_stat (c : cre hB 2 h al bTT bG bRf) (hl : al.length = 42) : stat (fun i => al.getD (psn i) 0) h := by
  obtain ⟨c0, c1, c2, c3, c4⟩ := c
  refine ⟨fun i j hi hj e => ?_, fun i hi => ?_⟩
  · have := c3 (psn i) (psn j) (by rw [hl]; exact psn_lt ⟨i, hi⟩) (by rw [hl]; exact psn_lt ⟨j, hj⟩) e
    exact congrArg Fin.val (psn_in ⟨i, hi⟩ ⟨j, hj⟩ this)
  · obtain ⟨a1, a2, -, -, -⟩ := c2 (psn i) (by rw [hl]; exact psn_lt ⟨i, hi⟩)
    have t := bTT_ok ⟨i, hi⟩
    simp only at t
    rw [t] at a1 a2
    refine ⟨a1, a2, fun k hk => ?_⟩
    have := bRf_ok ⟨i, hi⟩ ⟨k, rf_k hk⟩ hk
    exact (c4 _ this).1
theorem beg_gv (c : cre hB 2 h al bTT bG bRf) (hl : al.length = 42) {i : Nat} (hi : i < 42) : gv h (al.getD (psn i) 0) = bG.getD (psn i) (fun _ => 0) := (c.2.2.1 (psn i) (by rw [hl]; exact psn_lt ⟨i, hi⟩)).2.2.1
theorem beg_dyn (c : cre hB 2 h al bTT bG bRf) (hl : al.length = 42) {h4 : tr_H} (l4 : ht h4 (al.getD 0 0) ≠ 0 ∧ ht h4 (al.getD 1 0) ≠ 0) {x : Nat} (x4 : ht h4 x = 0) (xB : ht hB x ≠ 0) : dyn (fun i => al.getD (psn i) 0) x := by
  intro i hi e
  have pl : psn i < al.length := by rw [hl]; exact psn_lt ⟨i, hi⟩
  have e : x = al.getD (psn i) 0 := e
  by_cases g : 2 ≤ psn i
  · have := (c.2.2.1 (psn i) pl).2.2.2.2 g
    rw [← e] at this
    exact xB this
  · rcases (show psn i = 0 ∨ psn i = 1 by omega) with q | q
    · rw [q] at e; rw [e] at x4; exact l4.1 x4
    · rw [q] at e; rw [e] at x4; exact l4.2 x4
theorem beg_vok : vok (clf (fun _ => 0)) (fun _ => 0) (fun _ => 0) 2 0 := (vk_clf (fun _ => 0) (by decide) (by decide)).1
theorem beg_JI (cc : cry X hB 2 h al bTT bG bRf) (hl : al.length = 42) {h4 : tr_H} (l4 : ht h4 (al.getD 0 0) ≠ 0 ∧ ht h4 (al.getD 1 0) ≠ 0) {r7 : Nat} (o : ht h4 (hR hB r7 2) = 0 ∧ ht h4 (hR hB r7 3) = 0 ∧ ht h4 (hR hB r7 4) = 0 ∧ ht h4 (hR hB r7 5) = 0 ∧ ht h4 (hR hB r7 6) = 0) (k : cst (fun _ => 0) hB X (clf (fun _ => 0)) (fun _ => 0) (fun _ => 0) 2 0) (e7 : hR hB X 0 = r7) (t8 : ht hB (al.getD 0 0) = 8) : JI (fun i => al.getD (psn i) 0) h (clf (fun _ => 0)) (fun _ => 0) (fun _ => 0) 2 0 0 ∧ RF (fun i => al.getD (psn i) 0) h := by
  have c := cc.1
  have s := beg_stat c hl
  have G : ∀ {i : Nat}, i < 42 → gv h (al.getD (psn i) 0) = bG.getD (psn i) (fun _ => 0) := fun hi => beg_gv c hl hi
  have f := c.1
  obtain ⟨a0, a1, a2, a3, a4, a5⟩ := id k
  rw [e7] at a1
  obtain ⟨n0, n1, n2, ⟨sa, sb, sc⟩, ⟨ea, eb, ec⟩, ⟨ua, ub, uc⟩, ⟨ra, rb, rc⟩, ⟨ga, gb, g0, g1, g2, g3, g4⟩, d⟩ := id a1
  have ad1 : nst (fun i => al.getD (psn i) 0) hB r7 (clf (fun _ => 0)) (fun _ => 0) (fun _ => 0) 2 0 := ⟨n0, n1, n2, ⟨sa, sb, sc⟩, ⟨ea, eb, ec⟩, ⟨ua, ub, uc⟩, ⟨ra, rb, rc⟩, ⟨ga, gb, g0, g1, g2, g3, g4⟩, beg_dyn c hl l4 o.1 (by rw [sa]; decide), beg_dyn c hl l4 o.2.1 (by rw [ea]; decide), beg_dyn c hl l4 o.2.2.1 (by rw [ua]; decide), beg_dyn c hl l4 o.2.2.2.1 (by rw [ra]; decide), beg_dyn c hl l4 o.2.2.2.2 (by rw [ga]; decide)⟩
  have nX : X ≠ al.getD 0 0 := ne_tg (h := hB) (by rw [a0, t8]; decide)
  have u5 := fx_c f (x := X) (by rw [a0]; decide) nX
  have u1 := fx_c f (x := hR hB X 1) (by rw [a2]; decide) (ne_tg (h := hB) (by rw [a2, t8]; decide))
  have c' : cst (fun i => al.getD (psn i) 0) h X (clf (fun _ => 0)) (fun _ => 0) (fun _ => 0) 2 0 := by
    unfold cst
    rw [u5.1, u5.2.2.2, u5.2.2.1, u1.1, u1.2.1, e7]
    exact ⟨a0, nst_fx f (by rw [t8]; decide) (by rw [t8]; decide) ad1, a2, a3, a4, fun p p0 p1 => absurd p1 (by have : clf (fun _ => 0) 106 = 0 := rfl; omega)⟩
  have g1' := G (i := 1) (by decide)
  have g23 := G (i := 23) (by decide)
  refine ⟨⟨⟨s, G (i := 25) (by decide), G (i := 28) (by decide), G (i := 29) (by decide), ?_, ?_⟩, beg_vok, ⟨s, ?_⟩, fun i hi => Or.inl (cc.2.2 2 (by rw [hl]; decide) rfl i), ⟨?_, ?_, by decide, by decide⟩, fun i hi => by omega, ⟨?_, ?_, ?_⟩, fun z => ?_, ?_⟩, fun z z0 z1 => ?_⟩
  · exact congrFun g23 10
  · exact congrFun g23 11
  · show cst _ h (hR h (al.getD 0 0) 3) _ _ _ _ _
    rw [cc.2.1]; exact c'
  · exact congrFun g1' 5
  · exact congrFun g23 9
  · exact (congrFun g1' 1).trans (congrFun g23 14).symm
  · rw [show gv h (al.getD (psn 1) 0) 1 = 0 from congrFun g1' 1]; decide
  · rw [show gv h (al.getD (psn 1) 0) 1 = 0 from congrFun g1' 1]; decide
  · rw [show gv h (al.getD (psn 32) 0) z = 0 from congrFun (G (i := 32) (by decide)) z, show gv h (al.getD (psn 5) 0) z = 0 from congrFun (G (i := 5) (by decide)) z]
    decide
  · exact (congrFun g1' 2).trans (congrFun g23 20).symm
  · exact (congrFun (G (i := 7) (by decide)) z).trans (congrFun (G (i := 24) (by decide)) z).symm
end BEG
