/-! WHAT HOLDS BETWEEN THE CALLS -/
def bk (ad : Nat → Nat) (h : tr_H) (i : Nat) (z : Int) : Int := gv h (ad 27) (867 * i + z)
def JI (ad : Nat → Nat) (h : tr_H) (m one two : Int → Int) (H L u : Int) : Prop := mst ad h m one two H L ∧ vok m one two H L ∧ kst ad h m one two H L ∧ his ad h ∧ (gv h (ad 1) 5 = u ∧ gv h (ad 23) 9 = u ∧ 0 ≤ u ∧ u ≤ 12) ∧ (∀ i : Nat, (i : Int) < u → cst ad h (hR h (ad 6) i) (bk ad h i) one two H L ∧ vok (bk ad h i) one two H L) ∧ (gv h (ad 1) 1 = gv h (ad 23) 14 ∧ 0 ≤ gv h (ad 1) 1 ∧ gv h (ad 1) 1 ≤ 400) ∧ (∀ z, gv h (ad 32) z = gv h (ad 5) z ∧ byx (gv h (ad 5) z) = gv h (ad 5) z) ∧ gv h (ad 1) 2 = gv h (ad 23) 20
def RF (ad : Nat → Nat) (h : tr_H) : Prop := ∀ z, 0 ≤ z → z ≤ 2 → gv h (ad 7) z = gv h (ad 24) z
section JIS
variable {ad : Nat → Nat} {h h1 h2 : tr_H} {m m' one two : Int → Int} {H L u : Int} {P : Nat → Bool} {F : Int → Bool}
theorem his_fr (s : stat ad h) (hh : his ad h) (f : fr ad P F false h h1) : his ad h1 := fun i hi => by
  have e := (f (ad 6) (st_0 s (by decide))).2.2.2 i (fun e => by cases e)
  rw [e]
  rcases hh i hi with q | q
  · exact Or.inl q
  · exact Or.inr ((f _ (by rw [q]; decide)).1.trans q)
theorem JI_fr (J : JI ad h m one two H L u) (f : fr ad P F false h h1) (hP : ∀ j, P j = true → j < 42) (c1 : P 1 = false) (c5 : P 5 = false) (c23 : P 23 = false) (c25 : P 25 = false) (c27 : P 27 = false) (c28 : P 28 = false) (c29 : P 29 = false) (c32 : P 32 = false) (d9 : F 9 = false) (d10 : F 10 = false) (d11 : F 11 = false) (d14 : F 14 = false) (d20 : F 20 = false) : JI ad h1 m one two H L u := by
  obtain ⟨j1, j2, j3, j4, ⟨j5, j6, j7, j8⟩, j9, ⟨ja, jb, jc⟩, jd, je⟩ := J
  have s := j1.1
  have a1 : gv h1 (ad 1) = gv h (ad 1) := fr_gv s f (by decide) (by decide) c1 hP
  have a5 : gv h1 (ad 5) = gv h (ad 5) := fr_gv s f (by decide) (by decide) c5 hP
  have a27 : gv h1 (ad 27) = gv h (ad 27) := fr_gv s f (by decide) (by decide) c27 hP
  have a32 : gv h1 (ad 32) = gv h (ad 32) := fr_gv s f (by decide) (by decide) c32 hP
  have r6 : ∀ i, hR h1 (ad 6) i = hR h (ad 6) i := fun i => (f (ad 6) (st_0 s (by decide))).2.2.2 i (fun e => by cases e)
  have eb : ∀ i, bk ad h1 i = bk ad h i := fun i => by funext z; unfold bk; rw [a27]
  refine ⟨mst_fr j1 f hP c25 c28 c29 c23 d10 d11, j2, kst_fr j3 f hP, his_fr s j4 f, ⟨by rw [a1]; exact j5, (fr_gf s f c23 hP d9).trans j6, j7, j8⟩, fun i hi => ?_, ⟨by rw [a1, fr_gf s f c23 hP d14]; exact ja, by rw [a1]; exact jb, by rw [a1]; exact jc⟩, fun z => by rw [a32, a5]; exact jd z, by rw [a1, fr_gf s f c23 hP d20]; exact je⟩
  rw [r6, eb]
  exact ⟨cst_fr s f hP (j9 i hi).1, (j9 i hi).2⟩
theorem JI_C (J : JI ad h m one two H L u) (f : fr ad pC f0 false h h1) : JI ad h1 m one two H L u := JI_fr J f pC_lt rfl rfl rfl rfl rfl rfl rfl rfl rfl rfl rfl rfl rfl
theorem JI_M (J : JI ad h m one two H L u) (f : fr ad pM fM false h h1) : JI ad h1 m one two H L u := JI_fr J f pM_lt rfl rfl rfl rfl rfl rfl rfl rfl rfl rfl rfl rfl rfl
def p7 (i : Nat) : Bool := Nat.beq i 7
theorem p7_lt (j : Nat) (h : p7 j = true) : j < 42 := by
  have := Nat.eq_of_beq_eq_true h
  omega
theorem fr_rfz {k : Nat} : fr ad p7 f0 false h (rfz ad h k) := fr_sIs rfl
theorem JI_R (J : JI ad h m one two H L u) (k : Nat) : JI ad (rfz ad h k) m one two H L u := JI_fr J fr_rfz p7_lt rfl rfl rfl rfl rfl rfl rfl rfl rfl rfl rfl rfl rfl
theorem RF_C (s : stat ad h) (r : RF ad h) (f : fr ad pC f0 false h h1) : RF ad h1 := fun z z0 z1 => by
  rw [fr_gv s f (by decide) (by decide) rfl pC_lt, fr_gv s f (by decide) (by decide) rfl pC_lt]; exact r z z0 z1
theorem RF_M (s : stat ad h) (r : RF ad h) {k : Int} (f : mpo ad h 0 k h1) : RF ad h1 := fun z z0 z1 => by
  rw [f.2.2, if_pos rfl, fr_gv s f.1 (by decide) (by decide) rfl pM_lt]; exact r z z0 z1
/-- a refusal, told by both -/
theorem RF_R (s : stat ad h) (r : RF ad h) {c : Int} {k : Nat} (hc : c ≠ 0) (k2 : k ≤ 2) (f : mpo ad (rfz ad h k) c k h1) : RF ad h1 := fun z z0 z1 => by
  have s1 : stat ad (rfz ad h k) := s
  have e24 : gv (rfz ad h k) (ad 24) = gv h (ad 24) := gv_sIn (st_ne s (by decide) (by decide) (by decide))
  have e7 : gv (rfz ad h k) (ad 7) = ud (gv h (ad 7)) k (ii (gv h (ad 7) k + 1)).toInt := gv_sI _ _ _ _
  rw [f.2.2, if_neg hc, fr_gv s1 f.1 (by decide) (by decide) rfl pM_lt, e24, e7]
  have rk := r k (by omega) (by omega)
  by_cases g : z = k
  · rw [g, ud_eq, ud_eq, rk]
  · rw [ud_ne g, ud_ne g]; exact r z z0 z1
/-- a change, made by both -/
theorem JI_P (J : JI ad h m one two H L u) (v' : vok m' one two H L) (a : KP ad h m' one two H L u h1) (b : MP ad h1 m m' u h2) : JI ad h2 m' one two H L (nxU u) := by
  obtain ⟨j1, j2, j3, j4, ⟨j5, j6, j7, j8⟩, j9, ⟨ja, jb, jc⟩, jd, je⟩ := J
  obtain ⟨fa, a1, a6, ac⟩ := a
  obtain ⟨fb, b0, b9, b27, b25⟩ := b
  have s := j1.1
  have s1 := st_fr s fa
  have s2 := st_fr s1 fb
  have p1 := pH_lt
  have e1 : gv h2 (ad 1) = ud (gv h (ad 1)) 5 (nxU u) := (fr_gv s1 fb (by decide) (by decide) rfl pW_lt).trans a1
  have g5 : gv h2 (ad 5) = gv h (ad 5) := (fr_gv s1 fb (by decide) (by decide) rfl pW_lt).trans (fr_gv s fa (by decide) (by decide) rfl p1)
  have g32 : gv h2 (ad 32) = gv h (ad 32) := (fr_gv s1 fb (by decide) (by decide) rfl pW_lt).trans (fr_gv s fa (by decide) (by decide) rfl p1)
  have g28 : gv h2 (ad 28) = gv h (ad 28) := (fr_gv s1 fb (by decide) (by decide) rfl pW_lt).trans (fr_gv s fa (by decide) (by decide) rfl p1)
  have g29 : gv h2 (ad 29) = gv h (ad 29) := (fr_gv s1 fb (by decide) (by decide) rfl pW_lt).trans (fr_gv s fa (by decide) (by decide) rfl p1)
  have k27 : gv h1 (ad 27) = gv h (ad 27) := fr_gv s fa (by decide) (by decide) rfl p1
  have g23 : ∀ z, fW z = false → gv h2 (ad 23) z = gv h (ad 23) z := fun z e => (fr_gf s1 fb rfl pW_lt e).trans (fr_gf s fa rfl p1 rfl)
  have n0 : 0 ≤ nxU u ∧ nxU u ≤ 12 := by unfold nxU; split <;> omega
  have R2 : ∀ k, hR h2 (ad 1) k = hR h1 (ad 1) k := fun k => (fb (ad 1) (st_0 s1 (by decide))).2.2.2 k (fun e => by cases e)
  have R6 : ∀ k, hR h2 (ad 6) k = hR h1 (ad 6) k := fun k => (fb (ad 6) (st_0 s1 (by decide))).2.2.2 k (fun e => by cases e)
  obtain ⟨q0, q1, q2, q3, q4, q5⟩ := j1
  have to2 : ∀ {x : Nat} {g : Int → Int}, cst ad h x g one two H L → cst ad h2 x g one two H L := fun c => cst_fr s1 fb pW_lt (cst_fr s fa p1 c)
  have new : ∀ {x : Nat} {g : Int → Int} {i : Nat}, cst ad h x g one two H L → vok g one two H L → (∀ z, 0 ≤ z → z < 867 → g z = bk ad h2 i z) → cst ad h2 x (bk ad h2 i) one two H L ∧ vok (bk ad h2 i) one two H L := fun c v e => ⟨cst_e e v (to2 c), vok_e e v⟩
  refine ⟨⟨s2, b25, by rw [g28]; exact q2, by rw [g29]; exact q3, by rw [g23 10 rfl]; exact q4, by rw [g23 11 rfl]; exact q5⟩, v', ⟨s2, by rw [R2]; exact cst_fr s1 fb pW_lt ac⟩, fun i hi => ?_, ⟨by rw [e1]; exact ud_eq _ _ _, b9, n0.1, n0.2⟩, fun i hi => ?_, ⟨by rw [e1, ud_ne (by decide), g23 14 rfl]; exact ja, by rw [e1, ud_ne (by decide)]; exact jb, by rw [e1, ud_ne (by decide)]; exact jc⟩, fun z => by rw [g32, g5]; exact jd z, by rw [e1, ud_ne (by decide), g23 20 rfl]; exact je⟩
  · rw [R6, a6 i hi]
    have lv : ∀ x, ht h x = 7 → ht h2 x = 7 := fun x hx => by
      have a := (fa x (by rw [hx]; decide)).1.trans hx
      exact (fb x (by rw [a]; decide)).1.trans a
    have hc := j3.2.1
    unfold hisN
    have old : ∀ j, j < 12 → hR h (ad 6) j = 0 ∨ ht h2 (hR h (ad 6) j) = 7 := fun j hj => (j4 j hj).imp id (lv _)
    split
    · split
      · exact Or.inr (lv _ hc)
      · split
        · exact old _ (by omega)
        · exact old _ hi
    · split
      · exact Or.inr (lv _ hc)
      · exact old _ hi
  · have i12 : i < 12 := by omega
    have bz : ∀ z, 0 ≤ z → z < 867 → bk ad h2 i z = bkN (gv h (ad 27)) u m i z := fun z z0 z1 => by
      unfold bk; rw [b27 i z (by omega) hi z0 z1, k27]
    rw [R6, a6 i i12]
    unfold hisN
    unfold nxU at hi
    by_cases g : u = 12
    · rw [if_pos g] at hi ⊢
      by_cases g2 : i = 11
      · rw [if_pos g2]
        refine new j3.2 j2 (fun z z0 z1 => ?_)
        rw [bz z z0 z1]; unfold bkN
        rw [if_pos g, if_pos (by omega)]
      · rw [if_neg g2, if_pos (by omega)]
        obtain ⟨c, v⟩ := j9 (i + 1) (by omega)
        refine new c v (fun z z0 z1 => ?_)
        rw [bz z z0 z1]; unfold bkN bk
        rw [if_pos g, if_neg (by omega), show ((i + 1 : Nat) : Int) = (i : Int) + 1 by omega]
    · rw [if_neg g] at hi ⊢
      by_cases g2 : (i : Int) = u
      · rw [if_pos g2]
        refine new j3.2 j2 (fun z z0 z1 => ?_)
        rw [bz z z0 z1]; unfold bkN
        rw [if_neg g, if_pos g2]
      · rw [if_neg g2]
        obtain ⟨c, v⟩ := j9 i (by omega)
        refine new c v (fun z z0 z1 => ?_)
        rw [bz z z0 z1]; unfold bkN bk
        rw [if_neg g, if_neg g2]
theorem RF_P (s : stat ad h) (r : RF ad h) (a : KP ad h m' one two H L u h1) (b : MP ad h1 m m' u h2) : RF ad h2 := fun z z0 z1 => by
  have s1 := st_fr s a.1
  rw [(fr_gv s1 b.1 (by decide) (by decide) rfl pW_lt).trans (fr_gv s a.1 (by decide) (by decide) rfl pH_lt), (fr_gv s1 b.1 (by decide) (by decide) rfl pW_lt).trans (fr_gv s a.1 (by decide) (by decide) rfl pH_lt)]
  exact r z z0 z1
end JIS
