/-! WHAT HOLDS BETWEEN THE CALLS: undo, feed, text -/
section JI2
variable {ad : Nat → Nat} {h h1 h2 : tr_H} {m m' one two o' w' : Int → Int} {H L u H' L' : Int}
theorem JI_U (J : JI ad h m one two H L u) (u0 : ¬ u = 0) (fa : fr ad pH f0 true h h1) (a1 : gv h1 (ad 1) = ud (gv h (ad 1)) 5 (u - 1)) (a6 : hR h1 (ad 6) = hR h (ad 6)) (a3 : hR h1 (ad 1) 3 = hR h (ad 6) (u - 1).toNat) (fb : fr ad pW fW false h1 h2) (b9 : gv h2 (ad 23) 9 = u - 1) (b27 : gv h2 (ad 27) = gv h1 (ad 27)) (b25 : ∀ z, 0 ≤ z → z < 867 → gv h2 (ad 25) z = gv h1 (ad 27) (867 * (u - 1) + z)) : JI ad h2 (gv h2 (ad 25)) one two H L (u - 1) := by
  obtain ⟨j1, j2, j3, j4, ⟨j5, j6, j7, j8⟩, j9, ⟨ja, jb, jc⟩, jd, je⟩ := J
  have s := j1.1
  have s1 := st_fr s fa
  have s2 := st_fr s1 fb
  have e1 : gv h2 (ad 1) = ud (gv h (ad 1)) 5 (u - 1) := (fr_gv s1 fb (by decide) (by decide) rfl pW_lt).trans a1
  have g5 : gv h2 (ad 5) = gv h (ad 5) := (fr_gv s1 fb (by decide) (by decide) rfl pW_lt).trans (fr_gv s fa (by decide) (by decide) rfl pH_lt)
  have g32 : gv h2 (ad 32) = gv h (ad 32) := (fr_gv s1 fb (by decide) (by decide) rfl pW_lt).trans (fr_gv s fa (by decide) (by decide) rfl pH_lt)
  have g28 : gv h2 (ad 28) = gv h (ad 28) := (fr_gv s1 fb (by decide) (by decide) rfl pW_lt).trans (fr_gv s fa (by decide) (by decide) rfl pH_lt)
  have g29 : gv h2 (ad 29) = gv h (ad 29) := (fr_gv s1 fb (by decide) (by decide) rfl pW_lt).trans (fr_gv s fa (by decide) (by decide) rfl pH_lt)
  have k27 : gv h1 (ad 27) = gv h (ad 27) := fr_gv s fa (by decide) (by decide) rfl pH_lt
  have g23 : ∀ z, fW z = false → gv h2 (ad 23) z = gv h (ad 23) z := fun z e => (fr_gf s1 fb rfl pW_lt e).trans (fr_gf s fa rfl pH_lt rfl)
  have R2 : ∀ k, hR h2 (ad 1) k = hR h1 (ad 1) k := fun k => (fb (ad 1) (st_0 s1 (by decide))).2.2.2 k (fun e => by cases e)
  have R6 : ∀ k, hR h2 (ad 6) k = hR h (ad 6) k := fun k => by rw [← a6]; exact (fb (ad 6) (st_0 s1 (by decide))).2.2.2 k (fun e => by cases e)
  have to2 : ∀ {x : Nat} {g : Int → Int}, cst ad h x g one two H L → cst ad h2 x g one two H L := fun c => cst_fr s1 fb pW_lt (cst_fr s fa pH_lt c)
  have eb : ∀ i, bk ad h2 i = bk ad h i := fun i => by funext z; unfold bk; rw [b27, k27]
  obtain ⟨c, v⟩ := j9 (u - 1).toNat (by omega)
  have em : eqm (bk ad h (u - 1).toNat) (gv h2 (ad 25)) := fun z z0 z1 => by
    rw [b25 z z0 z1, k27]; unfold bk; rw [Int.toNat_of_nonneg (by omega)]
  obtain ⟨q0, q1, q2, q3, q4, q5⟩ := j1
  refine ⟨⟨s2, rfl, by rw [g28]; exact q2, by rw [g29]; exact q3, by rw [g23 10 rfl]; exact q4, by rw [g23 11 rfl]; exact q5⟩, vok_e em v, ⟨s2, by rw [R2, a3]; exact cst_e em v (to2 c)⟩, fun i hi => ?_, ⟨by rw [e1]; exact ud_eq _ _ _, b9, by omega, by omega⟩, fun i hi => ?_, ⟨by rw [e1, ud_ne (by decide), g23 14 rfl]; exact ja, by rw [e1, ud_ne (by decide)]; exact jb, by rw [e1, ud_ne (by decide)]; exact jc⟩, fun z => by rw [g32, g5]; exact jd z, by rw [e1, ud_ne (by decide), g23 20 rfl]; exact je⟩
  · rw [R6]
    rcases j4 i hi with q | q
    · exact Or.inl q
    · have a := (fa _ (by rw [q]; decide)).1.trans q
      exact Or.inr ((fb _ (by rw [a]; decide)).1.trans a)
  · rw [R6, eb]
    obtain ⟨c, v⟩ := j9 i (by omega)
    exact ⟨to2 c, v⟩
theorem by_by (y : Int32) : tr_by (tr_by y) = tr_by y := by
  unfold tr_by
  rw [vp_nar_byte y]
  exact pk_vb y
theorem byx_pb (x j : Int) : byx (pb x j) = pb x j := by
  unfold byx pb
  rw [ii_ti, by_by, by_by]
theorem ud_b {t : Int → Int} {k v : Int} (b : ∀ z, byx (t z) = t z) (bv : byx v = v) : ∀ z, byx (ud t k v z) = ud t k v z := fun z => by
  by_cases e : z = k
  · rw [e, ud_eq]; exact bv
  · rw [ud_ne e]; exact b z
theorem put4_b {t : Int → Int} {n a : Int} (b : ∀ z, byx (t z) = t z) : ∀ z, byx (put4 t n a z) = put4 t n a z := ud_b (ud_b (ud_b (ud_b b (byx_pb _ _)) (byx_pb _ _)) (byx_pb _ _)) (byx_pb _ _)
theorem pTX_lt (j : Nat) (h : pTX j = true) : j < 42 := by
  unfold pTX at h
  rw [Bool.or_eq_true, Bool.or_eq_true] at h
  rcases h with e | e | e
  · exact pN_lt j e
  · exact p33_lt j e
  · exact pO_lt j e
theorem JI_F (J : JI ad h m one two H L u) {n a b c d e : Int} (hn1 : gv h (ad 1) 1 = n) (nn : n + 20 ≤ 400) (ka : KF ad h n a b c d e h1) (kb : MF ad h1 n a b c d e h2) : JI ad h2 m one two H L u := by
  obtain ⟨j1, j2, j3, j4, ⟨j5, j6, j7, j8⟩, j9, ⟨ja, jb, jc⟩, jd, je⟩ := J
  obtain ⟨fa, a5, a1⟩ := ka
  obtain ⟨fb, b32, b23⟩ := kb
  have s := j1.1
  have s1 := st_fr s fa
  have s2 := st_fr s1 fb
  have e1 : gv h2 (ad 1) = ud (gv h (ad 1)) 1 (n + 20) := (fr_gv s1 fb (by decide) (by decide) rfl pTF_lt).trans a1
  have e5 : gv h2 (ad 5) = put20 (gv h (ad 5)) n a b c d e := (fr_gv s1 fb (by decide) (by decide) rfl pTF_lt).trans a5
  have k32 : gv h1 (ad 32) = gv h (ad 32) := fr_gv s fa (by decide) (by decide) rfl pF_lt
  have k23 : ∀ z, gv h1 (ad 23) z = gv h (ad 23) z := fun z => fr_gf s fa rfl pF_lt rfl
  have t5 : gv h (ad 32) = gv h (ad 5) := funext fun z => (jd z).1
  have e32 : gv h2 (ad 32) = gv h2 (ad 5) := by rw [b32, k32, e5, t5]
  have g25 : gv h2 (ad 25) = gv h (ad 25) := (fr_gv s1 fb (by decide) (by decide) rfl pTF_lt).trans (fr_gv s fa (by decide) (by decide) rfl pF_lt)
  have g28 : gv h2 (ad 28) = gv h (ad 28) := (fr_gv s1 fb (by decide) (by decide) rfl pTF_lt).trans (fr_gv s fa (by decide) (by decide) rfl pF_lt)
  have g29 : gv h2 (ad 29) = gv h (ad 29) := (fr_gv s1 fb (by decide) (by decide) rfl pTF_lt).trans (fr_gv s fa (by decide) (by decide) rfl pF_lt)
  have g27 : gv h2 (ad 27) = gv h (ad 27) := (fr_gv s1 fb (by decide) (by decide) rfl pTF_lt).trans (fr_gv s fa (by decide) (by decide) rfl pF_lt)
  have R6 : ∀ k, hR h2 (ad 6) k = hR h (ad 6) k := fun k => ((fb (ad 6) (st_0 s1 (by decide))).2.2.2 k (fun e => by cases e)).trans ((fa (ad 6) (st_0 s (by decide))).2.2.2 k (fun e => by cases e))
  have eb : ∀ i, bk ad h2 i = bk ad h i := fun i => by funext z; unfold bk; rw [g27]
  obtain ⟨q0, q1, q2, q3, q4, q5⟩ := j1
  have x23 : ∀ z, z ≠ 0 → z ≠ 14 → gv h2 (ad 23) z = gv h (ad 23) z := fun z z0 z1 => by rw [b23, ud_ne z1, ud_ne z0]; exact k23 z
  refine ⟨⟨s2, by rw [g25]; exact q1, by rw [g28]; exact q2, by rw [g29]; exact q3, by rw [x23 10 (by decide) (by decide)]; exact q4, by rw [x23 11 (by decide) (by decide)]; exact q5⟩, j2, kst_fr (kst_fr j3 fa pF_lt) fb pTF_lt, his_fr s1 (his_fr s j4 fa) fb, ⟨by rw [e1, ud_ne (by decide)]; exact j5, by rw [x23 9 (by decide) (by decide)]; exact j6, j7, j8⟩, fun i hi => ?_, ⟨by rw [e1, ud_eq, b23, ud_eq], by rw [e1, ud_eq]; omega, by rw [e1, ud_eq]; omega⟩, fun z => ?_, by rw [e1, ud_ne (by decide), x23 20 (by decide) (by decide)]; exact je⟩
  · rw [R6, eb]
    exact ⟨cst_fr s1 fb pTF_lt (cst_fr s fa pF_lt (j9 i hi).1), (j9 i hi).2⟩
  · rw [e32]
    refine ⟨rfl, ?_⟩
    rw [e5]
    unfold put20
    exact put4_b (put4_b (put4_b (put4_b (put4_b (fun z => (jd z).2))))) z
theorem JI_X (J : JI ad h m one two H L u) {wh : Int} (fa : fr ad pH f0 false h h1) (a1 : gv h1 (ad 1) = ud (ud (gv h (ad 1)) 1 0) 2 wh) (fb : fr ad pTY fTY false h1 h2) (b14 : gv h2 (ad 23) 14 = 0) (b20 : gv h2 (ad 23) 20 = wh) : JI ad h2 m one two H L u := by
  obtain ⟨j1, j2, j3, j4, ⟨j5, j6, j7, j8⟩, j9, ⟨ja, jb, jc⟩, jd, je⟩ := J
  have s := j1.1
  have s1 := st_fr s fa
  have s2 := st_fr s1 fb
  have gg : ∀ {i : Nat}, i < 42 → i ≠ 23 → pTY i = false → pH i = false → gv h2 (ad i) = gv h (ad i) := fun hi h23 e1 e2 => (fr_gv s1 fb hi h23 e1 pTY_lt).trans (fr_gv s fa hi h23 e2 pH_lt)
  have e1 : gv h2 (ad 1) = ud (ud (gv h (ad 1)) 1 0) 2 wh := (fr_gv s1 fb (by decide) (by decide) rfl pTY_lt).trans a1
  have x23 : ∀ z, fTY z = false → gv h2 (ad 23) z = gv h (ad 23) z := fun z e => (fr_gf s1 fb rfl pTY_lt e).trans (fr_gf s fa rfl pH_lt rfl)
  have R6 : ∀ k, hR h2 (ad 6) k = hR h (ad 6) k := fun k => ((fb (ad 6) (st_0 s1 (by decide))).2.2.2 k (fun e => by cases e)).trans ((fa (ad 6) (st_0 s (by decide))).2.2.2 k (fun e => by cases e))
  have g27 : gv h2 (ad 27) = gv h (ad 27) := gg (by decide) (by decide) rfl rfl
  have eb : ∀ i, bk ad h2 i = bk ad h i := fun i => by funext z; unfold bk; rw [g27]
  obtain ⟨q0, q1, q2, q3, q4, q5⟩ := j1
  refine ⟨⟨s2, by rw [gg (by decide) (by decide) rfl rfl]; exact q1, by rw [gg (by decide) (by decide) rfl rfl]; exact q2, by rw [gg (by decide) (by decide) rfl rfl]; exact q3, by rw [x23 10 rfl]; exact q4, by rw [x23 11 rfl]; exact q5⟩, j2, kst_fr (kst_fr j3 fa pH_lt) fb pTY_lt, his_fr s1 (his_fr s j4 fa) fb, ⟨by rw [e1, ud_ne (by decide), ud_ne (by decide)]; exact j5, by rw [x23 9 rfl]; exact j6, j7, j8⟩, fun i hi => ?_, ⟨by rw [e1, ud_ne (by decide), ud_eq, b14], by rw [e1, ud_ne (by decide), ud_eq]; omega, by rw [e1, ud_ne (by decide), ud_eq]; omega⟩, fun z => by rw [gg (i := 32) (by decide) (by decide) rfl rfl, gg (i := 5) (by decide) (by decide) rfl rfl]; exact jd z, by rw [e1, ud_eq, b20]⟩
  rw [R6, eb]
  exact ⟨cst_fr s1 fb pTY_lt (cst_fr s fa pH_lt (j9 i hi).1), (j9 i hi).2⟩
theorem cst_o {s : Nat} (c : cst ad h s m one two H L) (m0 : m 106 = 0) (e1 : ∀ l, 0 ≤ l → l < L → one l = o' l) (e2 : ∀ l, 0 ≤ l → l < L → two l = w' l) : cst ad h s m o' w' H L := by
  obtain ⟨c0, n, c2, c3, c4, c5⟩ := c
  obtain ⟨n0, n1, n2, ⟨sa, sb, sc⟩, ⟨ea, eb, ec⟩, n3⟩ := n
  exact ⟨c0, ⟨n0, n1, n2, ⟨sa, sb, fun l l0 l1 => (sc l l0 l1).trans (e1 l l0 l1)⟩, ⟨ea, eb, fun l l0 l1 => (ec l l0 l1).trans (e2 l l0 l1)⟩, n3⟩, c2, c3, c4, fun p p0 p1 => by omega⟩
theorem vok_o (v : vok m one two H L) (e1 : ∀ l, 0 ≤ l → l < L → one l = o' l) (e2 : ∀ l, 0 ≤ l → l < L → two l = w' l) : vok m o' w' H L := by
  obtain ⟨vH, vL, vl, v0, v1, v2, v3, v4, v5, vr, vm, vp⟩ := id v
  exact ⟨vH, vL, fun l l0 l1 => by rw [← e1 l l0 l1, ← e2 l l0 l1]; exact vl l l0 l1, v0, v1, v2, v3, v4, v5, vr, vm, vp⟩
theorem JI_Y (J : JI ad h m one two H L u) (v : vk m' o' w' H' L') (ka : KTZ ad h m' o' w' H' L' h1) (kb : MTX ad h1 H' m' o' w' L' h2) : JI ad h2 (gv h2 (ad 25)) (gv h2 (ad 28)) (gv h2 (ad 29)) H' L' 0 := by
  obtain ⟨j1, j2, j3, j4, ⟨j5, j6, j7, j8⟩, j9, ⟨ja, jb, jc⟩, jd, je⟩ := J
  obtain ⟨fa, a1, a6, ac⟩ := ka
  obtain ⟨fb, b0, b14, b20, b9, b10, b11, b25, b28, b29⟩ := kb
  have s := j1.1
  have s1 := st_fr s fa
  have s2 := st_fr s1 fb
  have gg : ∀ {i : Nat}, i < 42 → i ≠ 23 → pTX i = false → pH i = false → gv h2 (ad i) = gv h (ad i) := fun hi h23 e1 e2 => (fr_gv s1 fb hi h23 e1 pTX_lt).trans (fr_gv s fa hi h23 e2 pH_lt)
  have e1 : gv h2 (ad 1) = ud (ud (ud (gv h (ad 1)) 1 0) 2 (-1)) 5 0 := (fr_gv s1 fb (by decide) (by decide) rfl pTX_lt).trans a1
  have R2 : ∀ k, hR h2 (ad 1) k = hR h1 (ad 1) k := fun k => (fb (ad 1) (st_0 s1 (by decide))).2.2.2 k (fun e => by cases e)
  have R6 : ∀ k, hR h2 (ad 6) k = hR h (ad 6) k := fun k => by rw [← a6]; exact (fb (ad 6) (st_0 s1 (by decide))).2.2.2 k (fun e => by cases e)
  have vL := v_L v.1
  have em : eqm m' (gv h2 (ad 25)) := fun z z0 z1 => by rw [b25]; unfold cpy; rw [if_pos ⟨z0, z1⟩]
  have eo : ∀ l, 0 ≤ l → l < L' → o' l = gv h2 (ad 28) l := fun l l0 l1 => by rw [b28]; unfold cpy; rw [if_pos ⟨l0, by omega⟩]
  have ew : ∀ l, 0 ≤ l → l < L' → w' l = gv h2 (ad 29) l := fun l l0 l1 => by rw [b29]; unfold cpy; rw [if_pos ⟨l0, by omega⟩]
  have v' := vok_e em (vok_o v.1 eo ew)
  have c' := cst_e em (vok_o v.1 eo ew) (cst_fr s1 fb pTX_lt (cst_o ac v.2 eo ew))
  refine ⟨⟨s2, rfl, rfl, rfl, b10, b11⟩, v', ⟨s2, by rw [R2]; exact c'⟩, fun i hi => ?_, ⟨by rw [e1, ud_eq], b9, by omega, by omega⟩, fun i hi => by omega, ⟨by rw [e1, ud_ne (by decide), ud_ne (by decide), ud_eq, b14], by rw [e1, ud_ne (by decide), ud_ne (by decide), ud_eq]; omega, by rw [e1, ud_ne (by decide), ud_ne (by decide), ud_eq]; omega⟩, fun z => by rw [gg (i := 32) (by decide) (by decide) rfl rfl, gg (i := 5) (by decide) (by decide) rfl rfl]; exact jd z, by rw [e1, ud_ne (by decide), ud_eq, b20]⟩
  rw [R6]
  rcases j4 i hi with q | q
  · exact Or.inl q
  · have a := (fa _ (by rw [q]; decide)).1.trans q
    exact Or.inr ((fb _ (by rw [a]; decide)).1.trans a)
end JI2
