/-! THE LAW'S CASES: changes through wrappers -/
section CS
variable {E : tr_Env} {ad : Nat → Nat} {b N : Nat} {X : Int → Int} {h : tr_H} {m one two : Int → Int} {H L u i : Int} {Q : tr_Q} {G : Nat → tr_K}
theorem cs_set (ok : tr_ok E) (J : LI ad b N X h m one two H L u) (xr : ∀ z, -2147483648 ≤ X z ∧ X z ≤ 2147483647) (i0 : 0 ≤ i) (i1 : i + 6 ≤ N) (nN : N ≤ 3072) (nx : ∀ h' m' o' w' H' L' u' rc rs, LI ad b N X h' m' o' w' H' L' u' → G 1917 [some (.inr (.inr b)), some (.inr (.inr (ad 1))), some (.inr (.inr (ad 23))), some (.inr (.inr (ad 0))), some (.inl (ii i)), none, none, none] [] h' rc rs) : W_L_law_590 (tr_C E) G Q h b (ad 1) (ad 23) (ad 0) (ii i) := by
  have s := LI_s J
  refine ⟨(J.2.2).1, rx (J.2.2) i0 i1 (by decide) (by decide) nN, (J.2.2).1, rx (J.2.2) i0 i1 (by decide) (by decide) nN, ?_⟩
  rw [rd (J.2.2) i0 i1 (j := 1) (by decide) (by decide) nN, rd (J.2.2) i0 i1 (j := 2) (by decide) (by decide) nN]
  refine T_L_set ok ⟨st_t s (by decide), K_set ok J.1.2.2.1 J.1.2.1 J.1.2.2.2.1 J.1.2.2.2.2.1.1 J.1.2.2.2.2.1.2.2.1 J.1.2.2.2.2.1.2.2.2 (xr _).1 (xr _).2 (xr _).1 (xr _).2 (fun g h1 k1 => ⟨(og (st_fr s k1.1)).1, (og (st_fr s k1.1)).2, fun h3 e3 => ?_⟩) (fun n0 _ => ?_)⟩
  · rw [show ixn (ii 0) = 0 from ixn_ii (by omega) (by omega)] at e3
    have K3 := KP_J k1 (ad 0) 0 (ii (m (1 + X (i + 1)))).toInt64
    rw [← e3] at K3
    have J0 : LI ad b N X (hsJ h (ad 0) 0 (ii (m (1 + X (i + 1)))).toInt64) m one two H L u := J
    have s3 := st_fr (LI_s J0) K3.1
    have ms3 := mst_fr J0.1.1 K3.1 pH_lt rfl rfl rfl rfl rfl rfl
    have t3 := SC_fr (LI_s J0) J0.2.2 K3.1 pH_lt
    have u3 : gv h3 (ad 23) 9 = u := (fr_gf (LI_s J0) K3.1 rfl pH_lt rfl).trans J.1.2.2.2.2.1.2.1
    have vv : vok (ud m (1 + X (i + 1)) (X (i + 2))) one two H L := vok_s J.1.2.1 g
    refine ⟨(t3).1, rx (t3) i0 i1 (by decide) (by decide) nN, (t3).1, rx (t3) i0 i1 (by decide) (by decide) nN, ?_⟩
    rw [rd (t3) i0 i1 (j := 1) (by decide) (by decide) nN, rd (t3) i0 i1 (j := 2) (by decide) (by decide) nN]
    refine ⟨st_t s3 (by decide), M_set ok ms3 J.1.2.1 u3 J.1.2.2.2.2.1.2.2.1 J.1.2.2.2.2.1.2.2.2 (xr _).1 (xr _).2 (xr _).1 (xr _).2 (fun g' h5 k5 => tl0 ok (st_fr s3 k5.1) k5.2.1 (ot (st_fr s k1.1) e3 k5.1 pW_lt rfl rfl (nx _ _ _ _ _ _ _ _ _ (LI_P J0 vv K3 k5)))) (fun n0 h5 f5 => absurd (g.symm.trans n0) (by decide))⟩
  · have t3 := SC_R J 1
    have J3 := JI_R J.1 1
    refine ⟨(t3).1, rx (t3) i0 i1 (by decide) (by decide) nN, (t3).1, rx (t3) i0 i1 (by decide) (by decide) nN, ?_⟩
    rw [rd (t3) i0 i1 (j := 1) (by decide) (by decide) nN, rd (t3) i0 i1 (j := 2) (by decide) (by decide) nN]
    exact ⟨st_t J3.1.1 (by decide), M_set ok J3.1 J3.2.1 J3.2.2.2.2.1.2.1 J3.2.2.2.2.1.2.2.1 J3.2.2.2.2.1.2.2.2 (xr _).1 (xr _).2 (xr _).1 (xr _).2 (fun g' h5 f5 => absurd (g'.symm.trans n0) (by decide)) (fun n0' h5 f5 => tl1 ok (LI_s (LI_R J (by decide) (by decide) f5)) f5.2.1 (by decide) (by decide) (nx _ _ _ _ _ _ _ _ _ (LI_R J (by decide) (by decide) f5)))⟩
theorem cs_route (ok : tr_ok E) (J : LI ad b N X h m one two H L u) (xr : ∀ z, -2147483648 ≤ X z ∧ X z ≤ 2147483647) (i0 : 0 ≤ i) (i1 : i + 6 ≤ N) (nN : N ≤ 3072) (nx : ∀ h' m' o' w' H' L' u' rc rs, LI ad b N X h' m' o' w' H' L' u' → G 1917 [some (.inr (.inr b)), some (.inr (.inr (ad 1))), some (.inr (.inr (ad 23))), some (.inr (.inr (ad 0))), some (.inl (ii i)), none, none, none] [] h' rc rs) : W_L_law_510 (tr_C E) G Q h b (ad 1) (ad 23) (ad 0) (ii i) := by
  have s := LI_s J
  refine ⟨(J.2.2).1, rx (J.2.2) i0 i1 (by decide) (by decide) nN, (J.2.2).1, rx (J.2.2) i0 i1 (by decide) (by decide) nN, (J.2.2).1, rx (J.2.2) i0 i1 (by decide) (by decide) nN, ?_⟩
  rw [rd (J.2.2) i0 i1 (j := 1) (by decide) (by decide) nN, rd (J.2.2) i0 i1 (j := 2) (by decide) (by decide) nN, rd (J.2.2) i0 i1 (j := 3) (by decide) (by decide) nN]
  refine T_L_route ok ⟨st_t s (by decide), K_route ok J.1.2.2.1 J.1.2.1 J.1.2.2.2.1 J.1.2.2.2.2.1.1 J.1.2.2.2.2.1.2.2.1 J.1.2.2.2.2.1.2.2.2 (xr _).1 (xr _).2 (xr _).1 (xr _).2 (xr _).1 (xr _).2 (fun g g2 h1 k1 => ⟨(og (st_fr s k1.1)).1, (og (st_fr s k1.1)).2, fun h3 e3 => ?_⟩) (fun n0 _ => ?_) (fun g n1 _ => ?_)⟩
  · rw [show ixn (ii 0) = 0 from ixn_ii (by omega) (by omega)] at e3
    have K3 := KP_J k1 (ad 0) 0 (ii (m (6 + 10 * X (i + 1) + X (i + 2)))).toInt64
    rw [← e3] at K3
    have J0 : LI ad b N X (hsJ h (ad 0) 0 (ii (m (6 + 10 * X (i + 1) + X (i + 2)))).toInt64) m one two H L u := J
    have s3 := st_fr (LI_s J0) K3.1
    have ms3 := mst_fr J0.1.1 K3.1 pH_lt rfl rfl rfl rfl rfl rfl
    have t3 := SC_fr (LI_s J0) J0.2.2 K3.1 pH_lt
    have u3 : gv h3 (ad 23) 9 = u := (fr_gf (LI_s J0) K3.1 rfl pH_lt rfl).trans J.1.2.2.2.2.1.2.1
    have vv : vok (ud m (6 + 10 * X (i + 1) + X (i + 2)) (X (i + 3))) one two H L := by
      have vH := v_H J.1.2.1
      have vL := v_L J.1.2.1
      obtain ⟨⟨ga, gd⟩, gl⟩ := g
      rw [show 6 + 10 * X (i + 1) + X (i + 2) = 6 + (10 * X (i + 1) + X (i + 2)) by omega]
      exact vok_r J.1.2.1 (by omega) (by omega) (by omega) (by omega)
    refine ⟨(t3).1, rx (t3) i0 i1 (by decide) (by decide) nN, (t3).1, rx (t3) i0 i1 (by decide) (by decide) nN, (t3).1, rx (t3) i0 i1 (by decide) (by decide) nN, ?_⟩
    rw [rd (t3) i0 i1 (j := 1) (by decide) (by decide) nN, rd (t3) i0 i1 (j := 2) (by decide) (by decide) nN, rd (t3) i0 i1 (j := 3) (by decide) (by decide) nN]
    refine ⟨st_t s3 (by decide), M_route ok ms3 J.1.2.1 u3 J.1.2.2.2.2.1.2.2.1 J.1.2.2.2.2.1.2.2.2 (xr _).1 (xr _).2 (xr _).1 (xr _).2 (xr _).1 (xr _).2 (fun g' g2' h5 k5 => tl0 ok (st_fr s3 k5.1) k5.2.1 (ot (st_fr s k1.1) e3 k5.1 pW_lt rfl rfl (nx _ _ _ _ _ _ _ _ _ (LI_P J0 vv K3 k5)))) (fun n0 h5 f5 => absurd g n0) (fun g' n1 h5 f5 => absurd g2 n1)⟩
  · have t3 := SC_R J 0
    have J3 := JI_R J.1 0
    refine ⟨(t3).1, rx (t3) i0 i1 (by decide) (by decide) nN, (t3).1, rx (t3) i0 i1 (by decide) (by decide) nN, (t3).1, rx (t3) i0 i1 (by decide) (by decide) nN, ?_⟩
    rw [rd (t3) i0 i1 (j := 1) (by decide) (by decide) nN, rd (t3) i0 i1 (j := 2) (by decide) (by decide) nN, rd (t3) i0 i1 (j := 3) (by decide) (by decide) nN]
    exact ⟨st_t J3.1.1 (by decide), M_route ok J3.1 J3.2.1 J3.2.2.2.2.1.2.1 J3.2.2.2.2.1.2.2.1 J3.2.2.2.2.1.2.2.2 (xr _).1 (xr _).2 (xr _).1 (xr _).2 (xr _).1 (xr _).2 (fun g' g2' h5 f5 => absurd g' n0) (fun n0' h5 f5 => tl1 ok (LI_s (LI_R J (by decide) (by decide) f5)) f5.2.1 (by decide) (by decide) (nx _ _ _ _ _ _ _ _ _ (LI_R J (by decide) (by decide) f5))) (fun g' n1' h5 f5 => absurd g' n0)⟩
  · have t3 := SC_R J 1
    have J3 := JI_R J.1 1
    refine ⟨(t3).1, rx (t3) i0 i1 (by decide) (by decide) nN, (t3).1, rx (t3) i0 i1 (by decide) (by decide) nN, (t3).1, rx (t3) i0 i1 (by decide) (by decide) nN, ?_⟩
    rw [rd (t3) i0 i1 (j := 1) (by decide) (by decide) nN, rd (t3) i0 i1 (j := 2) (by decide) (by decide) nN, rd (t3) i0 i1 (j := 3) (by decide) (by decide) nN]
    exact ⟨st_t J3.1.1 (by decide), M_route ok J3.1 J3.2.1 J3.2.2.2.2.1.2.1 J3.2.2.2.2.1.2.2.1 J3.2.2.2.2.1.2.2.2 (xr _).1 (xr _).2 (xr _).1 (xr _).2 (xr _).1 (xr _).2 (fun g' g2' h5 f5 => absurd g2' n1) (fun n0' h5 f5 => absurd g n0') (fun g' n1' h5 f5 => tl1 ok (LI_s (LI_R J (by decide) (by decide) f5)) f5.2.1 (by decide) (by decide) (nx _ _ _ _ _ _ _ _ _ (LI_R J (by decide) (by decide) f5)))⟩
theorem cs_send (ok : tr_ok E) (J : LI ad b N X h m one two H L u) (xr : ∀ z, -2147483648 ≤ X z ∧ X z ≤ 2147483647) (i0 : 0 ≤ i) (i1 : i + 6 ≤ N) (nN : N ≤ 3072) (nx : ∀ h' m' o' w' H' L' u' rc rs, LI ad b N X h' m' o' w' H' L' u' → G 1917 [some (.inr (.inr b)), some (.inr (.inr (ad 1))), some (.inr (.inr (ad 23))), some (.inr (.inr (ad 0))), some (.inl (ii i)), none, none, none] [] h' rc rs) : W_L_law_318 (tr_C E) G Q h b (ad 1) (ad 23) (ad 0) (ii i) := by
  have s := LI_s J
  refine ⟨(J.2.2).1, rx (J.2.2) i0 i1 (by decide) (by decide) nN, (J.2.2).1, rx (J.2.2) i0 i1 (by decide) (by decide) nN, (J.2.2).1, rx (J.2.2) i0 i1 (by decide) (by decide) nN, (J.2.2).1, rx (J.2.2) i0 i1 (by decide) (by decide) nN, (J.2.2).1, rx (J.2.2) i0 i1 (by decide) (by decide) nN, ?_⟩
  rw [rd (J.2.2) i0 i1 (j := 1) (by decide) (by decide) nN, rd (J.2.2) i0 i1 (j := 2) (by decide) (by decide) nN, rd (J.2.2) i0 i1 (j := 3) (by decide) (by decide) nN, rd (J.2.2) i0 i1 (j := 4) (by decide) (by decide) nN, rd (J.2.2) i0 i1 (j := 5) (by decide) (by decide) nN]
  refine T_L_send ok ⟨st_t s (by decide), K_send ok J.1.2.2.1 J.1.2.1 J.1.2.2.2.1 J.1.2.2.2.2.1.1 J.1.2.2.2.2.1.2.2.1 J.1.2.2.2.2.1.2.2.2 (xr _).1 (xr _).2 (xr _).1 (xr _).2 (xr _).1 (xr _).2 (xr _).1 (xr _).2 (xr _).1 (xr _).2 (fun g g2 h1 k1 => ⟨(og (st_fr s k1.1)).1, (og (st_fr s k1.1)).2, fun h3 e3 => ?_⟩) (fun n0 _ => ?_) (fun g n1 _ => ?_)⟩
  · rw [show ixn (ii 0) = 0 from ixn_ii (by omega) (by omega)] at e3
    have K3 := KP_J k1 (ad 0) 0 (ii (m 106)).toInt64
    rw [← e3] at K3
    have J0 : LI ad b N X (hsJ h (ad 0) 0 (ii (m 106)).toInt64) m one two H L u := J
    have s3 := st_fr (LI_s J0) K3.1
    have ms3 := mst_fr J0.1.1 K3.1 pH_lt rfl rfl rfl rfl rfl rfl
    have t3 := SC_fr (LI_s J0) J0.2.2 K3.1 pH_lt
    have u3 : gv h3 (ad 23) 9 = u := (fr_gf (LI_s J0) K3.1 rfl pH_lt rfl).trans J.1.2.2.2.2.1.2.1
    have vv : vok (sdm m two (X (i + 1)) (X (i + 2)) (X (i + 3)) (X (i + 4)) (X (i + 5))) one two H L := vok_sd J.1.2.1 g g2
    refine ⟨(t3).1, rx (t3) i0 i1 (by decide) (by decide) nN, (t3).1, rx (t3) i0 i1 (by decide) (by decide) nN, (t3).1, rx (t3) i0 i1 (by decide) (by decide) nN, (t3).1, rx (t3) i0 i1 (by decide) (by decide) nN, (t3).1, rx (t3) i0 i1 (by decide) (by decide) nN, ?_⟩
    rw [rd (t3) i0 i1 (j := 1) (by decide) (by decide) nN, rd (t3) i0 i1 (j := 2) (by decide) (by decide) nN, rd (t3) i0 i1 (j := 3) (by decide) (by decide) nN, rd (t3) i0 i1 (j := 4) (by decide) (by decide) nN, rd (t3) i0 i1 (j := 5) (by decide) (by decide) nN]
    refine ⟨st_t s3 (by decide), M_send ok ms3 J.1.2.1 u3 J.1.2.2.2.2.1.2.2.1 J.1.2.2.2.2.1.2.2.2 (xr _).1 (xr _).2 (xr _).1 (xr _).2 (xr _).1 (xr _).2 (xr _).1 (xr _).2 (xr _).1 (xr _).2 (fun g' g2' h5 k5 => tl0 ok (st_fr s3 k5.1) k5.2.1 (ot (st_fr s k1.1) e3 k5.1 pW_lt rfl rfl (nx _ _ _ _ _ _ _ _ _ (LI_P J0 vv K3 k5)))) (fun n0 h5 f5 => absurd g n0) (fun g' n1 h5 f5 => absurd g2 n1)⟩
  · have t3 := SC_R J 1
    have J3 := JI_R J.1 1
    refine ⟨(t3).1, rx (t3) i0 i1 (by decide) (by decide) nN, (t3).1, rx (t3) i0 i1 (by decide) (by decide) nN, (t3).1, rx (t3) i0 i1 (by decide) (by decide) nN, (t3).1, rx (t3) i0 i1 (by decide) (by decide) nN, (t3).1, rx (t3) i0 i1 (by decide) (by decide) nN, ?_⟩
    rw [rd (t3) i0 i1 (j := 1) (by decide) (by decide) nN, rd (t3) i0 i1 (j := 2) (by decide) (by decide) nN, rd (t3) i0 i1 (j := 3) (by decide) (by decide) nN, rd (t3) i0 i1 (j := 4) (by decide) (by decide) nN, rd (t3) i0 i1 (j := 5) (by decide) (by decide) nN]
    exact ⟨st_t J3.1.1 (by decide), M_send ok J3.1 J3.2.1 J3.2.2.2.2.1.2.1 J3.2.2.2.2.1.2.2.1 J3.2.2.2.2.1.2.2.2 (xr _).1 (xr _).2 (xr _).1 (xr _).2 (xr _).1 (xr _).2 (xr _).1 (xr _).2 (xr _).1 (xr _).2 (fun g' g2' h5 f5 => absurd g' n0) (fun n0' h5 f5 => tl1 ok (LI_s (LI_R J (by decide) (by decide) f5)) f5.2.1 (by decide) (by decide) (nx _ _ _ _ _ _ _ _ _ (LI_R J (by decide) (by decide) f5))) (fun g' n1' h5 f5 => absurd g' n0)⟩
  · have t3 := SC_R J 2
    have J3 := JI_R J.1 2
    refine ⟨(t3).1, rx (t3) i0 i1 (by decide) (by decide) nN, (t3).1, rx (t3) i0 i1 (by decide) (by decide) nN, (t3).1, rx (t3) i0 i1 (by decide) (by decide) nN, (t3).1, rx (t3) i0 i1 (by decide) (by decide) nN, (t3).1, rx (t3) i0 i1 (by decide) (by decide) nN, ?_⟩
    rw [rd (t3) i0 i1 (j := 1) (by decide) (by decide) nN, rd (t3) i0 i1 (j := 2) (by decide) (by decide) nN, rd (t3) i0 i1 (j := 3) (by decide) (by decide) nN, rd (t3) i0 i1 (j := 4) (by decide) (by decide) nN, rd (t3) i0 i1 (j := 5) (by decide) (by decide) nN]
    exact ⟨st_t J3.1.1 (by decide), M_send ok J3.1 J3.2.1 J3.2.2.2.2.1.2.1 J3.2.2.2.2.1.2.2.1 J3.2.2.2.2.1.2.2.2 (xr _).1 (xr _).2 (xr _).1 (xr _).2 (xr _).1 (xr _).2 (xr _).1 (xr _).2 (xr _).1 (xr _).2 (fun g' g2' h5 f5 => absurd g2' n1) (fun n0' h5 f5 => absurd g n0') (fun g' n1' h5 f5 => tl1 ok (LI_s (LI_R J (by decide) (by decide) f5)) f5.2.1 (by decide) (by decide) (nx _ _ _ _ _ _ _ _ _ (LI_R J (by decide) (by decide) f5)))⟩
theorem cs_link (ok : tr_ok E) (J : LI ad b N X h m one two H L u) (xr : ∀ z, -2147483648 ≤ X z ∧ X z ≤ 2147483647) (i0 : 0 ≤ i) (i1 : i + 6 ≤ N) (nN : N ≤ 3072) (nx : ∀ h' m' o' w' H' L' u' rc rs, LI ad b N X h' m' o' w' H' L' u' → G 1917 [some (.inr (.inr b)), some (.inr (.inr (ad 1))), some (.inr (.inr (ad 23))), some (.inr (.inr (ad 0))), some (.inl (ii i)), none, none, none] [] h' rc rs) : W_L_law_435 (tr_C E) G Q h b (ad 1) (ad 23) (ad 0) (ii i) := by
  have s := LI_s J
  refine ⟨(J.2.2).1, rx (J.2.2) i0 i1 (by decide) (by decide) nN, (J.2.2).1, rx (J.2.2) i0 i1 (by decide) (by decide) nN, ?_⟩
  rw [rd (J.2.2) i0 i1 (j := 1) (by decide) (by decide) nN, rd (J.2.2) i0 i1 (j := 2) (by decide) (by decide) nN]
  refine T_L_link ok ⟨st_t s (by decide), K_link ok J.1.2.2.1 J.1.2.1 J.1.2.2.2.1 J.1.2.2.2.2.1.1 J.1.2.2.2.2.1.2.2.1 J.1.2.2.2.2.1.2.2.2 (xr _).1 (xr _).2 (xr _).1 (xr _).2 (fun g g2 h1 k1 => ⟨fun bq => ⟨(og (st_fr s k1.1)).1, (og (st_fr s k1.1)).2, fun h3 e3 => ?_⟩, fun bq => ⟨(og (st_fr s k1.1)).1, (og (st_fr s k1.1)).2, fun h3 e3 => ?_⟩⟩) (fun n0 _ => ?_) (fun g n1 _ => ?_)⟩
  · rw [show ixn (ii 0) = 0 from ixn_ii (by omega) (by omega)] at e3
    have K3 := KP_J k1 (ad 0) 0 (jj ((0 : Fin 2).val : Nat))
    rw [← e3] at K3
    have J0 : LI ad b N X (hsJ h (ad 0) 0 (jj ((0 : Fin 2).val : Nat))) m one two H L u := J
    have s3 := st_fr (LI_s J0) K3.1
    have ms3 := mst_fr J0.1.1 K3.1 pH_lt rfl rfl rfl rfl rfl rfl
    have t3 := SC_fr (LI_s J0) J0.2.2 K3.1 pH_lt
    have u3 : gv h3 (ad 23) 9 = u := (fr_gf (LI_s J0) K3.1 rfl pH_lt rfl).trans J.1.2.2.2.2.1.2.1
    have vv : vok (ud m 0 (upb (m 0) (X (i + 1)) (X (i + 2)))) one two H L := vok_l J.1.2.1 g.1 g.2
    refine ⟨(t3).1, rx (t3) i0 i1 (by decide) (by decide) nN, (t3).1, rx (t3) i0 i1 (by decide) (by decide) nN, ?_⟩
    rw [rd (t3) i0 i1 (j := 1) (by decide) (by decide) nN, rd (t3) i0 i1 (j := 2) (by decide) (by decide) nN]
    refine ⟨st_t s3 (by decide), M_link ok ms3 J.1.2.1 u3 J.1.2.2.2.2.1.2.2.1 J.1.2.2.2.2.1.2.2.2 (xr _).1 (xr _).2 (xr _).1 (xr _).2 (fun g' g2' h5 k5 => tl0 ok (st_fr s3 k5.1) k5.2.1 ?_) (fun n0 h5 f5 => absurd g n0) (fun g' n1 h5 f5 => absurd g2 n1)⟩
    obtain ⟨o1, o2, o3, -⟩ := ot (A := True) (B := True) (st_fr s k1.1) e3 k5.1 pW_lt rfl rfl trivial
    obtain ⟨p1, p2, p3, p4⟩ := ot (A := True) (B := False) (y := jj ((0 : Fin 2).val : Nat)) (st_fr s k1.1) e3 k5.1 pW_lt rfl rfl trivial
    exact ⟨o1, o2, fun _ => ⟨fun _ => (nx _ _ _ _ _ _ _ _ _ (LI_P J0 vv K3 k5)), fun e => absurd e (fun e => p4 e)⟩, fun e => absurd bq e⟩
  · rw [show ixn (ii 0) = 0 from ixn_ii (by omega) (by omega)] at e3
    have K3 := KP_J k1 (ad 0) 0 (jj ((1 : Fin 2).val : Nat))
    rw [← e3] at K3
    have J0 : LI ad b N X (hsJ h (ad 0) 0 (jj ((1 : Fin 2).val : Nat))) m one two H L u := J
    have s3 := st_fr (LI_s J0) K3.1
    have ms3 := mst_fr J0.1.1 K3.1 pH_lt rfl rfl rfl rfl rfl rfl
    have t3 := SC_fr (LI_s J0) J0.2.2 K3.1 pH_lt
    have u3 : gv h3 (ad 23) 9 = u := (fr_gf (LI_s J0) K3.1 rfl pH_lt rfl).trans J.1.2.2.2.2.1.2.1
    have vv : vok (ud m 0 (upb (m 0) (X (i + 1)) (X (i + 2)))) one two H L := vok_l J.1.2.1 g.1 g.2
    refine ⟨(t3).1, rx (t3) i0 i1 (by decide) (by decide) nN, (t3).1, rx (t3) i0 i1 (by decide) (by decide) nN, ?_⟩
    rw [rd (t3) i0 i1 (j := 1) (by decide) (by decide) nN, rd (t3) i0 i1 (j := 2) (by decide) (by decide) nN]
    refine ⟨st_t s3 (by decide), M_link ok ms3 J.1.2.1 u3 J.1.2.2.2.2.1.2.2.1 J.1.2.2.2.2.1.2.2.2 (xr _).1 (xr _).2 (xr _).1 (xr _).2 (fun g' g2' h5 k5 => tl0 ok (st_fr s3 k5.1) k5.2.1 ?_) (fun n0 h5 f5 => absurd g n0) (fun g' n1 h5 f5 => absurd g2 n1)⟩
    obtain ⟨o1, o2, o3, -⟩ := ot (A := True) (B := True) (st_fr s k1.1) e3 k5.1 pW_lt rfl rfl trivial
    obtain ⟨p1, p2, p3, p4⟩ := ot (A := True) (B := False) (y := jj ((1 : Fin 2).val : Nat)) (st_fr s k1.1) e3 k5.1 pW_lt rfl rfl trivial
    exact ⟨o1, o2, fun e => absurd e bq, fun _ => ⟨fun _ => (nx _ _ _ _ _ _ _ _ _ (LI_P J0 vv K3 k5)), fun e => absurd e (fun e => p4 e)⟩⟩
  · have t3 := SC_R J 0
    have J3 := JI_R J.1 0
    refine ⟨(t3).1, rx (t3) i0 i1 (by decide) (by decide) nN, (t3).1, rx (t3) i0 i1 (by decide) (by decide) nN, ?_⟩
    rw [rd (t3) i0 i1 (j := 1) (by decide) (by decide) nN, rd (t3) i0 i1 (j := 2) (by decide) (by decide) nN]
    exact ⟨st_t J3.1.1 (by decide), M_link ok J3.1 J3.2.1 J3.2.2.2.2.1.2.1 J3.2.2.2.2.1.2.2.1 J3.2.2.2.2.1.2.2.2 (xr _).1 (xr _).2 (xr _).1 (xr _).2 (fun g' g2' h5 f5 => absurd g' n0) (fun n0' h5 f5 => tl1 ok (LI_s (LI_R J (by decide) (by decide) f5)) f5.2.1 (by decide) (by decide) (nx _ _ _ _ _ _ _ _ _ (LI_R J (by decide) (by decide) f5))) (fun g' n1' h5 f5 => absurd g' n0)⟩
  · have t3 := SC_R J 1
    have J3 := JI_R J.1 1
    refine ⟨(t3).1, rx (t3) i0 i1 (by decide) (by decide) nN, (t3).1, rx (t3) i0 i1 (by decide) (by decide) nN, ?_⟩
    rw [rd (t3) i0 i1 (j := 1) (by decide) (by decide) nN, rd (t3) i0 i1 (j := 2) (by decide) (by decide) nN]
    exact ⟨st_t J3.1.1 (by decide), M_link ok J3.1 J3.2.1 J3.2.2.2.2.1.2.1 J3.2.2.2.2.1.2.2.1 J3.2.2.2.2.1.2.2.2 (xr _).1 (xr _).2 (xr _).1 (xr _).2 (fun g' g2' h5 f5 => absurd g2' n1) (fun n0' h5 f5 => absurd g n0') (fun g' n1' h5 f5 => tl1 ok (LI_s (LI_R J (by decide) (by decide) f5)) f5.2.1 (by decide) (by decide) (nx _ _ _ _ _ _ _ _ _ (LI_R J (by decide) (by decide) f5)))⟩
end CS
