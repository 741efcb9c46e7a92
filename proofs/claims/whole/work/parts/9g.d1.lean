/-! THE LAW'S CASES: without wrappers; unlike -/
section CS
variable {E : tr_Env} {ad : Nat → Nat} {b N : Nat} {X : Int → Int} {h : tr_H} {m one two : Int → Int} {H L u i : Int} {Q : tr_Q} {G : Nat → tr_K}
theorem cs_fault (ok : tr_ok E) (J : LI ad b N X h m one two H L u) (xr : ∀ z, -2147483648 ≤ X z ∧ X z ≤ 2147483647) (i0 : 0 ≤ i) (i1 : i + 6 ≤ N) (nN : N ≤ 3072) (nx : ∀ h' m' o' w' H' L' u' rc rs, LI ad b N X h' m' o' w' H' L' u' → G 1917 [some (.inr (.inr b)), some (.inr (.inr (ad 1))), some (.inr (.inr (ad 23))), some (.inr (.inr (ad 0))), some (.inl (ii i)), none, none, none] [] h' rc rs) : W_L_law_305 (tr_C E) G Q h b (ad 1) (ad 23) (ad 0) (ii i) := by
  have s := LI_s J
  refine ⟨st_t s (by decide), K_fault ok s ⟨st_t s (by decide), M_fault ok s (fun h3 f3 => ⟨fun _ => nx _ _ _ _ _ _ _ _ _ (LI_M J f3), fun e => absurd ?_ e⟩)⟩⟩
  rw [J.1.2.2.2.2.2.2.2.2]
theorem cs_status (ok : tr_ok E) (J : LI ad b N X h m one two H L u) (xr : ∀ z, -2147483648 ≤ X z ∧ X z ≤ 2147483647) (i0 : 0 ≤ i) (i1 : i + 6 ≤ N) (nN : N ≤ 3072) (nx : ∀ h' m' o' w' H' L' u' rc rs, LI ad b N X h' m' o' w' H' L' u' → G 1917 [some (.inr (.inr b)), some (.inr (.inr (ad 1))), some (.inr (.inr (ad 23))), some (.inr (.inr (ad 0))), some (.inl (ii i)), none, none, none] [] h' rc rs) : W_L_law_1892 (tr_C E) G Q h b (ad 1) (ad 23) (ad 0) (ii i) := by
  have s := LI_s J
  refine ⟨J.2.2.1, rx J.2.2 i0 i1 (by decide) (by decide) nN, ?_⟩
  rw [rd J.2.2 i0 i1 (j := 1) (by decide) (by decide) nN]
  refine ⟨st_t s (by decide), K_status ok s (xr _).1 (xr _).2 ⟨J.2.2.1, rx J.2.2 i0 i1 (by decide) (by decide) nN, ?_⟩⟩
  rw [rd J.2.2 i0 i1 (j := 1) (by decide) (by decide) nN]
  refine ⟨st_t s (by decide), M_status ok s (xr _).1 (xr _).2 (fun h3 f3 => ⟨fun _ => nx _ _ _ _ _ _ _ _ _ (LI_M J f3), fun e => absurd ?_ e⟩)⟩
  by_cases g : 0 ≤ X (i + 1) ∧ X (i + 1) ≤ 2
  · rw [if_pos g, if_pos g, J.2.1 _ g.1 g.2]
  · rw [if_neg g, if_neg g]
theorem cs_label (ok : tr_ok E) (J : LI ad b N X h m one two H L u) (xr : ∀ z, -2147483648 ≤ X z ∧ X z ≤ 2147483647) (i0 : 0 ≤ i) (i1 : i + 6 ≤ N) (nN : N ≤ 3072) (nx : ∀ h' m' o' w' H' L' u' rc rs, LI ad b N X h' m' o' w' H' L' u' → G 1917 [some (.inr (.inr b)), some (.inr (.inr (ad 1))), some (.inr (.inr (ad 23))), some (.inr (.inr (ad 0))), some (.inl (ii i)), none, none, none] [] h' rc rs) : W_L_law_1091 (tr_C E) G Q h b (ad 1) (ad 23) (ad 0) (ii i) := by
  have s := LI_s J
  refine ⟨J.2.2.1, rx J.2.2 i0 i1 (by decide) (by decide) nN, ?_⟩
  rw [rd J.2.2 i0 i1 (j := 1) (by decide) (by decide) nN]
  refine ⟨st_t s (by decide), K_label ok J.1.2.2.1 J.1.2.1 (xr _).1 (xr _).2 (fun h1 f1 => ?_)⟩
  have J1 := LI_C J f1
  refine ⟨J1.2.2.1, rx J1.2.2 i0 i1 (by decide) (by decide) nN, ?_⟩
  rw [rd J1.2.2 i0 i1 (j := 1) (by decide) (by decide) nN]
  exact ⟨st_t (LI_s J1) (by decide), M_label ok J1.1.1 J1.1.2.1 (xr _).1 (xr _).2 (fun h3 f3 => ⟨fun _ => nx _ _ _ _ _ _ _ _ _ (LI_M J1 f3), fun e => absurd rfl e⟩)⟩
theorem cs_leastLabels (ok : tr_ok E) (J : LI ad b N X h m one two H L u) (xr : ∀ z, -2147483648 ≤ X z ∧ X z ≤ 2147483647) (i0 : 0 ≤ i) (i1 : i + 6 ≤ N) (nN : N ≤ 3072) (nx : ∀ h' m' o' w' H' L' u' rc rs, LI ad b N X h' m' o' w' H' L' u' → G 1917 [some (.inr (.inr b)), some (.inr (.inr (ad 1))), some (.inr (.inr (ad 23))), some (.inr (.inr (ad 0))), some (.inl (ii i)), none, none, none] [] h' rc rs) : W_L_law_1602 (tr_C E) G Q h b (ad 1) (ad 23) (ad 0) (ii i) := by
  have s := LI_s J
  refine ⟨st_t s (by decide), K_leastLabels ok J.1.2.2.1 J.1.2.1 (fun h1 f1 => ?_)⟩
  have J1 := LI_C J f1
  exact ⟨st_t (LI_s J1) (by decide), M_leastLabels ok J1.1.1 J1.1.2.1 (fun h3 f3 => ⟨fun _ => nx _ _ _ _ _ _ _ _ _ (LI_M J1 f3), fun e => absurd rfl e⟩)⟩
theorem cs_print (ok : tr_ok E) (J : LI ad b N X h m one two H L u) (xr : ∀ z, -2147483648 ≤ X z ∧ X z ≤ 2147483647) (i0 : 0 ≤ i) (i1 : i + 6 ≤ N) (nN : N ≤ 3072) (nx : ∀ h' m' o' w' H' L' u' rc rs, LI ad b N X h' m' o' w' H' L' u' → G 1917 [some (.inr (.inr b)), some (.inr (.inr (ad 1))), some (.inr (.inr (ad 23))), some (.inr (.inr (ad 0))), some (.inl (ii i)), none, none, none] [] h' rc rs) : W_L_law_1878 (tr_C E) G Q h b (ad 1) (ad 23) (ad 0) (ii i) := by
  have s := LI_s J
  exact ⟨st_t s (by decide), K_print ok J.1.2.2.1 J.1.2.1 ⟨st_t s (by decide), M_print ok J.1.1 J.1.2.1 (fun h3 f3 => ⟨fun _ => nx _ _ _ _ _ _ _ _ _ (LI_M J f3), fun e => absurd (by rw [cmp0]) e⟩)⟩⟩
theorem vok_fg (v : vok m one two H L) : vok (fgm m) one two H L := by
  obtain ⟨vH, vL, vl, v0, v1, v2, v3, v4, v5, vr, vm, vp⟩ := id v
  have hs : ∀ k, k < 106 → fgm m k = m k := fun k hk => by unfold fgm; rw [if_neg (by omega)]
  have h6 : fgm m 106 = 0 := rfl
  refine ⟨vH, vL, vl, ?_, ?_, ?_, ?_, ?_, ?_, fun k k0 k1 => by rw [hs (6 + k) (by omega)]; exact vr k k0 k1, by rw [h6]; omega, fun p p0 p1 => by rw [h6] at p1; omega⟩
  · rw [hs 0 (by omega)]; exact v0
  · rw [hs 1 (by omega)]; exact v1
  · rw [hs 2 (by omega)]; exact v2
  · rw [hs 2 (by omega), hs 3 (by omega)]; exact v3
  · rw [hs 2 (by omega), hs 4 (by omega)]; exact v4
  · rw [hs 5 (by omega)]; exact v5
theorem cs_forget (ok : tr_ok E) (J : LI ad b N X h m one two H L u) (xr : ∀ z, -2147483648 ≤ X z ∧ X z ≤ 2147483647) (i0 : 0 ≤ i) (i1 : i + 6 ≤ N) (nN : N ≤ 3072) (nx : ∀ h' m' o' w' H' L' u' rc rs, LI ad b N X h' m' o' w' H' L' u' → G 1917 [some (.inr (.inr b)), some (.inr (.inr (ad 1))), some (.inr (.inr (ad 23))), some (.inr (.inr (ad 0))), some (.inl (ii i)), none, none, none] [] h' rc rs) : W_L_law_422 (tr_C E) G Q h b (ad 1) (ad 23) (ad 0) (ii i) := by
  have s := LI_s J
  refine ⟨st_t s (by decide), K_forget ok J.1.2.2.1 J.1.2.1 J.1.2.2.2.1 J.1.2.2.2.2.1.1 J.1.2.2.2.2.1.2.2.1 J.1.2.2.2.2.1.2.2.2 (fun h1 k1 => ?_)⟩
  have s1 := st_fr s k1.1
  have ms1 := mst_fr J.1.1 k1.1 pH_lt rfl rfl rfl rfl rfl rfl
  have u1 : gv h1 (ad 23) 9 = u := (fr_gf s k1.1 rfl pH_lt rfl).trans J.1.2.2.2.2.1.2.1
  exact ⟨st_t s1 (by decide), M_forget ok ms1 J.1.2.1 u1 J.1.2.2.2.2.1.2.2.1 J.1.2.2.2.2.1.2.2.2 (fun h3 k3 => ⟨fun _ => nx _ _ _ _ _ _ _ _ _ (LI_P J (vok_fg J.1.2.1) k1 k3), fun e => absurd rfl e⟩)⟩
theorem cs_undo (ok : tr_ok E) (J : LI ad b N X h m one two H L u) (xr : ∀ z, -2147483648 ≤ X z ∧ X z ≤ 2147483647) (i0 : 0 ≤ i) (i1 : i + 6 ≤ N) (nN : N ≤ 3072) (nx : ∀ h' m' o' w' H' L' u' rc rs, LI ad b N X h' m' o' w' H' L' u' → G 1917 [some (.inr (.inr b)), some (.inr (.inr (ad 1))), some (.inr (.inr (ad 23))), some (.inr (.inr (ad 0))), some (.inl (ii i)), none, none, none] [] h' rc rs) : W_L_law_658 (tr_C E) G Q h b (ad 1) (ad 23) (ad 0) (ii i) := by
  have s := LI_s J
  obtain ⟨q1, q2, q3, q4⟩ := J.1.2.2.2.2.1
  refine ⟨st_t s (by decide), K_undo ok s q1 q3 q4 (fun u0 h1 f1 a1 a6 a3 => ?_) (fun u0 => ?_)⟩
  · have s1 := st_fr s f1
    have u1 : gv h1 (ad 23) 9 = u := (fr_gf s f1 rfl pH_lt rfl).trans q2
    refine ⟨st_t s1 (by decide), M_undo ok s1 u1 q3 q4 (fun _ h3 f3 b0 b9 b27 b25 => ⟨fun _ => nx _ _ _ _ _ _ _ _ _ ⟨JI_U J.1 u0 f1 a1 a6 a3 f3 b9 b27 b25, fun z z0 z1 => ?_, SC_fr s1 (SC_fr s J.2.2 f1 pH_lt) f3 pW_lt⟩, fun e => absurd rfl e⟩) (fun e => absurd e u0)⟩
    rw [(fr_gv s1 f3 (by decide) (by decide) rfl pW_lt).trans (fr_gv s f1 (by decide) (by decide) rfl pH_lt), (fr_gv s1 f3 (by decide) (by decide) rfl pW_lt).trans (fr_gv s f1 (by decide) (by decide) rfl pH_lt)]
    exact J.2.1 z z0 z1
  · exact ⟨st_t s (by decide), M_undo ok s q2 q3 q4 (fun e => absurd u0 e) (fun _ h3 f3 => ⟨fun _ => nx _ _ _ _ _ _ _ _ _ (LI_M J f3), fun e => absurd rfl e⟩)⟩
theorem cs_feed (ok : tr_ok E) (J : LI ad b N X h m one two H L u) (xr : ∀ z, -2147483648 ≤ X z ∧ X z ≤ 2147483647) (i0 : 0 ≤ i) (i1 : i + 6 ≤ N) (nN : N ≤ 3072) (nx : ∀ h' m' o' w' H' L' u' rc rs, LI ad b N X h' m' o' w' H' L' u' → G 1917 [some (.inr (.inr b)), some (.inr (.inr (ad 1))), some (.inr (.inr (ad 23))), some (.inr (.inr (ad 0))), some (.inl (ii i)), none, none, none] [] h' rc rs) : W_L_law_176 (tr_C E) G Q h b (ad 1) (ad 23) (ad 0) (ii i) := by
  have s := LI_s J
  obtain ⟨q1, q2, q3⟩ := J.1.2.2.2.2.2.2.1
  have e14 : gv h (ad 23) 14 = gv h (ad 1) 1 := q1.symm
  refine ⟨(J.2.2).1, rx (J.2.2) i0 i1 (by decide) (by decide) nN, (J.2.2).1, rx (J.2.2) i0 i1 (by decide) (by decide) nN, (J.2.2).1, rx (J.2.2) i0 i1 (by decide) (by decide) nN, (J.2.2).1, rx (J.2.2) i0 i1 (by decide) (by decide) nN, (J.2.2).1, rx (J.2.2) i0 i1 (by decide) (by decide) nN, ?_⟩
  rw [rd (J.2.2) i0 i1 (j := 1) (by decide) (by decide) nN, rd (J.2.2) i0 i1 (j := 2) (by decide) (by decide) nN, rd (J.2.2) i0 i1 (j := 3) (by decide) (by decide) nN, rd (J.2.2) i0 i1 (j := 4) (by decide) (by decide) nN, rd (J.2.2) i0 i1 (j := 5) (by decide) (by decide) nN]
  refine ⟨st_t s (by decide), K_feed ok s rfl q2 q3 (fun g h1 k1 => ?_) (fun g => ?_)⟩
  · have s1 := st_fr s k1.1
    have t1 := SC_fr s J.2.2 k1.1 pF_lt
    have a14 : gv h1 (ad 23) 14 = gv h (ad 1) 1 := (fr_gf s k1.1 rfl pF_lt rfl).trans e14
    refine ⟨(t1).1, rx (t1) i0 i1 (by decide) (by decide) nN, (t1).1, rx (t1) i0 i1 (by decide) (by decide) nN, (t1).1, rx (t1) i0 i1 (by decide) (by decide) nN, (t1).1, rx (t1) i0 i1 (by decide) (by decide) nN, (t1).1, rx (t1) i0 i1 (by decide) (by decide) nN, ?_⟩
    rw [rd (t1) i0 i1 (j := 1) (by decide) (by decide) nN, rd (t1) i0 i1 (j := 2) (by decide) (by decide) nN, rd (t1) i0 i1 (j := 3) (by decide) (by decide) nN, rd (t1) i0 i1 (j := 4) (by decide) (by decide) nN, rd (t1) i0 i1 (j := 5) (by decide) (by decide) nN]
    refine ⟨st_t s1 (by decide), M_feed ok s1 a14 q2 q3 (fun _ h3 k3 => ⟨fun _ => nx _ _ _ _ _ _ _ _ _ ⟨JI_F J.1 rfl g k1 k3, fun z z0 z1 => ?_, SC_fr s1 t1 k3.1 pTF_lt⟩, fun e => absurd rfl e⟩) (fun e => absurd g e)⟩
    rw [(fr_gv s1 k3.1 (by decide) (by decide) rfl pTF_lt).trans (fr_gv s k1.1 (by decide) (by decide) rfl pF_lt), (fr_gv s1 k3.1 (by decide) (by decide) rfl pTF_lt).trans (fr_gv s k1.1 (by decide) (by decide) rfl pF_lt)]
    exact J.2.1 z z0 z1
  · refine ⟨(J.2.2).1, rx (J.2.2) i0 i1 (by decide) (by decide) nN, (J.2.2).1, rx (J.2.2) i0 i1 (by decide) (by decide) nN, (J.2.2).1, rx (J.2.2) i0 i1 (by decide) (by decide) nN, (J.2.2).1, rx (J.2.2) i0 i1 (by decide) (by decide) nN, (J.2.2).1, rx (J.2.2) i0 i1 (by decide) (by decide) nN, ?_⟩
    rw [rd (J.2.2) i0 i1 (j := 1) (by decide) (by decide) nN, rd (J.2.2) i0 i1 (j := 2) (by decide) (by decide) nN, rd (J.2.2) i0 i1 (j := 3) (by decide) (by decide) nN, rd (J.2.2) i0 i1 (j := 4) (by decide) (by decide) nN, rd (J.2.2) i0 i1 (j := 5) (by decide) (by decide) nN]
    exact ⟨st_t s (by decide), M_feed ok s e14 q2 q3 (fun e => absurd e g) (fun _ h3 f3 => ⟨fun _ => nx _ _ _ _ _ _ _ _ _ (LI_M J f3), fun e => absurd rfl e⟩)⟩
theorem cs_unlike (ok : tr_ok E) (J : LI ad b N X h m one two H L u) (xr : ∀ z, -2147483648 ≤ X z ∧ X z ≤ 2147483647) (i0 : 0 ≤ i) (i1 : i + 6 ≤ N) (nN : N ≤ 3072) (nx : ∀ h' m' o' w' H' L' u' rc rs, LI ad b N X h' m' o' w' H' L' u' → G 1917 [some (.inr (.inr b)), some (.inr (.inr (ad 1))), some (.inr (.inr (ad 23))), some (.inr (.inr (ad 0))), some (.inl (ii i)), none, none, none] [] h' rc rs) : W_L_law_1615 (tr_C E) G Q h b (ad 1) (ad 23) (ad 0) (ii i) := by
  have s := LI_s J
  refine ⟨(J.2.2).1, rx (J.2.2) i0 i1 (by decide) (by decide) nN, (J.2.2).1, rx (J.2.2) i0 i1 (by decide) (by decide) nN, ?_⟩
  rw [rd (J.2.2) i0 i1 (j := 1) (by decide) (by decide) nN, rd (J.2.2) i0 i1 (j := 2) (by decide) (by decide) nN]
  refine ⟨fun bq => ?_, fun bq => ?_⟩
  · refine T_L_unlike ok ⟨st_t s (by decide), K_unlike (b := false) ok J.1.2.2.1 J.1.2.1 (xr _).1 (xr _).2 (fun g => ⟨(og s).1, (og s).2, fun h3 e3 => ?_⟩) (fun n0 _ => ?_)⟩
    · rw [show ixn (ii 0) = 0 from ixn_ii (by omega) (by omega)] at e3
      have J3 : LI ad b N X h3 m one two H L u := by rw [e3]; exact J
      refine ⟨(J3.2.2).1, rx (J3.2.2) i0 i1 (by decide) (by decide) nN, (J3.2.2).1, rx (J3.2.2) i0 i1 (by decide) (by decide) nN, ?_⟩
      rw [rd (J3.2.2) i0 i1 (j := 1) (by decide) (by decide) nN, rd (J3.2.2) i0 i1 (j := 2) (by decide) (by decide) nN]
      exact ⟨fun _ => ⟨st_t (LI_s J3) (by decide), M_unlike (b := false) ok J3.1.1 J3.1.2.1 (xr _).1 (xr _).2 (fun _ h5 f5 => tl0 ok (LI_s (LI_M J3 f5)) f5.2.1 (ot s e3 f5.1 pM_lt rfl rfl (nx _ _ _ _ _ _ _ _ _ (LI_M J3 f5)))) (fun n0 h5 f5 => absurd g n0)⟩, fun e => absurd bq e⟩
    · have t3 := SC_R J 1
      have J3 := JI_R J.1 1
      refine ⟨(t3).1, rx (t3) i0 i1 (by decide) (by decide) nN, (t3).1, rx (t3) i0 i1 (by decide) (by decide) nN, ?_⟩
      rw [rd (t3) i0 i1 (j := 1) (by decide) (by decide) nN, rd (t3) i0 i1 (j := 2) (by decide) (by decide) nN]
      exact ⟨fun _ => ⟨st_t J3.1.1 (by decide), M_unlike (b := false) ok J3.1 J3.2.1 (xr _).1 (xr _).2 (fun g h5 f5 => absurd g n0) (fun _ h5 f5 => tl1 ok (LI_s (LI_R J (by decide) (by decide) f5)) f5.2.1 (by decide) (by decide) (nx _ _ _ _ _ _ _ _ _ (LI_R J (by decide) (by decide) f5)))⟩, fun e => absurd bq e⟩
  · refine T_L_unlike ok ⟨st_t s (by decide), K_unlike (b := true) ok J.1.2.2.1 J.1.2.1 (xr _).1 (xr _).2 (fun g => ⟨(og s).1, (og s).2, fun h3 e3 => ?_⟩) (fun n0 _ => ?_)⟩
    · rw [show ixn (ii 0) = 0 from ixn_ii (by omega) (by omega)] at e3
      have J3 : LI ad b N X h3 m one two H L u := by rw [e3]; exact J
      refine ⟨(J3.2.2).1, rx (J3.2.2) i0 i1 (by decide) (by decide) nN, (J3.2.2).1, rx (J3.2.2) i0 i1 (by decide) (by decide) nN, ?_⟩
      rw [rd (J3.2.2) i0 i1 (j := 1) (by decide) (by decide) nN, rd (J3.2.2) i0 i1 (j := 2) (by decide) (by decide) nN]
      exact ⟨fun e => absurd e bq, fun _ => ⟨st_t (LI_s J3) (by decide), M_unlike (b := true) ok J3.1.1 J3.1.2.1 (xr _).1 (xr _).2 (fun _ h5 f5 => tl0 ok (LI_s (LI_M J3 f5)) f5.2.1 (ot s e3 f5.1 pM_lt rfl rfl (nx _ _ _ _ _ _ _ _ _ (LI_M J3 f5)))) (fun n0 h5 f5 => absurd g n0)⟩⟩
    · have t3 := SC_R J 1
      have J3 := JI_R J.1 1
      refine ⟨(t3).1, rx (t3) i0 i1 (by decide) (by decide) nN, (t3).1, rx (t3) i0 i1 (by decide) (by decide) nN, ?_⟩
      rw [rd (t3) i0 i1 (j := 1) (by decide) (by decide) nN, rd (t3) i0 i1 (j := 2) (by decide) (by decide) nN]
      exact ⟨fun e => absurd e bq, fun _ => ⟨st_t J3.1.1 (by decide), M_unlike (b := true) ok J3.1 J3.2.1 (xr _).1 (xr _).2 (fun g h5 f5 => absurd g n0) (fun _ h5 f5 => tl1 ok (LI_s (LI_R J (by decide) (by decide) f5)) f5.2.1 (by decide) (by decide) (nx _ _ _ _ _ _ _ _ _ (LI_R J (by decide) (by decide) f5)))⟩⟩
end CS
