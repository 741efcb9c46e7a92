/-! THE LAW'S CASES: questions through wrappers -/
section CS
variable {E : tr_Env} {ad : Nat → Nat} {b N : Nat} {X : Int → Int} {h : tr_H} {m one two : Int → Int} {H L u i : Int} {Q : tr_Q} {G : Nat → tr_K}
theorem cs_told (ok : tr_ok E) (J : LI ad b N X h m one two H L u) (xr : ∀ z, -2147483648 ≤ X z ∧ X z ≤ 2147483647) (i0 : 0 ≤ i) (i1 : i + 6 ≤ N) (nN : N ≤ 3072) (nx : ∀ h' m' o' w' H' L' u' rc rs, LI ad b N X h' m' o' w' H' L' u' → G 1917 [some (.inr (.inr b)), some (.inr (.inr (ad 1))), some (.inr (.inr (ad 23))), some (.inr (.inr (ad 0))), some (.inl (ii i)), none, none, none] [] h' rc rs) : W_L_law_671 (tr_C E) G Q h b (ad 1) (ad 23) (ad 0) (ii i) := by
  have s := LI_s J
  refine ⟨(J.2.2).1, rx (J.2.2) i0 i1 (by decide) (by decide) nN, ?_⟩
  rw [rd (J.2.2) i0 i1 (j := 1) (by decide) (by decide) nN]
  refine T_L_told ok ⟨st_t s (by decide), K_told ok J.1.2.2.1 J.1.2.1 (xr _).1 (xr _).2 (fun g h1 f1 => ⟨(og (LI_s (LI_C J f1))).1, (og (LI_s (LI_C J f1))).2, fun h3 e3 => ?_⟩) (fun n0 _ => ?_)⟩
  · rw [show ixn (ii 0) = 0 from ixn_ii (by omega) (by omega)] at e3
    have J1 := LI_C J f1
    have J3 : LI ad b N X h3 m one two H L u := by rw [e3]; exact J1
    refine ⟨(J3.2.2).1, rx (J3.2.2) i0 i1 (by decide) (by decide) nN, ?_⟩
    rw [rd (J3.2.2) i0 i1 (j := 1) (by decide) (by decide) nN]
    refine ⟨st_t (LI_s J3) (by decide), M_told ok J3.1.1 J3.1.2.1 (xr _).1 (xr _).2 (fun g' h5 f5 => tl0 ok (LI_s (LI_M J3 f5)) f5.2.1 (ot (LI_s J1) e3 f5.1 pM_lt rfl ?_ (nx _ _ _ _ _ _ _ _ _ (LI_M J3 f5)))) (fun n0 h5 f5 => absurd g n0)⟩
    have a9 : gv h3 (ad 23) 9 = gv h (ad 1) 5 := J3.1.2.2.2.2.1.2.1.trans J.1.2.2.2.2.1.1.symm
    have a1 : gv h3 (ad 1) = gv h (ad 1) := by rw [e3]; exact fr_gv s f1 (by decide) (by decide) rfl pC_lt
    have a14 : gv h3 (ad 23) 14 = gv h (ad 1) 1 := by rw [← J3.1.2.2.2.2.2.2.1.1, a1]
    rw [a9, a14]
  · have J1 := J
    have t3 := SC_R J1 1
    have J3 := JI_R J1.1 1
    refine ⟨(t3).1, rx (t3) i0 i1 (by decide) (by decide) nN, ?_⟩
    rw [rd (t3) i0 i1 (j := 1) (by decide) (by decide) nN]
    exact ⟨st_t J3.1.1 (by decide), M_told ok J3.1 J3.2.1 (xr _).1 (xr _).2 (fun g' h5 f5 => absurd g' n0) (fun n0' h5 f5 => tl1 ok (LI_s (LI_R J1 (by decide) (by decide) f5)) f5.2.1 (by decide) (by decide) (nx _ _ _ _ _ _ _ _ _ (LI_R J1 (by decide) (by decide) f5)))⟩
theorem cs_linkTold (ok : tr_ok E) (J : LI ad b N X h m one two H L u) (xr : ∀ z, -2147483648 ≤ X z ∧ X z ≤ 2147483647) (i0 : 0 ≤ i) (i1 : i + 6 ≤ N) (nN : N ≤ 3072) (nx : ∀ h' m' o' w' H' L' u' rc rs, LI ad b N X h' m' o' w' H' L' u' → G 1917 [some (.inr (.inr b)), some (.inr (.inr (ad 1))), some (.inr (.inr (ad 23))), some (.inr (.inr (ad 0))), some (.inl (ii i)), none, none, none] [] h' rc rs) : W_L_law_727 (tr_C E) G Q h b (ad 1) (ad 23) (ad 0) (ii i) := by
  have s := LI_s J
  refine ⟨(J.2.2).1, rx (J.2.2) i0 i1 (by decide) (by decide) nN, (J.2.2).1, rx (J.2.2) i0 i1 (by decide) (by decide) nN, ?_⟩
  rw [rd (J.2.2) i0 i1 (j := 1) (by decide) (by decide) nN, rd (J.2.2) i0 i1 (j := 2) (by decide) (by decide) nN]
  refine T_L_linkTold ok ⟨st_t s (by decide), K_linkTold ok J.1.2.2.1 J.1.2.1 (xr _).1 (xr _).2 (xr _).1 (xr _).2 (fun g g2 => ⟨(og s).1, (og s).2, fun h3 e3 => ?_⟩) (fun n0 _ => ?_) (fun g n1 _ => ?_)⟩
  · rw [show ixn (ii 0) = 0 from ixn_ii (by omega) (by omega)] at e3
    have J1 := J
    have J3 : LI ad b N X h3 m one two H L u := by rw [e3]; exact J1
    refine ⟨(J3.2.2).1, rx (J3.2.2) i0 i1 (by decide) (by decide) nN, (J3.2.2).1, rx (J3.2.2) i0 i1 (by decide) (by decide) nN, ?_⟩
    rw [rd (J3.2.2) i0 i1 (j := 1) (by decide) (by decide) nN, rd (J3.2.2) i0 i1 (j := 2) (by decide) (by decide) nN]
    refine ⟨st_t (LI_s J3) (by decide), M_linkTold ok J3.1.1 J3.1.2.1 (xr _).1 (xr _).2 (xr _).1 (xr _).2 (fun g' g2' h5 f5 => tl0 ok (LI_s (LI_M J3 f5)) f5.2.1 (ot (LI_s J1) e3 f5.1 pM_lt rfl ?_ (nx _ _ _ _ _ _ _ _ _ (LI_M J3 f5)))) (fun n0 h5 f5 => absurd g n0) (fun g' n1 h5 f5 => absurd g2 n1)⟩
    first | rfl | (try rw [J1.1.2.2.2.2.1.1, J1.1.2.2.2.2.1.2.1]; rfl)
  · have J1 := J
    have t3 := SC_R J1 0
    have J3 := JI_R J1.1 0
    refine ⟨(t3).1, rx (t3) i0 i1 (by decide) (by decide) nN, (t3).1, rx (t3) i0 i1 (by decide) (by decide) nN, ?_⟩
    rw [rd (t3) i0 i1 (j := 1) (by decide) (by decide) nN, rd (t3) i0 i1 (j := 2) (by decide) (by decide) nN]
    exact ⟨st_t J3.1.1 (by decide), M_linkTold ok J3.1 J3.2.1 (xr _).1 (xr _).2 (xr _).1 (xr _).2 (fun g' g2' h5 f5 => absurd g' n0) (fun n0' h5 f5 => tl1 ok (LI_s (LI_R J1 (by decide) (by decide) f5)) f5.2.1 (by decide) (by decide) (nx _ _ _ _ _ _ _ _ _ (LI_R J1 (by decide) (by decide) f5))) (fun g' n1' h5 f5 => absurd g' n0)⟩
  · have J1 := J
    have t3 := SC_R J1 1
    have J3 := JI_R J1.1 1
    refine ⟨(t3).1, rx (t3) i0 i1 (by decide) (by decide) nN, (t3).1, rx (t3) i0 i1 (by decide) (by decide) nN, ?_⟩
    rw [rd (t3) i0 i1 (j := 1) (by decide) (by decide) nN, rd (t3) i0 i1 (j := 2) (by decide) (by decide) nN]
    exact ⟨st_t J3.1.1 (by decide), M_linkTold ok J3.1 J3.2.1 (xr _).1 (xr _).2 (xr _).1 (xr _).2 (fun g' g2' h5 f5 => absurd g2' n1) (fun n0' h5 f5 => absurd g n0') (fun g' n1' h5 f5 => tl1 ok (LI_s (LI_R J1 (by decide) (by decide) f5)) f5.2.1 (by decide) (by decide) (nx _ _ _ _ _ _ _ _ _ (LI_R J1 (by decide) (by decide) f5)))⟩
theorem cs_routeTold (ok : tr_ok E) (J : LI ad b N X h m one two H L u) (xr : ∀ z, -2147483648 ≤ X z ∧ X z ≤ 2147483647) (i0 : 0 ≤ i) (i1 : i + 6 ≤ N) (nN : N ≤ 3072) (nx : ∀ h' m' o' w' H' L' u' rc rs, LI ad b N X h' m' o' w' H' L' u' → G 1917 [some (.inr (.inr b)), some (.inr (.inr (ad 1))), some (.inr (.inr (ad 23))), some (.inr (.inr (ad 0))), some (.inl (ii i)), none, none, none] [] h' rc rs) : W_L_law_795 (tr_C E) G Q h b (ad 1) (ad 23) (ad 0) (ii i) := by
  have s := LI_s J
  refine ⟨(J.2.2).1, rx (J.2.2) i0 i1 (by decide) (by decide) nN, (J.2.2).1, rx (J.2.2) i0 i1 (by decide) (by decide) nN, ?_⟩
  rw [rd (J.2.2) i0 i1 (j := 1) (by decide) (by decide) nN, rd (J.2.2) i0 i1 (j := 2) (by decide) (by decide) nN]
  refine T_L_routeTold ok ⟨st_t s (by decide), K_routeTold ok J.1.2.2.1 J.1.2.1 (xr _).1 (xr _).2 (xr _).1 (xr _).2 (fun g => ⟨(og s).1, (og s).2, fun h3 e3 => ?_⟩) (fun n0 _ => ?_)⟩
  · rw [show ixn (ii 0) = 0 from ixn_ii (by omega) (by omega)] at e3
    have J1 := J
    have J3 : LI ad b N X h3 m one two H L u := by rw [e3]; exact J1
    refine ⟨(J3.2.2).1, rx (J3.2.2) i0 i1 (by decide) (by decide) nN, (J3.2.2).1, rx (J3.2.2) i0 i1 (by decide) (by decide) nN, ?_⟩
    rw [rd (J3.2.2) i0 i1 (j := 1) (by decide) (by decide) nN, rd (J3.2.2) i0 i1 (j := 2) (by decide) (by decide) nN]
    refine ⟨st_t (LI_s J3) (by decide), M_routeTold ok J3.1.1 J3.1.2.1 (xr _).1 (xr _).2 (xr _).1 (xr _).2 (fun g' h5 f5 => tl0 ok (LI_s (LI_M J3 f5)) f5.2.1 (ot (LI_s J1) e3 f5.1 pM_lt rfl ?_ (nx _ _ _ _ _ _ _ _ _ (LI_M J3 f5)))) (fun n0 h5 f5 => absurd g n0)⟩
    first | rfl | (try rw [J1.1.2.2.2.2.1.1, J1.1.2.2.2.2.1.2.1]; rfl)
  · have J1 := J
    have t3 := SC_R J1 0
    have J3 := JI_R J1.1 0
    refine ⟨(t3).1, rx (t3) i0 i1 (by decide) (by decide) nN, (t3).1, rx (t3) i0 i1 (by decide) (by decide) nN, ?_⟩
    rw [rd (t3) i0 i1 (j := 1) (by decide) (by decide) nN, rd (t3) i0 i1 (j := 2) (by decide) (by decide) nN]
    exact ⟨st_t J3.1.1 (by decide), M_routeTold ok J3.1 J3.2.1 (xr _).1 (xr _).2 (xr _).1 (xr _).2 (fun g' h5 f5 => absurd g' n0) (fun n0' h5 f5 => tl1 ok (LI_s (LI_R J1 (by decide) (by decide) f5)) f5.2.1 (by decide) (by decide) (nx _ _ _ _ _ _ _ _ _ (LI_R J1 (by decide) (by decide) f5)))⟩
theorem cs_packet (ok : tr_ok E) (J : LI ad b N X h m one two H L u) (xr : ∀ z, -2147483648 ≤ X z ∧ X z ≤ 2147483647) (i0 : 0 ≤ i) (i1 : i + 6 ≤ N) (nN : N ≤ 3072) (nx : ∀ h' m' o' w' H' L' u' rc rs, LI ad b N X h' m' o' w' H' L' u' → G 1917 [some (.inr (.inr b)), some (.inr (.inr (ad 1))), some (.inr (.inr (ad 23))), some (.inr (.inr (ad 0))), some (.inl (ii i)), none, none, none] [] h' rc rs) : W_L_law_863 (tr_C E) G Q h b (ad 1) (ad 23) (ad 0) (ii i) := by
  have s := LI_s J
  refine ⟨(J.2.2).1, rx (J.2.2) i0 i1 (by decide) (by decide) nN, (J.2.2).1, rx (J.2.2) i0 i1 (by decide) (by decide) nN, ?_⟩
  rw [rd (J.2.2) i0 i1 (j := 1) (by decide) (by decide) nN, rd (J.2.2) i0 i1 (j := 2) (by decide) (by decide) nN]
  refine T_L_packet ok ⟨st_t s (by decide), K_packet ok J.1.2.2.1 J.1.2.1 (xr _).1 (xr _).2 (xr _).1 (xr _).2 (fun g g2 => ⟨(og s).1, (og s).2, fun h3 e3 => ?_⟩) (fun n0 _ => ?_) (fun g n1 _ => ?_)⟩
  · rw [show ixn (ii 0) = 0 from ixn_ii (by omega) (by omega)] at e3
    have J1 := J
    have J3 : LI ad b N X h3 m one two H L u := by rw [e3]; exact J1
    refine ⟨(J3.2.2).1, rx (J3.2.2) i0 i1 (by decide) (by decide) nN, (J3.2.2).1, rx (J3.2.2) i0 i1 (by decide) (by decide) nN, ?_⟩
    rw [rd (J3.2.2) i0 i1 (j := 1) (by decide) (by decide) nN, rd (J3.2.2) i0 i1 (j := 2) (by decide) (by decide) nN]
    refine ⟨st_t (LI_s J3) (by decide), M_packet ok J3.1.1 J3.1.2.1 (xr _).1 (xr _).2 (xr _).1 (xr _).2 (fun g' g2' h5 f5 => tl0 ok (LI_s (LI_M J3 f5)) f5.2.1 (ot (LI_s J1) e3 f5.1 pM_lt rfl ?_ (nx _ _ _ _ _ _ _ _ _ (LI_M J3 f5)))) (fun n0 h5 f5 => absurd g n0) (fun g' n1 h5 f5 => absurd g2 n1)⟩
    first | rfl | (try rw [J1.1.2.2.2.2.1.1, J1.1.2.2.2.2.1.2.1]; rfl)
  · have J1 := J
    have t3 := SC_R J1 0
    have J3 := JI_R J1.1 0
    refine ⟨(t3).1, rx (t3) i0 i1 (by decide) (by decide) nN, (t3).1, rx (t3) i0 i1 (by decide) (by decide) nN, ?_⟩
    rw [rd (t3) i0 i1 (j := 1) (by decide) (by decide) nN, rd (t3) i0 i1 (j := 2) (by decide) (by decide) nN]
    exact ⟨st_t J3.1.1 (by decide), M_packet ok J3.1 J3.2.1 (xr _).1 (xr _).2 (xr _).1 (xr _).2 (fun g' g2' h5 f5 => absurd g' n0) (fun n0' h5 f5 => tl1 ok (LI_s (LI_R J1 (by decide) (by decide) f5)) f5.2.1 (by decide) (by decide) (nx _ _ _ _ _ _ _ _ _ (LI_R J1 (by decide) (by decide) f5))) (fun g' n1' h5 f5 => absurd g' n0)⟩
  · have J1 := J
    have t3 := SC_R J1 1
    have J3 := JI_R J1.1 1
    refine ⟨(t3).1, rx (t3) i0 i1 (by decide) (by decide) nN, (t3).1, rx (t3) i0 i1 (by decide) (by decide) nN, ?_⟩
    rw [rd (t3) i0 i1 (j := 1) (by decide) (by decide) nN, rd (t3) i0 i1 (j := 2) (by decide) (by decide) nN]
    exact ⟨st_t J3.1.1 (by decide), M_packet ok J3.1 J3.2.1 (xr _).1 (xr _).2 (xr _).1 (xr _).2 (fun g' g2' h5 f5 => absurd g2' n1) (fun n0' h5 f5 => absurd g n0') (fun g' n1' h5 f5 => tl1 ok (LI_s (LI_R J1 (by decide) (by decide) f5)) f5.2.1 (by decide) (by decide) (nx _ _ _ _ _ _ _ _ _ (LI_R J1 (by decide) (by decide) f5)))⟩
theorem cs_trail (ok : tr_ok E) (J : LI ad b N X h m one two H L u) (xr : ∀ z, -2147483648 ≤ X z ∧ X z ≤ 2147483647) (i0 : 0 ≤ i) (i1 : i + 6 ≤ N) (nN : N ≤ 3072) (nx : ∀ h' m' o' w' H' L' u' rc rs, LI ad b N X h' m' o' w' H' L' u' → G 1917 [some (.inr (.inr b)), some (.inr (.inr (ad 1))), some (.inr (.inr (ad 23))), some (.inr (.inr (ad 0))), some (.inl (ii i)), none, none, none] [] h' rc rs) : W_L_law_931 (tr_C E) G Q h b (ad 1) (ad 23) (ad 0) (ii i) := by
  have s := LI_s J
  refine ⟨(J.2.2).1, rx (J.2.2) i0 i1 (by decide) (by decide) nN, (J.2.2).1, rx (J.2.2) i0 i1 (by decide) (by decide) nN, (J.2.2).1, rx (J.2.2) i0 i1 (by decide) (by decide) nN, ?_⟩
  rw [rd (J.2.2) i0 i1 (j := 1) (by decide) (by decide) nN, rd (J.2.2) i0 i1 (j := 2) (by decide) (by decide) nN, rd (J.2.2) i0 i1 (j := 3) (by decide) (by decide) nN]
  refine T_L_trail ok ⟨st_t s (by decide), K_trail ok J.1.2.2.1 J.1.2.1 (xr _).1 (xr _).2 (xr _).1 (xr _).2 (xr _).1 (xr _).2 (fun g g2 => ⟨(og s).1, (og s).2, fun h3 e3 => ?_⟩) (fun n0 _ => ?_) (fun g n1 _ => ?_)⟩
  · rw [show ixn (ii 0) = 0 from ixn_ii (by omega) (by omega)] at e3
    have J1 := J
    have J3 : LI ad b N X h3 m one two H L u := by rw [e3]; exact J1
    refine ⟨(J3.2.2).1, rx (J3.2.2) i0 i1 (by decide) (by decide) nN, (J3.2.2).1, rx (J3.2.2) i0 i1 (by decide) (by decide) nN, (J3.2.2).1, rx (J3.2.2) i0 i1 (by decide) (by decide) nN, ?_⟩
    rw [rd (J3.2.2) i0 i1 (j := 1) (by decide) (by decide) nN, rd (J3.2.2) i0 i1 (j := 2) (by decide) (by decide) nN, rd (J3.2.2) i0 i1 (j := 3) (by decide) (by decide) nN]
    refine ⟨st_t (LI_s J3) (by decide), M_trail ok J3.1.1 J3.1.2.1 (xr _).1 (xr _).2 (xr _).1 (xr _).2 (xr _).1 (xr _).2 (fun g' g2' h5 f5 => tl0 ok (LI_s (LI_M J3 f5)) f5.2.1 (ot (LI_s J1) e3 f5.1 pM_lt rfl ?_ (nx _ _ _ _ _ _ _ _ _ (LI_M J3 f5)))) (fun n0 h5 f5 => absurd g n0) (fun g' n1 h5 f5 => absurd g2 n1)⟩
    first | rfl | (try rw [J1.1.2.2.2.2.1.1, J1.1.2.2.2.2.1.2.1]; rfl)
  · have J1 := J
    have t3 := SC_R J1 0
    have J3 := JI_R J1.1 0
    refine ⟨(t3).1, rx (t3) i0 i1 (by decide) (by decide) nN, (t3).1, rx (t3) i0 i1 (by decide) (by decide) nN, (t3).1, rx (t3) i0 i1 (by decide) (by decide) nN, ?_⟩
    rw [rd (t3) i0 i1 (j := 1) (by decide) (by decide) nN, rd (t3) i0 i1 (j := 2) (by decide) (by decide) nN, rd (t3) i0 i1 (j := 3) (by decide) (by decide) nN]
    exact ⟨st_t J3.1.1 (by decide), M_trail ok J3.1 J3.2.1 (xr _).1 (xr _).2 (xr _).1 (xr _).2 (xr _).1 (xr _).2 (fun g' g2' h5 f5 => absurd g' n0) (fun n0' h5 f5 => tl1 ok (LI_s (LI_R J1 (by decide) (by decide) f5)) f5.2.1 (by decide) (by decide) (nx _ _ _ _ _ _ _ _ _ (LI_R J1 (by decide) (by decide) f5))) (fun g' n1' h5 f5 => absurd g' n0)⟩
  · have J1 := J
    have t3 := SC_R J1 1
    have J3 := JI_R J1.1 1
    refine ⟨(t3).1, rx (t3) i0 i1 (by decide) (by decide) nN, (t3).1, rx (t3) i0 i1 (by decide) (by decide) nN, (t3).1, rx (t3) i0 i1 (by decide) (by decide) nN, ?_⟩
    rw [rd (t3) i0 i1 (j := 1) (by decide) (by decide) nN, rd (t3) i0 i1 (j := 2) (by decide) (by decide) nN, rd (t3) i0 i1 (j := 3) (by decide) (by decide) nN]
    exact ⟨st_t J3.1.1 (by decide), M_trail ok J3.1 J3.2.1 (xr _).1 (xr _).2 (xr _).1 (xr _).2 (xr _).1 (xr _).2 (fun g' g2' h5 f5 => absurd g2' n1) (fun n0' h5 f5 => absurd g n0') (fun g' n1' h5 f5 => tl1 ok (LI_s (LI_R J1 (by decide) (by decide) f5)) f5.2.1 (by decide) (by decide) (nx _ _ _ _ _ _ _ _ _ (LI_R J1 (by decide) (by decide) f5)))⟩
theorem cs_reports (ok : tr_ok E) (J : LI ad b N X h m one two H L u) (xr : ∀ z, -2147483648 ≤ X z ∧ X z ≤ 2147483647) (i0 : 0 ≤ i) (i1 : i + 6 ≤ N) (nN : N ≤ 3072) (nx : ∀ h' m' o' w' H' L' u' rc rs, LI ad b N X h' m' o' w' H' L' u' → G 1917 [some (.inr (.inr b)), some (.inr (.inr (ad 1))), some (.inr (.inr (ad 23))), some (.inr (.inr (ad 0))), some (.inl (ii i)), none, none, none] [] h' rc rs) : W_L_law_1011 (tr_C E) G Q h b (ad 1) (ad 23) (ad 0) (ii i) := by
  have s := LI_s J
  refine ⟨(J.2.2).1, rx (J.2.2) i0 i1 (by decide) (by decide) nN, (J.2.2).1, rx (J.2.2) i0 i1 (by decide) (by decide) nN, (J.2.2).1, rx (J.2.2) i0 i1 (by decide) (by decide) nN, ?_⟩
  rw [rd (J.2.2) i0 i1 (j := 1) (by decide) (by decide) nN, rd (J.2.2) i0 i1 (j := 2) (by decide) (by decide) nN, rd (J.2.2) i0 i1 (j := 3) (by decide) (by decide) nN]
  refine T_L_reports ok ⟨st_t s (by decide), K_reports ok J.1.2.2.1 J.1.2.1 (xr _).1 (xr _).2 (xr _).1 (xr _).2 (xr _).1 (xr _).2 (fun g g2 h1 f1 => ⟨(og (LI_s (LI_C J f1))).1, (og (LI_s (LI_C J f1))).2, fun h3 e3 => ?_⟩) (fun n0 _ => ?_) (fun g n1 _ => ?_)⟩
  · rw [show ixn (ii 0) = 0 from ixn_ii (by omega) (by omega)] at e3
    have J1 := LI_C J f1
    have J3 : LI ad b N X h3 m one two H L u := by rw [e3]; exact J1
    refine ⟨(J3.2.2).1, rx (J3.2.2) i0 i1 (by decide) (by decide) nN, (J3.2.2).1, rx (J3.2.2) i0 i1 (by decide) (by decide) nN, (J3.2.2).1, rx (J3.2.2) i0 i1 (by decide) (by decide) nN, ?_⟩
    rw [rd (J3.2.2) i0 i1 (j := 1) (by decide) (by decide) nN, rd (J3.2.2) i0 i1 (j := 2) (by decide) (by decide) nN, rd (J3.2.2) i0 i1 (j := 3) (by decide) (by decide) nN]
    refine ⟨st_t (LI_s J3) (by decide), M_reports ok J3.1.1 J3.1.2.1 (xr _).1 (xr _).2 (xr _).1 (xr _).2 (xr _).1 (xr _).2 (fun g' g2' h5 f5 => tl0 ok (LI_s (LI_M J3 f5)) f5.2.1 (ot (LI_s J1) e3 f5.1 pM_lt rfl ?_ (nx _ _ _ _ _ _ _ _ _ (LI_M J3 f5)))) (fun n0 h5 f5 => absurd g n0) (fun g' n1 h5 f5 => absurd g2 n1)⟩
    first | rfl | (try rw [J1.1.2.2.2.2.1.1, J1.1.2.2.2.2.1.2.1]; rfl)
  · have J1 := J
    have t3 := SC_R J1 0
    have J3 := JI_R J1.1 0
    refine ⟨(t3).1, rx (t3) i0 i1 (by decide) (by decide) nN, (t3).1, rx (t3) i0 i1 (by decide) (by decide) nN, (t3).1, rx (t3) i0 i1 (by decide) (by decide) nN, ?_⟩
    rw [rd (t3) i0 i1 (j := 1) (by decide) (by decide) nN, rd (t3) i0 i1 (j := 2) (by decide) (by decide) nN, rd (t3) i0 i1 (j := 3) (by decide) (by decide) nN]
    exact ⟨st_t J3.1.1 (by decide), M_reports ok J3.1 J3.2.1 (xr _).1 (xr _).2 (xr _).1 (xr _).2 (xr _).1 (xr _).2 (fun g' g2' h5 f5 => absurd g' n0) (fun n0' h5 f5 => tl1 ok (LI_s (LI_R J1 (by decide) (by decide) f5)) f5.2.1 (by decide) (by decide) (nx _ _ _ _ _ _ _ _ _ (LI_R J1 (by decide) (by decide) f5))) (fun g' n1' h5 f5 => absurd g' n0)⟩
  · have J1 := J
    have t3 := SC_R J1 1
    have J3 := JI_R J1.1 1
    refine ⟨(t3).1, rx (t3) i0 i1 (by decide) (by decide) nN, (t3).1, rx (t3) i0 i1 (by decide) (by decide) nN, (t3).1, rx (t3) i0 i1 (by decide) (by decide) nN, ?_⟩
    rw [rd (t3) i0 i1 (j := 1) (by decide) (by decide) nN, rd (t3) i0 i1 (j := 2) (by decide) (by decide) nN, rd (t3) i0 i1 (j := 3) (by decide) (by decide) nN]
    exact ⟨st_t J3.1.1 (by decide), M_reports ok J3.1 J3.2.1 (xr _).1 (xr _).2 (xr _).1 (xr _).2 (xr _).1 (xr _).2 (fun g' g2' h5 f5 => absurd g2' n1) (fun n0' h5 f5 => absurd g n0') (fun g' n1' h5 f5 => tl1 ok (LI_s (LI_R J1 (by decide) (by decide) f5)) f5.2.1 (by decide) (by decide) (nx _ _ _ _ _ _ _ _ _ (LI_R J1 (by decide) (by decide) f5)))⟩
theorem cs_joints (ok : tr_ok E) (J : LI ad b N X h m one two H L u) (xr : ∀ z, -2147483648 ≤ X z ∧ X z ≤ 2147483647) (i0 : 0 ≤ i) (i1 : i + 6 ≤ N) (nN : N ≤ 3072) (nx : ∀ h' m' o' w' H' L' u' rc rs, LI ad b N X h' m' o' w' H' L' u' → G 1917 [some (.inr (.inr b)), some (.inr (.inr (ad 1))), some (.inr (.inr (ad 23))), some (.inr (.inr (ad 0))), some (.inl (ii i)), none, none, none] [] h' rc rs) : W_L_law_1116 (tr_C E) G Q h b (ad 1) (ad 23) (ad 0) (ii i) := by
  have s := LI_s J
  refine ⟨(J.2.2).1, rx (J.2.2) i0 i1 (by decide) (by decide) nN, ?_⟩
  rw [rd (J.2.2) i0 i1 (j := 1) (by decide) (by decide) nN]
  refine T_L_joints ok ⟨st_t s (by decide), K_joints ok J.1.2.2.1 J.1.2.1 (xr _).1 (xr _).2 (fun g h1 f1 => ⟨(og (LI_s (LI_C J f1))).1, (og (LI_s (LI_C J f1))).2, fun h3 e3 => ?_⟩) (fun n0 _ => ?_)⟩
  · rw [show ixn (ii 0) = 0 from ixn_ii (by omega) (by omega)] at e3
    have J1 := LI_C J f1
    have J3 : LI ad b N X h3 m one two H L u := by rw [e3]; exact J1
    refine ⟨(J3.2.2).1, rx (J3.2.2) i0 i1 (by decide) (by decide) nN, ?_⟩
    rw [rd (J3.2.2) i0 i1 (j := 1) (by decide) (by decide) nN]
    refine ⟨st_t (LI_s J3) (by decide), M_joints ok J3.1.1 J3.1.2.1 (xr _).1 (xr _).2 (fun g' h5 f5 => tl0 ok (LI_s (LI_M J3 f5)) f5.2.1 (ot (LI_s J1) e3 f5.1 pM_lt rfl ?_ (nx _ _ _ _ _ _ _ _ _ (LI_M J3 f5)))) (fun n0 h5 f5 => absurd g n0)⟩
    first | rfl | (try rw [J1.1.2.2.2.2.1.1, J1.1.2.2.2.2.1.2.1]; rfl)
  · have J1 := J
    have t3 := SC_R J1 1
    have J3 := JI_R J1.1 1
    refine ⟨(t3).1, rx (t3) i0 i1 (by decide) (by decide) nN, ?_⟩
    rw [rd (t3) i0 i1 (j := 1) (by decide) (by decide) nN]
    exact ⟨st_t J3.1.1 (by decide), M_joints ok J3.1 J3.2.1 (xr _).1 (xr _).2 (fun g' h5 f5 => absurd g' n0) (fun n0' h5 f5 => tl1 ok (LI_s (LI_R J1 (by decide) (by decide) f5)) f5.2.1 (by decide) (by decide) (nx _ _ _ _ _ _ _ _ _ (LI_R J1 (by decide) (by decide) f5)))⟩
theorem cs_walk (ok : tr_ok E) (J : LI ad b N X h m one two H L u) (xr : ∀ z, -2147483648 ≤ X z ∧ X z ≤ 2147483647) (i0 : 0 ≤ i) (i1 : i + 6 ≤ N) (nN : N ≤ 3072) (nx : ∀ h' m' o' w' H' L' u' rc rs, LI ad b N X h' m' o' w' H' L' u' → G 1917 [some (.inr (.inr b)), some (.inr (.inr (ad 1))), some (.inr (.inr (ad 23))), some (.inr (.inr (ad 0))), some (.inl (ii i)), none, none, none] [] h' rc rs) : W_L_law_1172 (tr_C E) G Q h b (ad 1) (ad 23) (ad 0) (ii i) := by
  have s := LI_s J
  refine ⟨(J.2.2).1, rx (J.2.2) i0 i1 (by decide) (by decide) nN, (J.2.2).1, rx (J.2.2) i0 i1 (by decide) (by decide) nN, (J.2.2).1, rx (J.2.2) i0 i1 (by decide) (by decide) nN, ?_⟩
  rw [rd (J.2.2) i0 i1 (j := 1) (by decide) (by decide) nN, rd (J.2.2) i0 i1 (j := 2) (by decide) (by decide) nN, rd (J.2.2) i0 i1 (j := 3) (by decide) (by decide) nN]
  refine T_L_walk ok ⟨st_t s (by decide), K_walk ok J.1.2.2.1 J.1.2.1 (xr _).1 (xr _).2 (xr _).1 (xr _).2 (xr _).1 (xr _).2 (fun g g2 h1 f1 => ⟨(og (LI_s (LI_C J f1))).1, (og (LI_s (LI_C J f1))).2, fun h3 e3 => ?_⟩) (fun n0 _ => ?_) (fun g n1 h1 f1 _ => ?_)⟩
  · rw [show ixn (ii 0) = 0 from ixn_ii (by omega) (by omega)] at e3
    have J1 := LI_C J f1
    have J3 : LI ad b N X h3 m one two H L u := by rw [e3]; exact J1
    refine ⟨(J3.2.2).1, rx (J3.2.2) i0 i1 (by decide) (by decide) nN, (J3.2.2).1, rx (J3.2.2) i0 i1 (by decide) (by decide) nN, (J3.2.2).1, rx (J3.2.2) i0 i1 (by decide) (by decide) nN, ?_⟩
    rw [rd (J3.2.2) i0 i1 (j := 1) (by decide) (by decide) nN, rd (J3.2.2) i0 i1 (j := 2) (by decide) (by decide) nN, rd (J3.2.2) i0 i1 (j := 3) (by decide) (by decide) nN]
    refine ⟨st_t (LI_s J3) (by decide), M_walk ok J3.1.1 J3.1.2.1 (xr _).1 (xr _).2 (xr _).1 (xr _).2 (xr _).1 (xr _).2 (fun g' g2' h5 f5 => tl0 ok (LI_s (LI_M J3 f5)) f5.2.1 (ot (LI_s J1) e3 f5.1 pM_lt rfl ?_ (nx _ _ _ _ _ _ _ _ _ (LI_M J3 f5)))) (fun n0 h5 f5 => absurd g n0) (fun g' n1 h5 f5 => absurd g2 n1)⟩
    first | rfl | (try rw [J1.1.2.2.2.2.1.1, J1.1.2.2.2.2.1.2.1]; rfl)
  · have J1 := J
    have t3 := SC_R J1 1
    have J3 := JI_R J1.1 1
    refine ⟨(t3).1, rx (t3) i0 i1 (by decide) (by decide) nN, (t3).1, rx (t3) i0 i1 (by decide) (by decide) nN, (t3).1, rx (t3) i0 i1 (by decide) (by decide) nN, ?_⟩
    rw [rd (t3) i0 i1 (j := 1) (by decide) (by decide) nN, rd (t3) i0 i1 (j := 2) (by decide) (by decide) nN, rd (t3) i0 i1 (j := 3) (by decide) (by decide) nN]
    exact ⟨st_t J3.1.1 (by decide), M_walk ok J3.1 J3.2.1 (xr _).1 (xr _).2 (xr _).1 (xr _).2 (xr _).1 (xr _).2 (fun g' g2' h5 f5 => absurd g' n0) (fun n0' h5 f5 => tl1 ok (LI_s (LI_R J1 (by decide) (by decide) f5)) f5.2.1 (by decide) (by decide) (nx _ _ _ _ _ _ _ _ _ (LI_R J1 (by decide) (by decide) f5))) (fun g' n1' h5 f5 => absurd g' n0)⟩
  · have J1 := LI_C J f1
    have t3 := SC_R J1 0
    have J3 := JI_R J1.1 0
    refine ⟨(t3).1, rx (t3) i0 i1 (by decide) (by decide) nN, (t3).1, rx (t3) i0 i1 (by decide) (by decide) nN, (t3).1, rx (t3) i0 i1 (by decide) (by decide) nN, ?_⟩
    rw [rd (t3) i0 i1 (j := 1) (by decide) (by decide) nN, rd (t3) i0 i1 (j := 2) (by decide) (by decide) nN, rd (t3) i0 i1 (j := 3) (by decide) (by decide) nN]
    exact ⟨st_t J3.1.1 (by decide), M_walk ok J3.1 J3.2.1 (xr _).1 (xr _).2 (xr _).1 (xr _).2 (xr _).1 (xr _).2 (fun g' g2' h5 f5 => absurd g2' n1) (fun n0' h5 f5 => absurd g n0') (fun g' n1' h5 f5 => tl1 ok (LI_s (LI_R J1 (by decide) (by decide) f5)) f5.2.1 (by decide) (by decide) (nx _ _ _ _ _ _ _ _ _ (LI_R J1 (by decide) (by decide) f5)))⟩
theorem cs_walkAt (ok : tr_ok E) (J : LI ad b N X h m one two H L u) (xr : ∀ z, -2147483648 ≤ X z ∧ X z ≤ 2147483647) (i0 : 0 ≤ i) (i1 : i + 6 ≤ N) (nN : N ≤ 3072) (nx : ∀ h' m' o' w' H' L' u' rc rs, LI ad b N X h' m' o' w' H' L' u' → G 1917 [some (.inr (.inr b)), some (.inr (.inr (ad 1))), some (.inr (.inr (ad 23))), some (.inr (.inr (ad 0))), some (.inl (ii i)), none, none, none] [] h' rc rs) : W_L_law_1252 (tr_C E) G Q h b (ad 1) (ad 23) (ad 0) (ii i) := by
  have s := LI_s J
  refine ⟨(J.2.2).1, rx (J.2.2) i0 i1 (by decide) (by decide) nN, (J.2.2).1, rx (J.2.2) i0 i1 (by decide) (by decide) nN, (J.2.2).1, rx (J.2.2) i0 i1 (by decide) (by decide) nN, ?_⟩
  rw [rd (J.2.2) i0 i1 (j := 1) (by decide) (by decide) nN, rd (J.2.2) i0 i1 (j := 2) (by decide) (by decide) nN, rd (J.2.2) i0 i1 (j := 3) (by decide) (by decide) nN]
  refine T_L_walkAt ok ⟨st_t s (by decide), K_walkAt ok J.1.2.2.1 J.1.2.1 (xr _).1 (xr _).2 (xr _).1 (xr _).2 (xr _).1 (xr _).2 (fun g g2 h1 f1 => ⟨(og (LI_s (LI_C J f1))).1, (og (LI_s (LI_C J f1))).2, fun h3 e3 => ?_⟩) (fun n0 _ => ?_) (fun g n1 h1 f1 _ => ?_)⟩
  · rw [show ixn (ii 0) = 0 from ixn_ii (by omega) (by omega)] at e3
    have J1 := LI_C J f1
    have J3 : LI ad b N X h3 m one two H L u := by rw [e3]; exact J1
    refine ⟨(J3.2.2).1, rx (J3.2.2) i0 i1 (by decide) (by decide) nN, (J3.2.2).1, rx (J3.2.2) i0 i1 (by decide) (by decide) nN, (J3.2.2).1, rx (J3.2.2) i0 i1 (by decide) (by decide) nN, ?_⟩
    rw [rd (J3.2.2) i0 i1 (j := 1) (by decide) (by decide) nN, rd (J3.2.2) i0 i1 (j := 2) (by decide) (by decide) nN, rd (J3.2.2) i0 i1 (j := 3) (by decide) (by decide) nN]
    refine ⟨st_t (LI_s J3) (by decide), M_walkAt ok J3.1.1 J3.1.2.1 (xr _).1 (xr _).2 (xr _).1 (xr _).2 (xr _).1 (xr _).2 (fun g' g2' h5 f5 => tl0 ok (LI_s (LI_M J3 f5)) f5.2.1 (ot (LI_s J1) e3 f5.1 pM_lt rfl ?_ (nx _ _ _ _ _ _ _ _ _ (LI_M J3 f5)))) (fun n0 h5 f5 => absurd g n0) (fun g' n1 h5 f5 => absurd g2 n1)⟩
    first | rfl | (try rw [J1.1.2.2.2.2.1.1, J1.1.2.2.2.2.1.2.1]; rfl)
  · have J1 := J
    have t3 := SC_R J1 1
    have J3 := JI_R J1.1 1
    refine ⟨(t3).1, rx (t3) i0 i1 (by decide) (by decide) nN, (t3).1, rx (t3) i0 i1 (by decide) (by decide) nN, (t3).1, rx (t3) i0 i1 (by decide) (by decide) nN, ?_⟩
    rw [rd (t3) i0 i1 (j := 1) (by decide) (by decide) nN, rd (t3) i0 i1 (j := 2) (by decide) (by decide) nN, rd (t3) i0 i1 (j := 3) (by decide) (by decide) nN]
    exact ⟨st_t J3.1.1 (by decide), M_walkAt ok J3.1 J3.2.1 (xr _).1 (xr _).2 (xr _).1 (xr _).2 (xr _).1 (xr _).2 (fun g' g2' h5 f5 => absurd g' n0) (fun n0' h5 f5 => tl1 ok (LI_s (LI_R J1 (by decide) (by decide) f5)) f5.2.1 (by decide) (by decide) (nx _ _ _ _ _ _ _ _ _ (LI_R J1 (by decide) (by decide) f5))) (fun g' n1' h5 f5 => absurd g' n0)⟩
  · have J1 := LI_C J f1
    have t3 := SC_R J1 0
    have J3 := JI_R J1.1 0
    refine ⟨(t3).1, rx (t3) i0 i1 (by decide) (by decide) nN, (t3).1, rx (t3) i0 i1 (by decide) (by decide) nN, (t3).1, rx (t3) i0 i1 (by decide) (by decide) nN, ?_⟩
    rw [rd (t3) i0 i1 (j := 1) (by decide) (by decide) nN, rd (t3) i0 i1 (j := 2) (by decide) (by decide) nN, rd (t3) i0 i1 (j := 3) (by decide) (by decide) nN]
    exact ⟨st_t J3.1.1 (by decide), M_walkAt ok J3.1 J3.2.1 (xr _).1 (xr _).2 (xr _).1 (xr _).2 (xr _).1 (xr _).2 (fun g' g2' h5 f5 => absurd g2' n1) (fun n0' h5 f5 => absurd g n0') (fun g' n1' h5 f5 => tl1 ok (LI_s (LI_R J1 (by decide) (by decide) f5)) f5.2.1 (by decide) (by decide) (nx _ _ _ _ _ _ _ _ _ (LI_R J1 (by decide) (by decide) f5)))⟩
theorem cs_joined (ok : tr_ok E) (J : LI ad b N X h m one two H L u) (xr : ∀ z, -2147483648 ≤ X z ∧ X z ≤ 2147483647) (i0 : 0 ≤ i) (i1 : i + 6 ≤ N) (nN : N ≤ 3072) (nx : ∀ h' m' o' w' H' L' u' rc rs, LI ad b N X h' m' o' w' H' L' u' → G 1917 [some (.inr (.inr b)), some (.inr (.inr (ad 1))), some (.inr (.inr (ad 23))), some (.inr (.inr (ad 0))), some (.inl (ii i)), none, none, none] [] h' rc rs) : W_L_law_1332 (tr_C E) G Q h b (ad 1) (ad 23) (ad 0) (ii i) := by
  have s := LI_s J
  refine ⟨(J.2.2).1, rx (J.2.2) i0 i1 (by decide) (by decide) nN, ?_⟩
  rw [rd (J.2.2) i0 i1 (j := 1) (by decide) (by decide) nN]
  refine T_L_joined ok ⟨st_t s (by decide), K_joined ok J.1.2.2.1 J.1.2.1 (xr _).1 (xr _).2 (fun g h1 f1 => ⟨(og (LI_s (LI_C J f1))).1, (og (LI_s (LI_C J f1))).2, fun h3 e3 => ?_⟩) (fun n0 _ => ?_)⟩
  · rw [show ixn (ii 0) = 0 from ixn_ii (by omega) (by omega)] at e3
    have J1 := LI_C J f1
    have J3 : LI ad b N X h3 m one two H L u := by rw [e3]; exact J1
    refine ⟨(J3.2.2).1, rx (J3.2.2) i0 i1 (by decide) (by decide) nN, ?_⟩
    rw [rd (J3.2.2) i0 i1 (j := 1) (by decide) (by decide) nN]
    refine ⟨st_t (LI_s J3) (by decide), M_joined ok J3.1.1 J3.1.2.1 (xr _).1 (xr _).2 (fun g' h5 f5 => tl0 ok (LI_s (LI_M J3 f5)) f5.2.1 (ot (LI_s J1) e3 f5.1 pM_lt rfl ?_ (nx _ _ _ _ _ _ _ _ _ (LI_M J3 f5)))) (fun n0 h5 f5 => absurd g n0)⟩
    first | rfl | (try rw [J1.1.2.2.2.2.1.1, J1.1.2.2.2.2.1.2.1]; rfl)
  · have J1 := J
    have t3 := SC_R J1 1
    have J3 := JI_R J1.1 1
    refine ⟨(t3).1, rx (t3) i0 i1 (by decide) (by decide) nN, ?_⟩
    rw [rd (t3) i0 i1 (j := 1) (by decide) (by decide) nN]
    exact ⟨st_t J3.1.1 (by decide), M_joined ok J3.1 J3.2.1 (xr _).1 (xr _).2 (fun g' h5 f5 => absurd g' n0) (fun n0' h5 f5 => tl1 ok (LI_s (LI_R J1 (by decide) (by decide) f5)) f5.2.1 (by decide) (by decide) (nx _ _ _ _ _ _ _ _ _ (LI_R J1 (by decide) (by decide) f5)))⟩
theorem cs_estimate (ok : tr_ok E) (J : LI ad b N X h m one two H L u) (xr : ∀ z, -2147483648 ≤ X z ∧ X z ≤ 2147483647) (i0 : 0 ≤ i) (i1 : i + 6 ≤ N) (nN : N ≤ 3072) (nx : ∀ h' m' o' w' H' L' u' rc rs, LI ad b N X h' m' o' w' H' L' u' → G 1917 [some (.inr (.inr b)), some (.inr (.inr (ad 1))), some (.inr (.inr (ad 23))), some (.inr (.inr (ad 0))), some (.inl (ii i)), none, none, none] [] h' rc rs) : W_L_law_1388 (tr_C E) G Q h b (ad 1) (ad 23) (ad 0) (ii i) := by
  have s := LI_s J
  refine ⟨(J.2.2).1, rx (J.2.2) i0 i1 (by decide) (by decide) nN, (J.2.2).1, rx (J.2.2) i0 i1 (by decide) (by decide) nN, (J.2.2).1, rx (J.2.2) i0 i1 (by decide) (by decide) nN, ?_⟩
  rw [rd (J.2.2) i0 i1 (j := 1) (by decide) (by decide) nN, rd (J.2.2) i0 i1 (j := 2) (by decide) (by decide) nN, rd (J.2.2) i0 i1 (j := 3) (by decide) (by decide) nN]
  refine T_L_estimate ok ⟨st_t s (by decide), K_estimate ok J.1.2.2.1 J.1.2.1 (xr _).1 (xr _).2 (xr _).1 (xr _).2 (xr _).1 (xr _).2 (fun g g2 h1 f1 => ⟨(og (LI_s (LI_C J f1))).1, (og (LI_s (LI_C J f1))).2, fun h3 e3 => ?_⟩) (fun n0 _ => ?_) (fun g n1 _ => ?_)⟩
  · rw [show ixn (ii 0) = 0 from ixn_ii (by omega) (by omega)] at e3
    have J1 := LI_C J f1
    have J3 : LI ad b N X h3 m one two H L u := by rw [e3]; exact J1
    refine ⟨(J3.2.2).1, rx (J3.2.2) i0 i1 (by decide) (by decide) nN, (J3.2.2).1, rx (J3.2.2) i0 i1 (by decide) (by decide) nN, (J3.2.2).1, rx (J3.2.2) i0 i1 (by decide) (by decide) nN, ?_⟩
    rw [rd (J3.2.2) i0 i1 (j := 1) (by decide) (by decide) nN, rd (J3.2.2) i0 i1 (j := 2) (by decide) (by decide) nN, rd (J3.2.2) i0 i1 (j := 3) (by decide) (by decide) nN]
    refine ⟨st_t (LI_s J3) (by decide), M_estimate ok J3.1.1 J3.1.2.1 (xr _).1 (xr _).2 (xr _).1 (xr _).2 (xr _).1 (xr _).2 (fun g' g2' h5 f5 => tl0 ok (LI_s (LI_M J3 f5)) f5.2.1 (ot (LI_s J1) e3 f5.1 pM_lt rfl ?_ (nx _ _ _ _ _ _ _ _ _ (LI_M J3 f5)))) (fun n0 h5 f5 => absurd g n0) (fun g' n1 h5 f5 => absurd (g2.symm.trans n1) (by decide))⟩
    first | rfl | (try rw [J1.1.2.2.2.2.1.1, J1.1.2.2.2.2.1.2.1]; rfl)
  · have J1 := J
    have t3 := SC_R J1 1
    have J3 := JI_R J1.1 1
    refine ⟨(t3).1, rx (t3) i0 i1 (by decide) (by decide) nN, (t3).1, rx (t3) i0 i1 (by decide) (by decide) nN, (t3).1, rx (t3) i0 i1 (by decide) (by decide) nN, ?_⟩
    rw [rd (t3) i0 i1 (j := 1) (by decide) (by decide) nN, rd (t3) i0 i1 (j := 2) (by decide) (by decide) nN, rd (t3) i0 i1 (j := 3) (by decide) (by decide) nN]
    exact ⟨st_t J3.1.1 (by decide), M_estimate ok J3.1 J3.2.1 (xr _).1 (xr _).2 (xr _).1 (xr _).2 (xr _).1 (xr _).2 (fun g' g2' h5 f5 => absurd g' n0) (fun n0' h5 f5 => tl1 ok (LI_s (LI_R J1 (by decide) (by decide) f5)) f5.2.1 (by decide) (by decide) (nx _ _ _ _ _ _ _ _ _ (LI_R J1 (by decide) (by decide) f5))) (fun g' n1' h5 f5 => absurd g' n0)⟩
  · have J1 := J
    have t3 := SC_R J1 0
    have J3 := JI_R J1.1 0
    refine ⟨(t3).1, rx (t3) i0 i1 (by decide) (by decide) nN, (t3).1, rx (t3) i0 i1 (by decide) (by decide) nN, (t3).1, rx (t3) i0 i1 (by decide) (by decide) nN, ?_⟩
    rw [rd (t3) i0 i1 (j := 1) (by decide) (by decide) nN, rd (t3) i0 i1 (j := 2) (by decide) (by decide) nN, rd (t3) i0 i1 (j := 3) (by decide) (by decide) nN]
    exact ⟨st_t J3.1.1 (by decide), M_estimate ok J3.1 J3.2.1 (xr _).1 (xr _).2 (xr _).1 (xr _).2 (xr _).1 (xr _).2 (fun g' g2' h5 f5 => absurd (g2'.symm.trans n1) (by decide)) (fun n0' h5 f5 => absurd g n0') (fun g' n1' h5 f5 => tl1 ok (LI_s (LI_R J1 (by decide) (by decide) f5)) f5.2.1 (by decide) (by decide) (nx _ _ _ _ _ _ _ _ _ (LI_R J1 (by decide) (by decide) f5)))⟩
theorem cs_matrix (ok : tr_ok E) (J : LI ad b N X h m one two H L u) (xr : ∀ z, -2147483648 ≤ X z ∧ X z ≤ 2147483647) (i0 : 0 ≤ i) (i1 : i + 6 ≤ N) (nN : N ≤ 3072) (nx : ∀ h' m' o' w' H' L' u' rc rs, LI ad b N X h' m' o' w' H' L' u' → G 1917 [some (.inr (.inr b)), some (.inr (.inr (ad 1))), some (.inr (.inr (ad 23))), some (.inr (.inr (ad 0))), some (.inl (ii i)), none, none, none] [] h' rc rs) : W_L_law_1467 (tr_C E) G Q h b (ad 1) (ad 23) (ad 0) (ii i) := by
  have s := LI_s J
  refine ⟨(J.2.2).1, rx (J.2.2) i0 i1 (by decide) (by decide) nN, (J.2.2).1, rx (J.2.2) i0 i1 (by decide) (by decide) nN, (J.2.2).1, rx (J.2.2) i0 i1 (by decide) (by decide) nN, ?_⟩
  rw [rd (J.2.2) i0 i1 (j := 1) (by decide) (by decide) nN, rd (J.2.2) i0 i1 (j := 2) (by decide) (by decide) nN, rd (J.2.2) i0 i1 (j := 3) (by decide) (by decide) nN]
  refine T_L_matrix ok ⟨st_t s (by decide), K_matrix ok J.1.2.2.1 J.1.2.1 (xr _).1 (xr _).2 (xr _).1 (xr _).2 (xr _).1 (xr _).2 (fun g g2 h1 f1 => ⟨(og (LI_s (LI_C J f1))).1, (og (LI_s (LI_C J f1))).2, fun h3 e3 => ?_⟩) (fun n0 _ => ?_) (fun g n1 _ => ?_)⟩
  · rw [show ixn (ii 0) = 0 from ixn_ii (by omega) (by omega)] at e3
    have J1 := LI_C J f1
    have J3 : LI ad b N X h3 m one two H L u := by rw [e3]; exact J1
    refine ⟨(J3.2.2).1, rx (J3.2.2) i0 i1 (by decide) (by decide) nN, (J3.2.2).1, rx (J3.2.2) i0 i1 (by decide) (by decide) nN, (J3.2.2).1, rx (J3.2.2) i0 i1 (by decide) (by decide) nN, ?_⟩
    rw [rd (J3.2.2) i0 i1 (j := 1) (by decide) (by decide) nN, rd (J3.2.2) i0 i1 (j := 2) (by decide) (by decide) nN, rd (J3.2.2) i0 i1 (j := 3) (by decide) (by decide) nN]
    refine ⟨st_t (LI_s J3) (by decide), M_matrix ok J3.1.1 J3.1.2.1 (xr _).1 (xr _).2 (xr _).1 (xr _).2 (xr _).1 (xr _).2 (fun g' g2' h5 f5 => tl0 ok (LI_s (LI_M J3 f5)) f5.2.1 (ot (LI_s J1) e3 f5.1 pM_lt rfl ?_ (nx _ _ _ _ _ _ _ _ _ (LI_M J3 f5)))) (fun n0 h5 f5 => absurd g n0) (fun g' n1 h5 f5 => absurd g2 n1)⟩
    first | rfl | (try rw [J1.1.2.2.2.2.1.1, J1.1.2.2.2.2.1.2.1]; rfl)
  · have J1 := J
    have t3 := SC_R J1 0
    have J3 := JI_R J1.1 0
    refine ⟨(t3).1, rx (t3) i0 i1 (by decide) (by decide) nN, (t3).1, rx (t3) i0 i1 (by decide) (by decide) nN, (t3).1, rx (t3) i0 i1 (by decide) (by decide) nN, ?_⟩
    rw [rd (t3) i0 i1 (j := 1) (by decide) (by decide) nN, rd (t3) i0 i1 (j := 2) (by decide) (by decide) nN, rd (t3) i0 i1 (j := 3) (by decide) (by decide) nN]
    exact ⟨st_t J3.1.1 (by decide), M_matrix ok J3.1 J3.2.1 (xr _).1 (xr _).2 (xr _).1 (xr _).2 (xr _).1 (xr _).2 (fun g' g2' h5 f5 => absurd g' n0) (fun n0' h5 f5 => tl1 ok (LI_s (LI_R J1 (by decide) (by decide) f5)) f5.2.1 (by decide) (by decide) (nx _ _ _ _ _ _ _ _ _ (LI_R J1 (by decide) (by decide) f5))) (fun g' n1' h5 f5 => absurd g' n0)⟩
  · have J1 := J
    have t3 := SC_R J1 1
    have J3 := JI_R J1.1 1
    refine ⟨(t3).1, rx (t3) i0 i1 (by decide) (by decide) nN, (t3).1, rx (t3) i0 i1 (by decide) (by decide) nN, (t3).1, rx (t3) i0 i1 (by decide) (by decide) nN, ?_⟩
    rw [rd (t3) i0 i1 (j := 1) (by decide) (by decide) nN, rd (t3) i0 i1 (j := 2) (by decide) (by decide) nN, rd (t3) i0 i1 (j := 3) (by decide) (by decide) nN]
    exact ⟨st_t J3.1.1 (by decide), M_matrix ok J3.1 J3.2.1 (xr _).1 (xr _).2 (xr _).1 (xr _).2 (xr _).1 (xr _).2 (fun g' g2' h5 f5 => absurd g2' n1) (fun n0' h5 f5 => absurd g n0') (fun g' n1' h5 f5 => tl1 ok (LI_s (LI_R J1 (by decide) (by decide) f5)) f5.2.1 (by decide) (by decide) (nx _ _ _ _ _ _ _ _ _ (LI_R J1 (by decide) (by decide) f5)))⟩
theorem cs_fates (ok : tr_ok E) (J : LI ad b N X h m one two H L u) (xr : ∀ z, -2147483648 ≤ X z ∧ X z ≤ 2147483647) (i0 : 0 ≤ i) (i1 : i + 6 ≤ N) (nN : N ≤ 3072) (nx : ∀ h' m' o' w' H' L' u' rc rs, LI ad b N X h' m' o' w' H' L' u' → G 1917 [some (.inr (.inr b)), some (.inr (.inr (ad 1))), some (.inr (.inr (ad 23))), some (.inr (.inr (ad 0))), some (.inl (ii i)), none, none, none] [] h' rc rs) : W_L_law_1546 (tr_C E) G Q h b (ad 1) (ad 23) (ad 0) (ii i) := by
  have s := LI_s J
  refine ⟨(J.2.2).1, rx (J.2.2) i0 i1 (by decide) (by decide) nN, ?_⟩
  rw [rd (J.2.2) i0 i1 (j := 1) (by decide) (by decide) nN]
  refine T_L_fates ok ⟨st_t s (by decide), K_fates ok J.1.2.2.1 J.1.2.1 (xr _).1 (xr _).2 (fun g => ⟨(og s).1, (og s).2, fun h3 e3 => ?_⟩) (fun n0 _ => ?_)⟩
  · rw [show ixn (ii 0) = 0 from ixn_ii (by omega) (by omega)] at e3
    have J1 := J
    have J3 : LI ad b N X h3 m one two H L u := by rw [e3]; exact J1
    refine ⟨(J3.2.2).1, rx (J3.2.2) i0 i1 (by decide) (by decide) nN, ?_⟩
    rw [rd (J3.2.2) i0 i1 (j := 1) (by decide) (by decide) nN]
    refine ⟨st_t (LI_s J3) (by decide), M_fates ok J3.1.1 J3.1.2.1 (xr _).1 (xr _).2 (fun g' h5 f5 => tl0 ok (LI_s (LI_M J3 f5)) f5.2.1 (ot (LI_s J1) e3 f5.1 pM_lt rfl ?_ (nx _ _ _ _ _ _ _ _ _ (LI_M J3 f5)))) (fun n0 h5 f5 => absurd g n0)⟩
    first | rfl | (try rw [J1.1.2.2.2.2.1.1, J1.1.2.2.2.2.1.2.1]; rfl)
  · have J1 := J
    have t3 := SC_R J1 1
    have J3 := JI_R J1.1 1
    refine ⟨(t3).1, rx (t3) i0 i1 (by decide) (by decide) nN, ?_⟩
    rw [rd (t3) i0 i1 (j := 1) (by decide) (by decide) nN]
    exact ⟨st_t J3.1.1 (by decide), M_fates ok J3.1 J3.2.1 (xr _).1 (xr _).2 (fun g' h5 f5 => absurd g' n0) (fun n0' h5 f5 => tl1 ok (LI_s (LI_R J1 (by decide) (by decide) f5)) f5.2.1 (by decide) (by decide) (nx _ _ _ _ _ _ _ _ _ (LI_R J1 (by decide) (by decide) f5)))⟩
theorem cs_clashes (ok : tr_ok E) (J : LI ad b N X h m one two H L u) (xr : ∀ z, -2147483648 ≤ X z ∧ X z ≤ 2147483647) (i0 : 0 ≤ i) (i1 : i + 6 ≤ N) (nN : N ≤ 3072) (nx : ∀ h' m' o' w' H' L' u' rc rs, LI ad b N X h' m' o' w' H' L' u' → G 1917 [some (.inr (.inr b)), some (.inr (.inr (ad 1))), some (.inr (.inr (ad 23))), some (.inr (.inr (ad 0))), some (.inl (ii i)), none, none, none] [] h' rc rs) : W_L_law_1698 (tr_C E) G Q h b (ad 1) (ad 23) (ad 0) (ii i) := by
  have s := LI_s J
  refine ⟨(J.2.2).1, rx (J.2.2) i0 i1 (by decide) (by decide) nN, ?_⟩
  rw [rd (J.2.2) i0 i1 (j := 1) (by decide) (by decide) nN]
  refine T_L_clashes ok ⟨st_t s (by decide), K_clashes ok J.1.2.2.1 J.1.2.1 (xr _).1 (xr _).2 (fun g h1 f1 => ⟨(og (LI_s (LI_C J f1))).1, (og (LI_s (LI_C J f1))).2, fun h3 e3 => ?_⟩) (fun n0 _ => ?_)⟩
  · rw [show ixn (ii 0) = 0 from ixn_ii (by omega) (by omega)] at e3
    have J1 := LI_C J f1
    have J3 : LI ad b N X h3 m one two H L u := by rw [e3]; exact J1
    refine ⟨(J3.2.2).1, rx (J3.2.2) i0 i1 (by decide) (by decide) nN, ?_⟩
    rw [rd (J3.2.2) i0 i1 (j := 1) (by decide) (by decide) nN]
    refine ⟨st_t (LI_s J3) (by decide), M_clashes ok J3.1.1 J3.1.2.1 (xr _).1 (xr _).2 (fun g' h5 f5 => tl0 ok (LI_s (LI_M J3 f5)) f5.2.1 (ot (LI_s J1) e3 f5.1 pM_lt rfl ?_ (nx _ _ _ _ _ _ _ _ _ (LI_M J3 f5)))) (fun n0 h5 f5 => absurd g n0)⟩
    first | rfl | (try rw [J1.1.2.2.2.2.1.1, J1.1.2.2.2.2.1.2.1]; rfl)
  · have J1 := J
    have t3 := SC_R J1 1
    have J3 := JI_R J1.1 1
    refine ⟨(t3).1, rx (t3) i0 i1 (by decide) (by decide) nN, ?_⟩
    rw [rd (t3) i0 i1 (j := 1) (by decide) (by decide) nN]
    exact ⟨st_t J3.1.1 (by decide), M_clashes ok J3.1 J3.2.1 (xr _).1 (xr _).2 (fun g' h5 f5 => absurd g' n0) (fun n0' h5 f5 => tl1 ok (LI_s (LI_R J1 (by decide) (by decide) f5)) f5.2.1 (by decide) (by decide) (nx _ _ _ _ _ _ _ _ _ (LI_R J1 (by decide) (by decide) f5)))⟩
theorem cs_bestKey (ok : tr_ok E) (J : LI ad b N X h m one two H L u) (xr : ∀ z, -2147483648 ≤ X z ∧ X z ≤ 2147483647) (i0 : 0 ≤ i) (i1 : i + 6 ≤ N) (nN : N ≤ 3072) (nx : ∀ h' m' o' w' H' L' u' rc rs, LI ad b N X h' m' o' w' H' L' u' → G 1917 [some (.inr (.inr b)), some (.inr (.inr (ad 1))), some (.inr (.inr (ad 23))), some (.inr (.inr (ad 0))), some (.inl (ii i)), none, none, none] [] h' rc rs) : W_L_law_1754 (tr_C E) G Q h b (ad 1) (ad 23) (ad 0) (ii i) := by
  have s := LI_s J
  refine ⟨(J.2.2).1, rx (J.2.2) i0 i1 (by decide) (by decide) nN, (J.2.2).1, rx (J.2.2) i0 i1 (by decide) (by decide) nN, ?_⟩
  rw [rd (J.2.2) i0 i1 (j := 1) (by decide) (by decide) nN, rd (J.2.2) i0 i1 (j := 2) (by decide) (by decide) nN]
  refine T_L_bestKey ok ⟨st_t s (by decide), K_bestKey ok J.1.2.2.1 J.1.2.1 (xr _).1 (xr _).2 (xr _).1 (xr _).2 (fun g h1 f1 => ⟨(og (LI_s (LI_C J f1))).1, (og (LI_s (LI_C J f1))).2, fun h3 e3 => ?_⟩) (fun n0 _ => ?_)⟩
  · rw [show ixn (ii 0) = 0 from ixn_ii (by omega) (by omega)] at e3
    have J1 := LI_C J f1
    have J3 : LI ad b N X h3 m one two H L u := by rw [e3]; exact J1
    refine ⟨(J3.2.2).1, rx (J3.2.2) i0 i1 (by decide) (by decide) nN, (J3.2.2).1, rx (J3.2.2) i0 i1 (by decide) (by decide) nN, ?_⟩
    rw [rd (J3.2.2) i0 i1 (j := 1) (by decide) (by decide) nN, rd (J3.2.2) i0 i1 (j := 2) (by decide) (by decide) nN]
    refine ⟨st_t (LI_s J3) (by decide), M_bestKey ok J3.1.1 J3.1.2.1 (xr _).1 (xr _).2 (xr _).1 (xr _).2 (fun g' h5 f5 => tl0 ok (LI_s (LI_M J3 f5)) f5.2.1 (ot (LI_s J1) e3 f5.1 pM_lt rfl ?_ (nx _ _ _ _ _ _ _ _ _ (LI_M J3 f5)))) (fun n0 h5 f5 => absurd g n0)⟩
    first | rfl | (try rw [J1.1.2.2.2.2.1.1, J1.1.2.2.2.2.1.2.1]; rfl)
  · have J1 := J
    have t3 := SC_R J1 1
    have J3 := JI_R J1.1 1
    refine ⟨(t3).1, rx (t3) i0 i1 (by decide) (by decide) nN, (t3).1, rx (t3) i0 i1 (by decide) (by decide) nN, ?_⟩
    rw [rd (t3) i0 i1 (j := 1) (by decide) (by decide) nN, rd (t3) i0 i1 (j := 2) (by decide) (by decide) nN]
    exact ⟨st_t J3.1.1 (by decide), M_bestKey ok J3.1 J3.2.1 (xr _).1 (xr _).2 (xr _).1 (xr _).2 (fun g' h5 f5 => absurd g' n0) (fun n0' h5 f5 => tl1 ok (LI_s (LI_R J1 (by decide) (by decide) f5)) f5.2.1 (by decide) (by decide) (nx _ _ _ _ _ _ _ _ _ (LI_R J1 (by decide) (by decide) f5)))⟩
theorem cs_bestMask (ok : tr_ok E) (J : LI ad b N X h m one two H L u) (xr : ∀ z, -2147483648 ≤ X z ∧ X z ≤ 2147483647) (i0 : 0 ≤ i) (i1 : i + 6 ≤ N) (nN : N ≤ 3072) (nx : ∀ h' m' o' w' H' L' u' rc rs, LI ad b N X h' m' o' w' H' L' u' → G 1917 [some (.inr (.inr b)), some (.inr (.inr (ad 1))), some (.inr (.inr (ad 23))), some (.inr (.inr (ad 0))), some (.inl (ii i)), none, none, none] [] h' rc rs) : W_L_law_1822 (tr_C E) G Q h b (ad 1) (ad 23) (ad 0) (ii i) := by
  have s := LI_s J
  refine ⟨(J.2.2).1, rx (J.2.2) i0 i1 (by decide) (by decide) nN, ?_⟩
  rw [rd (J.2.2) i0 i1 (j := 1) (by decide) (by decide) nN]
  refine T_L_bestMask ok ⟨st_t s (by decide), K_bestMask ok J.1.2.2.1 J.1.2.1 (xr _).1 (xr _).2 (fun g h1 f1 => ⟨(og (LI_s (LI_C J f1))).1, (og (LI_s (LI_C J f1))).2, fun h3 e3 => ?_⟩) (fun n0 _ => ?_)⟩
  · rw [show ixn (ii 0) = 0 from ixn_ii (by omega) (by omega)] at e3
    have J1 := LI_C J f1
    have J3 : LI ad b N X h3 m one two H L u := by rw [e3]; exact J1
    refine ⟨(J3.2.2).1, rx (J3.2.2) i0 i1 (by decide) (by decide) nN, ?_⟩
    rw [rd (J3.2.2) i0 i1 (j := 1) (by decide) (by decide) nN]
    refine ⟨st_t (LI_s J3) (by decide), M_bestMask ok J3.1.1 J3.1.2.1 (xr _).1 (xr _).2 (fun g' h5 f5 => tl0 ok (LI_s (LI_M J3 f5)) f5.2.1 (ot (LI_s J1) e3 f5.1 pM_lt rfl ?_ (nx _ _ _ _ _ _ _ _ _ (LI_M J3 f5)))) (fun n0 h5 f5 => absurd g n0)⟩
    first | rfl | (try rw [J1.1.2.2.2.2.1.1, J1.1.2.2.2.2.1.2.1]; rfl)
  · have J1 := J
    have t3 := SC_R J1 1
    have J3 := JI_R J1.1 1
    refine ⟨(t3).1, rx (t3) i0 i1 (by decide) (by decide) nN, ?_⟩
    rw [rd (t3) i0 i1 (j := 1) (by decide) (by decide) nN]
    exact ⟨st_t J3.1.1 (by decide), M_bestMask ok J3.1 J3.2.1 (xr _).1 (xr _).2 (fun g' h5 f5 => absurd g' n0) (fun n0' h5 f5 => tl1 ok (LI_s (LI_R J1 (by decide) (by decide) f5)) f5.2.1 (by decide) (by decide) (nx _ _ _ _ _ _ _ _ _ (LI_R J1 (by decide) (by decide) f5)))⟩
end CS
