/-! THE LAW'S CASES: text -/
section CS
variable {E : tr_Env} {ad : Nat → Nat} {b N : Nat} {X : Int → Int} {h : tr_H} {m one two : Int → Int} {H L u i : Int} {Q : tr_Q} {G : Nat → tr_K}
theorem cs_text (ok : tr_ok E) (J : LI ad b N X h m one two H L u) (xr : ∀ z, -2147483648 ≤ X z ∧ X z ≤ 2147483647) (i0 : 0 ≤ i) (i1 : i + 6 ≤ N) (nN : N ≤ 3072) (nx : ∀ h' m' o' w' H' L' u' rc rs, LI ad b N X h' m' o' w' H' L' u' → G 1917 [some (.inr (.inr b)), some (.inr (.inr (ad 1))), some (.inr (.inr (ad 23))), some (.inr (.inr (ad 0))), some (.inl (ii i)), none, none, none] [] h' rc rs) : W_L_law_249 (tr_C E) G Q h b (ad 1) (ad 23) (ad 0) (ii i) := by
  have s := LI_s J
  obtain ⟨q1, q2, q3⟩ := J.1.2.2.2.2.2.2.1
  have e14 : gv h (ad 23) 14 = gv h (ad 1) 1 := q1.symm
  have jd := J.1.2.2.2.2.2.2.2.1
  have key : ∀ {h3 : tr_H} {t : Int → Int}, gv h3 (ad 32) = gv h (ad 32) → gv h3 (ad 26) = gv h (ad 26) → gv h3 (ad 30) = gv h (ad 30) → gv h3 (ad 31) = gv h (ad 31) → (∀ z, z < X (i + 1) → t z = byx (gv h3 (ad 32) z)) → txAll t (clf (gv h3 (ad 26))) (gv h3 (ad 30)) (gv h3 (ad 31)) (X (i + 1)) = txAll (gv h (ad 5)) (clf (gv h (ad 26))) (gv h (ad 30)) (gv h (ad 31)) (X (i + 1)) := fun {h3 t} a32 a26 a30 a31 tt => by
    rw [a26, a30, a31]
    exact txAll_cg (fun z hz => by rw [tt z hz, a32, (jd z).1, (jd z).2])
  refine ⟨J.2.2.1, rx J.2.2 i0 i1 (by decide) (by decide) nN, ?_⟩
  rw [rd J.2.2 i0 i1 (j := 1) (by decide) (by decide) nN]
  refine T_L_text ok ⟨st_t s (by decide), K_text (t := gv h (ad 5)) (g := gv h (ad 26)) (o2 := gv h (ad 30)) (w2 := gv h (ad 31)) ok s rfl q2 q3 (xr _).1 (xr _).2 (fun _ _ _ => rfl) (fun n0 _ => ?_) (fun g kd wh e h1 f1 a1 => ⟨(og (st_fr s f1)).1, (og (st_fr s f1)).2, fun h3 e3 => ?_⟩) (fun g H' m' o' w' L' e v h1 k1 => ⟨(og (st_fr s k1.1)).1, (og (st_fr s k1.1)).2, fun h3 e3 => ?_⟩)⟩
  · have t3 := SC_R J 1
    have J3 := JI_R J.1 1
    have c14 : gv (rfz ad h 1) (ad 23) 14 = gv h (ad 1) 1 := (fr_gf s (fr_rfz (k := 1)) rfl p7_lt rfl).trans e14
    refine ⟨t3.1, rx t3 i0 i1 (by decide) (by decide) nN, ?_⟩
    rw [rd t3 i0 i1 (j := 1) (by decide) (by decide) nN]
    exact ⟨st_t J3.1.1 (by decide), M_text ok J3.1.1 c14 q2 q3 (xr _).1 (xr _).2 (fun _ h5 f5 => tl1 ok (LI_s (LI_R J (by decide) (by decide) f5)) f5.2.1 (by decide) (by decide) (nx _ _ _ _ _ _ _ _ _ (LI_R J (by decide) (by decide) f5))) (fun g => absurd g n0) (fun g => absurd g n0)⟩
  · rw [show ixn (ii 0) = 0 from ixn_ii (by omega) (by omega)] at e3
    have f3 := fr_JJ f1 (ad 0) 0 (ii (kd - 10)).toInt64
    rw [← e3] at f3
    have J0 : LI ad b N X (hsJ h (ad 0) 0 (ii (kd - 10)).toInt64) m one two H L u := J
    have s3 := st_fr (LI_s J0) f3
    have t3 := SC_fr (LI_s J0) J0.2.2 f3 pH_lt
    have a3 : gv h3 (ad 1) = ud (ud (gv h (ad 1)) 1 0) 2 wh := by rw [e3]; exact a1
    have c14 : gv h3 (ad 23) 14 = gv h (ad 1) 1 := (fr_gf (LI_s J0) f3 rfl pH_lt rfl).trans e14
    have g32 : gv h3 (ad 32) = gv h (ad 32) := fr_gv (LI_s J0) f3 (by decide) (by decide) rfl pH_lt
    have g26 : gv h3 (ad 26) = gv h (ad 26) := fr_gv (LI_s J0) f3 (by decide) (by decide) rfl pH_lt
    have g30 : gv h3 (ad 30) = gv h (ad 30) := fr_gv (LI_s J0) f3 (by decide) (by decide) rfl pH_lt
    have g31 : gv h3 (ad 31) = gv h (ad 31) := fr_gv (LI_s J0) f3 (by decide) (by decide) rfl pH_lt
    refine ⟨t3.1, rx t3 i0 i1 (by decide) (by decide) nN, ?_⟩
    rw [rd t3 i0 i1 (j := 1) (by decide) (by decide) nN]
    refine ⟨st_t s3 (by decide), M_text ok s3 c14 q2 q3 (xr _).1 (xr _).2 (fun n0 => absurd g n0) (fun _ t tt kd' wh' e' h5 f5 b0 b14 b20 => ?_) (fun _ t tt H' m' o' w' L' e' => ?_)⟩
    · rw [key g32 g26 g30 g31 tt, e] at e'
      have e2 : kd = kd' ∧ wh = wh' := by
        have := Sum.inl.inj e'
        exact ⟨congrArg Prod.fst this, congrArg Prod.snd this⟩
      have s5 := st_fr s3 f5
      refine tl0 ok s5 b0 (ot (st_fr s f1) e3 f5 pTY_lt rfl (by rw [e2.1]) (nx _ _ _ _ _ _ _ _ _ ⟨JI_X (wh := wh) J0.1 f3 a3 f5 b14 (by rw [e2.2]; exact b20), fun z z0 z1 => ?_, SC_fr s3 t3 f5 pTY_lt⟩))
      rw [(fr_gv s3 f5 (by decide) (by decide) rfl pTY_lt).trans (fr_gv (LI_s J0) f3 (by decide) (by decide) rfl pH_lt), (fr_gv s3 f5 (by decide) (by decide) rfl pTY_lt).trans (fr_gv (LI_s J0) f3 (by decide) (by decide) rfl pH_lt)]
      exact J.2.1 z z0 z1
    · rw [key g32 g26 g30 g31 tt, e] at e'
      cases e'
  · rw [show ixn (ii 0) = 0 from ixn_ii (by omega) (by omega)] at e3
    have f3 := fr_JJ k1.1 (ad 0) 0 (ii L').toInt64
    have K3 : KTZ ad (hsJ h (ad 0) 0 (ii L').toInt64) m' o' w' H' L' (hsJ h1 (ad 0) 0 (ii L').toInt64) := ⟨f3, k1.2.1, k1.2.2.1, k1.2.2.2⟩
    rw [← e3] at f3 K3
    have J0 : LI ad b N X (hsJ h (ad 0) 0 (ii L').toInt64) m one two H L u := J
    have s3 := st_fr (LI_s J0) f3
    have t3 := SC_fr (LI_s J0) J0.2.2 f3 pH_lt
    have c14 : gv h3 (ad 23) 14 = gv h (ad 1) 1 := (fr_gf (LI_s J0) f3 rfl pH_lt rfl).trans e14
    have g32 : gv h3 (ad 32) = gv h (ad 32) := fr_gv (LI_s J0) f3 (by decide) (by decide) rfl pH_lt
    have g26 : gv h3 (ad 26) = gv h (ad 26) := fr_gv (LI_s J0) f3 (by decide) (by decide) rfl pH_lt
    have g30 : gv h3 (ad 30) = gv h (ad 30) := fr_gv (LI_s J0) f3 (by decide) (by decide) rfl pH_lt
    have g31 : gv h3 (ad 31) = gv h (ad 31) := fr_gv (LI_s J0) f3 (by decide) (by decide) rfl pH_lt
    refine ⟨t3.1, rx t3 i0 i1 (by decide) (by decide) nN, ?_⟩
    rw [rd t3 i0 i1 (j := 1) (by decide) (by decide) nN]
    refine ⟨st_t s3 (by decide), M_text ok s3 c14 q2 q3 (xr _).1 (xr _).2 (fun n0 => absurd g n0) (fun _ t tt kd' wh' e' => ?_) (fun _ t tt H2 m2 o2 w2 L2 e' v2 h5 k5 => ?_)⟩
    · rw [key g32 g26 g30 g31 tt, e] at e'
      cases e'
    · rw [key g32 g26 g30 g31 tt, e] at e'
      have e2 := Sum.inr.inj e'
      have eH : H' = H2 := congrArg (fun q => q.1) e2
      have em : m' = m2 := congrArg (fun q => q.2.1) e2
      have eo : o' = o2 := congrArg (fun q => q.2.2.1) e2
      have ew : w' = w2 := congrArg (fun q => q.2.2.2.1) e2
      have eL : L' = L2 := congrArg (fun q => q.2.2.2.2) e2
      rw [← eH, ← em, ← eo, ← ew, ← eL] at k5
      rw [← eL]
      have s5 := st_fr s3 k5.1
      refine tl0 ok s5 k5.2.1 (ot (st_fr s k1.1) e3 k5.1 pTX_lt rfl rfl (nx _ _ _ _ _ _ _ _ _ ⟨JI_Y J0.1 v K3 k5, fun z z0 z1 => ?_, SC_fr s3 t3 k5.1 pTX_lt⟩))
      rw [(fr_gv s3 k5.1 (by decide) (by decide) rfl pTX_lt).trans (fr_gv (LI_s J0) f3 (by decide) (by decide) rfl pH_lt), (fr_gv s3 k5.1 (by decide) (by decide) rfl pTX_lt).trans (fr_gv (LI_s J0) f3 (by decide) (by decide) rfl pH_lt)]
      exact J.2.1 z z0 z1
end CS
