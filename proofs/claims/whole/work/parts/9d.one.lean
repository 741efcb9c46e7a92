/-! ONE CALL OF THE LAW -/
def LI (ad : Nat → Nat) (b N : Nat) (X : Int → Int) (h : tr_H) (m one two : Int → Int) (H L u : Int) : Prop := JI ad h m one two H L u ∧ RF ad h ∧ ht h b = 17 ∧ hn h b = N ∧ gv h b = X
section LIS
variable {E : tr_Env} {ad : Nat → Nat} {b N : Nat} {X : Int → Int} {h h1 h2 : tr_H} {m m' one two : Int → Int} {H L u : Int} {P : Nat → Bool} {F : Int → Bool} {R : Bool} {Q : tr_Q}
theorem dyn17 (s : stat ad h) (t : ht h b = 17) : dyn ad b := fun i hi e => by
  rw [e, st_t s hi] at t
  unfold tg at t
  split at t <;> omega
theorem SC_fr (s : stat ad h) (t : ht h b = 17 ∧ hn h b = N ∧ gv h b = X) (f : fr ad P F R h h1) (hP : ∀ j, P j = true → j < 42) : ht h1 b = 17 ∧ hn h1 b = N ∧ gv h1 b = X := by
  obtain ⟨a1, a2, a3, -, -⟩ := fr_dyn f hP (by rw [t.1]; decide) (dyn17 s t.1)
  exact ⟨a1.trans t.1, a2.trans t.2.1, a3.trans t.2.2⟩
theorem LI_s (J : LI ad b N X h m one two H L u) : stat ad h := J.1.1.1
theorem LI_C (J : LI ad b N X h m one two H L u) (f : fr ad pC f0 false h h1) : LI ad b N X h1 m one two H L u := ⟨JI_C J.1 f, RF_C (LI_s J) J.2.1 f, SC_fr (LI_s J) J.2.2 f pC_lt⟩
theorem LI_J (J : LI ad b N X h m one two H L u) {r k : Nat} {x : Int64} : LI ad b N X (hsJ h r k x) m one two H L u := J
theorem LI_M (J : LI ad b N X h m one two H L u) {k : Int} (f : mpo ad h 0 k h1) : LI ad b N X h1 m one two H L u := ⟨JI_M J.1 f.1, RF_M (LI_s J) J.2.1 f, SC_fr (LI_s J) J.2.2 f.1 pM_lt⟩
theorem LI_R (J : LI ad b N X h m one two H L u) {c : Int} {k : Nat} (hc : c ≠ 0) (k2 : k ≤ 2) (f : mpo ad (rfz ad h k) c k h1) : LI ad b N X h1 m one two H L u := by
  have s := LI_s J
  have s1 : stat ad (rfz ad h k) := s
  exact ⟨JI_M (JI_R J.1 k) f.1, RF_R s J.2.1 hc k2 f, SC_fr s1 (SC_fr s J.2.2 (fr_rfz (k := k)) p7_lt) f.1 pM_lt⟩
theorem SC_R (J : LI ad b N X h m one two H L u) (k : Nat) : ht (rfz ad h k) b = 17 ∧ hn (rfz ad h k) b = N ∧ gv (rfz ad h k) b = X := SC_fr (LI_s J) J.2.2 (fr_rfz (k := k)) p7_lt
theorem rx (t : ht h b = 17 ∧ hn h b = N ∧ gv h b = X) {i j : Int} (i0 : 0 ≤ i) (i1 : i + 6 ≤ N) (j0 : 0 ≤ j) (j1 : j ≤ 5) (n1 : N ≤ 3072) : ixo (ii i + ii j) (hn h b) := by
  rw [ii_add, ixo_ii (by omega) (by omega), t.2.1]; omega
theorem rd (t : ht h b = 17 ∧ hn h b = N ∧ gv h b = X) {i j : Int} (i0 : 0 ≤ i) (i1 : i + 6 ≤ N) (j0 : 0 ≤ j) (j1 : j ≤ 5) (n1 : N ≤ 3072) : hI h b (ixn (ii i + ii j)) = ii (X (i + j)) := by
  rw [ii_add, ixn_ii (by omega) (by omega), hI_gv, t.2.2, Int.toNat_of_nonneg (by omega)]
theorem thr (ok : tr_ok E) (s : stat ad h) {c : Int} (e0 : gv h (ad 23) 0 = c) (q : Q (.inl (some (.inl (ii c)))) h) : tr_C E 119 [.inr (.inr (ad 23))] h Q := by
  refine T_X8_thrown ok ⟨st_t s (by decide), ?_⟩
  rw [show hI h (ad 23) 0 = ii c from hI_e e0]; exact q
theorem tl0 (ok : tr_ok E) (s : stat ad h) (e0 : gv h (ad 23) 0 = 0) {A B D : tr_H → Prop} (g : D h) : ht h (ad 23) = 9 ∧ tr_C E 119 [.inr (.inr (ad 23))] h (kI (fun v6 h5 => (v6 = ii 0 → ((ii 0 = ii 0 → D h5) ∧ (¬ ii 0 = ii 0 → A h5))) ∧ (¬ v6 = ii 0 → B h5)) (fun E h' => Q (.inr E) h')) :=
  ⟨st_t s (by decide), thr ok s e0 ⟨fun _ => ⟨fun _ => g, fun e => absurd rfl e⟩, fun e => absurd rfl e⟩⟩
theorem tl1 (ok : tr_ok E) (s : stat ad h) {c : Int} (e0 : gv h (ad 23) 0 = c) (c0 : 1 ≤ c) (c1 : c ≤ 2) {A B D : tr_H → Prop} (g : A h) : ht h (ad 23) = 9 ∧ tr_C E 119 [.inr (.inr (ad 23))] h (kI (fun v6 h5 => (v6 = ii c → ((ii c = ii 0 → D h5) ∧ (¬ ii c = ii 0 → A h5))) ∧ (¬ v6 = ii c → B h5)) (fun E h' => Q (.inr E) h')) :=
  ⟨st_t s (by decide), thr ok s e0 ⟨fun _ => ⟨fun e => by rw [ii_eq (by omega) (by omega) (by omega) (by omega)] at e; omega, fun _ => g⟩, fun e => absurd rfl e⟩⟩
theorem hJ_oJ (h : tr_H) (r k : Nat) (x : Int64) : hJ (hsJ h r k x) r k = x := by
  show up2 (hJ h) r k x r k = x
  unfold up2; rw [if_pos rfl, if_pos rfl]
/-- what the wrapper has put aside is there still -/
theorem ot (s : stat ad h) {h3 : tr_H} {x y : Int64} (e3 : h3 = hsJ h (ad 0) 0 x) (f : fr ad P F R h3 h1) (hP : ∀ j, P j = true → j < 42) (p0 : P 0 = false) {A B : Prop} (e : x = y) (g : A) : ht h1 (ad 0) = 14 ∧ ixo (ii 0) (hn h1 (ad 0)) ∧ ((lg_cmp (hJ h1 (ad 0) (ixn (ii 0))) y = ii 0 → A) ∧ (¬ lg_cmp (hJ h1 (ad 0) (ixn (ii 0))) y = ii 0 → B)) := by
  subst e3
  have s0 : stat ad (hsJ h (ad 0) 0 x) := s
  have s1 := st_fr s0 f
  have ix : ixn (ii 0) = 0 := ixn_ii (by omega) (by omega)
  have j : hJ h1 (ad 0) 0 = x := by
    rw [((f (ad 0) (st_0 s0 (by decide))).2.2.1 (fun i hi e => by
      have := s.1 0 i (by decide) (hP i hi) e
      rw [← this, p0] at hi; cases hi)).2]
    exact hJ_oJ _ _ _ _
  refine ⟨st_t s1 (by decide), ?_, fun _ => g, fun q => absurd ?_ q⟩
  · rw [ixo_ii (by omega) (by omega), st_n s1 (by decide)]; exact ⟨by decide, by decide⟩
  · rw [ix, j, e, cmp0]
theorem fr_JJ (f : fr ad P F R h h1) (r k : Nat) (x : Int64) : fr ad P F R (hsJ h r k x) (hsJ h1 r k x) := by
  intro y hy
  obtain ⟨a1, a2, a3, a4⟩ := f y hy
  refine ⟨a1, a2, fun q => ⟨(a3 q).1, ?_⟩, a4⟩
  have e := (a3 q).2
  funext j
  show up2 (hJ h1) r k x y j = up2 (hJ h) r k x y j
  unfold up2
  rw [e]
theorem KP_J (a : KP ad h m' one two H L u h1) (r k : Nat) (x : Int64) : KP ad (hsJ h r k x) m' one two H L u (hsJ h1 r k x) := ⟨fr_JJ a.1 r k x, a.2.1, a.2.2.1, a.2.2.2⟩
theorem LI_P (J : LI ad b N X h m one two H L u) (v' : vok m' one two H L) (a : KP ad h m' one two H L u h1) (c : MP ad h1 m m' u h2) : LI ad b N X h2 m' one two H L (nxU u) := ⟨JI_P J.1 v' a c, RF_P (LI_s J) J.2.1 a c, SC_fr (st_fr (LI_s J) a.1) (SC_fr (LI_s J) J.2.2 a.1 pH_lt) c.1 pW_lt⟩
theorem og (s : stat ad h) : ht h (ad 0) = 14 ∧ ixo (ii 0) (hn h (ad 0)) := ⟨st_t s (by decide), by rw [ixo_ii (by omega) (by omega), st_n s (by decide)]; exact ⟨by decide, by decide⟩⟩
end LIS
