/-! WHAT STANDS FAST: the cells that are made once, by number -/
def tg (i : Nat) : Nat := match i with
  | 0 => 14
  | 1 => 8
  | 2 => 2
  | 3 => 1
  | 4 => 6
  | 5 => 12
  | 6 => 15
  | 18 => 13
  | 23 => 9
  | 32 => 12
  | 33 => 12
  | _ => 11
def ln (i : Nat) : Nat := match i with
  | 0 => 1
  | 1 => 0
  | 2 => 0
  | 3 => 0
  | 4 => 0
  | 5 => 400
  | 6 => 12
  | 7 => 3
  | 8 => 10
  | 9 => 24
  | 10 => 520
  | 11 => 520
  | 12 => 520
  | 13 => 520
  | 14 => 40
  | 15 => 40
  | 16 => 40
  | 17 => 520
  | 18 => 40
  | 19 => 40
  | 20 => 40
  | 21 => 64
  | 22 => 997
  | 23 => 0
  | 24 => 3
  | 25 => 867
  | 26 => 867
  | 27 => 10404
  | 28 => 24
  | 29 => 24
  | 30 => 24
  | 31 => 24
  | 32 => 400
  | 33 => 400
  | 34 => 10
  | 35 => 24
  | 36 => 41
  | 37 => 42
  | 38 => 520
  | 39 => 41
  | 40 => 42
  | _ => 520
def rf (i k : Nat) : Nat := match i, k with
  | 1, 0 => 5
  | 1, 4 => 6
  | 1, 6 => 7
  | 1, 7 => 2
  | 1, 8 => 3
  | 1, 9 => 4
  | 2, 0 => 8
  | 2, 1 => 9
  | 2, 4 => 10
  | 2, 5 => 11
  | 2, 6 => 12
  | 2, 7 => 13
  | 2, 11 => 14
  | 2, 12 => 15
  | 2, 13 => 16
  | 2, 14 => 17
  | 2, 15 => 18
  | 3, 0 => 19
  | 3, 1 => 20
  | 3, 2 => 21
  | 4, 0 => 22
  | 23, 1 => 24
  | 23, 2 => 25
  | 23, 3 => 26
  | 23, 4 => 27
  | 23, 5 => 28
  | 23, 6 => 29
  | 23, 7 => 30
  | 23, 8 => 31
  | 23, 12 => 32
  | 23, 13 => 33
  | 23, 23 => 34
  | 23, 24 => 35
  | 23, 26 => 36
  | 23, 27 => 37
  | 23, 28 => 38
  | 23, 29 => 39
  | 23, 30 => 40
  | 23, 31 => 41
  | _, _ => 99
def stat (ad : Nat → Nat) (h : tr_H) : Prop := (∀ i j, i < 42 → j < 42 → ad i = ad j → i = j) ∧ ∀ i, i < 42 → ht h (ad i) = tg i ∧ hn h (ad i) = ln i ∧ ∀ k, rf i k < 42 → hR h (ad i) k = ad (rf i k)
def dyn (ad : Nat → Nat) (r : Nat) : Prop := ∀ i, i < 42 → r ≠ ad i
theorem dyn_ne {ad : Nat → Nat} {r i : Nat} (d : dyn ad r) (hi : i < 42) : r ≠ ad i := d i hi
section STT
variable {ad : Nat → Nat} {h h' h2 : tr_H}
theorem st_i (s : stat ad h) {i j : Nat} (hi : i < 42) (hj : j < 42) : (ad i = ad j) = (i = j) := propext ⟨fun e => s.1 i j hi hj e, fun e => by rw [e]⟩
theorem st_ne (s : stat ad h) {i j : Nat} (hi : i < 42) (hj : j < 42) (hij : i ≠ j) : ad i ≠ ad j := fun e => hij (s.1 i j hi hj e)
theorem st_t (s : stat ad h) {i : Nat} (hi : i < 42) : ht h (ad i) = tg i := (s.2 i hi).1
theorem st_n (s : stat ad h) {i : Nat} (hi : i < 42) : hn h (ad i) = ln i := (s.2 i hi).2.1
theorem st_r (s : stat ad h) {i k : Nat} (hi : i < 42) (hk : rf i k < 42) : hR h (ad i) k = ad (rf i k) := (s.2 i hi).2.2 k hk
theorem tg_pos {i : Nat} : tg i ≠ 0 := by unfold tg; split <;> decide
theorem st_0 (s : stat ad h) {i : Nat} (hi : i < 42) : ht h (ad i) ≠ 0 := by rw [st_t s hi]; exact tg_pos
/-- what may have changed: rows P, fields F of the reference, with R the state and its history; new cells -/
def fr (ad : Nat → Nat) (P : Nat → Bool) (F : Int → Bool) (R : Bool) (h h' : tr_H) : Prop := ∀ r, ht h r ≠ 0 → ht h' r = ht h r ∧ hn h' r = hn h r ∧ ((∀ i, P i = true → r ≠ ad i) → (∀ z, (F z = true → r ≠ ad 23) → gv h' r z = gv h r z) ∧ hJ h' r = hJ h r) ∧ ∀ k, (R = true → r ≠ ad 6 ∧ (r = ad 1 → k ≠ 3)) → hR h' r k = hR h r k
variable {P P2 : Nat → Bool} {F F2 : Int → Bool} {R R2 : Bool}
theorem fr_rfl : fr ad P F R h h := fun r _ => ⟨rfl, rfl, fun _ => ⟨fun _ _ => rfl, rfl⟩, fun _ _ => rfl⟩
theorem fr_tr (a : fr ad P F R h h') (b : fr ad P F R h' h2) : fr ad P F R h h2 := by
  intro r hr
  obtain ⟨a1, a2, a3, a4⟩ := a r hr
  obtain ⟨b1, b2, b3, b4⟩ := b r (by rw [a1]; exact hr)
  exact ⟨b1.trans a1, b2.trans a2, fun q => ⟨fun z hz => ((b3 q).1 z hz).trans ((a3 q).1 z hz), (b3 q).2.trans (a3 q).2⟩, fun k hk => (b4 k hk).trans (a4 k hk)⟩
theorem fr_mono (hP : ∀ i, P i = true → P2 i = true) (hF : ∀ z, F z = true → F2 z = true) (hR0 : R = true → R2 = true) (a : fr ad P F R h h') : fr ad P2 F2 R2 h h' := by
  intro r hr
  obtain ⟨a1, a2, a3, a4⟩ := a r hr
  exact ⟨a1, a2, fun q => ⟨fun z hz => (a3 (fun i hi => q i (hP i hi))).1 z (fun g => hz (hF z g)), (a3 (fun i hi => q i (hP i hi))).2⟩, fun k hk => a4 k (fun g => hk (hR0 g))⟩
theorem fr_sI (a : fr ad P F R h h') {i k : Nat} {v : Int32} (hi : P i = true) : fr ad P F R h (hsI h' (ad i) k v) := by
  refine fr_tr a (fun r hr => ⟨rfl, rfl, fun q => ⟨fun z hz => ?_, rfl⟩, fun _ _ => rfl⟩)
  rw [gv_sIn (q i hi)]
theorem fr_sJ (a : fr ad P F R h h') {i k : Nat} {v : Int64} (hi : P i = true) : fr ad P F R h (hsJ h' (ad i) k v) := by
  refine fr_tr a (fun r hr => ⟨rfl, rfl, fun q => ⟨fun z hz => rfl, ?_⟩, fun _ _ => rfl⟩)
  show up2 (hJ h') (ad i) k v r = hJ h' r
  funext j
  unfold up2; rw [if_neg (q i hi)]
theorem fr_sF (a : fr ad P F R h h') {k : Nat} {v : Int32} (hk : F (k : Int) = true) : fr ad P F R h (hsI h' (ad 23) k v) := by
  refine fr_tr a (fun r hr => ⟨rfl, rfl, fun q => ⟨fun z hz => ?_, rfl⟩, fun _ _ => rfl⟩)
  by_cases e : r = ad 23
  · subst e
    rw [gv_sI, ud_ne]
    intro e; rw [e] at hz; exact hz hk rfl
  · rw [gv_sIn e]
theorem st_fr (s : stat ad h) (a : fr ad P F R h h') : stat ad h' := by
  refine ⟨s.1, fun i hi => ?_⟩
  obtain ⟨a1, a2, -, a4⟩ := a (ad i) (st_0 s hi)
  refine ⟨a1.trans (st_t s hi), a2.trans (st_n s hi), fun k hk => (a4 k (fun _ => ⟨fun e => ?_, fun e => ?_⟩)).trans (st_r s hi hk)⟩
  · have := s.1 i 6 hi (by decide) e
    subst this
    exact absurd hk (by unfold rf; simp)
  · have := s.1 i 1 hi (by decide) e
    subst this
    intro hk3; subst hk3
    exact absurd hk (by decide)
theorem fr_gv (s : stat ad h) (a : fr ad P F R h h') {i : Nat} (hi : i < 42) (h23 : i ≠ 23) (hP : P i = false) (hP1 : ∀ j, P j = true → j < 42) : gv h' (ad i) = gv h (ad i) := by
  funext z
  refine ((a (ad i) (st_0 s hi)).2.2.1 (fun j hj e => ?_)).1 z (fun _ e => h23 (s.1 i 23 hi (by decide) e))
  have := s.1 i j hi (hP1 j hj) e
  rw [this, hj] at hP; cases hP
theorem fr_gf (s : stat ad h) (a : fr ad P F R h h') {z : Int} (hP : P 23 = false) (hP1 : ∀ j, P j = true → j < 42) (hF : F z = false) : gv h' (ad 23) z = gv h (ad 23) z := by
  refine ((a (ad 23) (st_0 s (by decide))).2.2.1 (fun j hj e => ?_)).1 z (fun g => by rw [hF] at g; cases g)
  have := s.1 23 j (by decide) (hP1 j hj) e
  rw [← this, hP] at hj; cases hj
theorem fr_sIs {i k : Nat} {v : Int32} (hi : P i = true) : fr ad P F R h (hsI h (ad i) k v) := fr_sI fr_rfl hi
theorem fr_sFs {k : Nat} {v : Int32} (hk : F (k : Int) = true) : fr ad P F R h (hsI h (ad 23) k v) := fr_sF fr_rfl hk
theorem st_sI (s : stat ad h) {r k : Nat} {v : Int32} : stat ad (hsI h r k v) := s
theorem st_sJ (s : stat ad h) {r k : Nat} {v : Int64} : stat ad (hsJ h r k v) := s
end STT
