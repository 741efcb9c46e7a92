/-! ROWS OF ARRAYS AND OF NEW CELLS -/
theorem tr_in_of {x : Int32} {n : Nat} (h : ixo x n) : vp_in x n := vp_in_iff.mpr h
theorem tr_tys_at (E : tr_Env) {k : Nat} (hk : k < 6) : (tr_tys E)[k]? = some (eA E k, tr_aty k) := by
  rcases (show k = 0 ∨ k = 1 ∨ k = 2 ∨ k = 3 ∨ k = 4 ∨ k = 5 by omega) with rfl | rfl | rfl | rfl | rfl | rfl <;> rfl
theorem arrV_congr {cA : ClassId} {n : Nat} {f g : Nat → Value} (h : ∀ j, j < n → f j = g j) : arrV cA n f = arrV cA n g := by
  unfold arrV
  congr 2
  funext j
  exact h j.val j.isLt
/-- the cell of an array behind a store -/
theorem tr_acell {E : tr_Env} {h h' : tr_H} {H H' : Heap} {r k : Nat} (hk : k < 6) (htg : ht h' (r + 1) = k + 11) (hlo : elo E ≤ r) (hH : H'[r]? = some (arrV (eA E k) (hn h' (r + 1)) (fun j => tr_ev k (hI h' (r + 1) j) (hJ h' (r + 1) j) (hR h' (r + 1) j)))) : tr_cell E h' H' r := by
  refine ⟨fun _ => (Array.getElem?_eq_some_iff.mp hH).1, fun c q g1 g2 => ?_, fun k2 g1 g2 => ?_, fun g => ?_, fun g => ?_⟩
  · exfalso
    have := (List.getElem?_eq_some_iff.mp g2).1
    simp [vwCl] at this
    omega
  · have : k2 = k := by omega
    subst this
    exact ⟨hlo, hH⟩
  · exfalso; omega
  · exfalso; omega
section TRA
variable {E : tr_Env} {M : tr_MI} {R : Room} {lc lz : Nat} {Z : List Frame → Array Value → State → State → Prop} {pc : Nat} {lv : tr_L} {st : List tr_V} {h : tr_H} {rc rs : Nat}
theorem tr_arr (ok : tr_ok E) {p : Program} {s : State} {m : MethodId} {args : Array Value} {meth : Method} {c : Code} {H : Heap} {r k : Nat} (Cx : tr_Cx E M p s m args meth c) (Rp : tr_Rep E h H) (hk : k < 6) (htg : ht h r = k + 11) :
    ∃ a, r = a + 1 ∧ elo E ≤ a ∧ H[a]? = some (arrV (eA E k) (hn h r) (fun j => tr_ev k (hI h r j) (hJ h r j) (hR h r j))) ∧ ArrOfT s (eA E k) (tr_aty k) ∧ va_RA s (eA E k) (tr_aty k) := by
  obtain ⟨a, rfl⟩ := tr_o_of Rp.1 htg
  obtain ⟨h1, h2⟩ := (Rp.2.2.1 a).2.2.1 k hk htg
  have h3 := (Cx.K ok).2 k _ (tr_tys_at E hk)
  exact ⟨a, rfl, h1, h2, h3.1, h3.2⟩
theorem tr_r_iald (ok : tr_ok E) {r : Nat} {x : Int32} (hd : decode (mB M) pc = .ok (.iaload, 1)) (htg : ht h r = 11) (hx : ixo x (hn h r)) (k : tr_W E M R lc lz Z (pc + 1) lv (.inl (hI h r (ixn x)) :: st) h rc rs) : tr_W E M R lc lz Z pc lv (.inl x :: .inr (.inr r) :: st) h rc rs := by
  intro p e s m args below meth c H locs cells slots ls Cx Rp hS hl hc hs
  obtain ⟨a, rfl, hlo, hH, hA, hRA⟩ := tr_arr ok (k := 0) Cx Rp (by decide) htg
  have hin := tr_in_of hx
  have hlt : x.toNatClampNeg < hn h (a + 1) := Nat.not_le.mp fun q => hin (Or.inr q)
  exact W.iald (v := tr_cv (.inl (hI h (a + 1) (ixn x)))) Cx.1 Cx.2.1 hH (hA _ _) (fun q => by cases q) (by rw [arrV_size]; exact hin) (by rw [arrV_read _ _ hlt]; rfl) rfl rfl hd (k p e s m args below meth c H locs cells slots ls Cx Rp hS hl hc hs)
theorem tr_r_bald (ok : tr_ok E) {r : Nat} {x : Int32} (hd : decode (mB M) pc = .ok (.baload, 1)) (htg : ht h r = 12) (hx : ixo x (hn h r)) (k : tr_W E M R lc lz Z (pc + 1) lv (.inl (hI h r (ixn x)) :: st) h rc rs) : tr_W E M R lc lz Z pc lv (.inl x :: .inr (.inr r) :: st) h rc rs := by
  intro p e s m args below meth c H locs cells slots ls Cx Rp hS hl hc hs
  obtain ⟨a, rfl, hlo, hH, hA, hRA⟩ := tr_arr ok (k := 1) Cx Rp (by decide) htg
  have hin := tr_in_of hx
  have hlt : x.toNatClampNeg < hn h (a + 1) := Nat.not_le.mp fun q => hin (Or.inr q)
  exact W.bald (v := tr_cv (.inl (hI h (a + 1) (ixn x)))) Cx.1 Cx.2.1 hH (hA _ _) (fun q => by cases q) (by rw [arrV_size]; exact hin) (by rw [arrV_read _ _ hlt]; rfl) rfl rfl hd (k p e s m args below meth c H locs cells slots ls Cx Rp hS hl hc hs)
theorem tr_r_zald (ok : tr_ok E) {r : Nat} {x : Int32} (hd : decode (mB M) pc = .ok (.baload, 1)) (htg : ht h r = 13) (hx : ixo x (hn h r)) (k : tr_W E M R lc lz Z (pc + 1) lv (.inl (hI h r (ixn x)) :: st) h rc rs) : tr_W E M R lc lz Z pc lv (.inl x :: .inr (.inr r) :: st) h rc rs := by
  intro p e s m args below meth c H locs cells slots ls Cx Rp hS hl hc hs
  obtain ⟨a, rfl, hlo, hH, hA, hRA⟩ := tr_arr ok (k := 2) Cx Rp (by decide) htg
  have hin := tr_in_of hx
  have hlt : x.toNatClampNeg < hn h (a + 1) := Nat.not_le.mp fun q => hin (Or.inr q)
  exact W.zald (v := tr_cv (.inl (hI h (a + 1) (ixn x)))) Cx.1 Cx.2.1 hH (hA _ _) (fun q => by cases q) (by rw [arrV_size]; exact hin) (by rw [arrV_read _ _ hlt]; rfl) rfl rfl hd (k p e s m args below meth c H locs cells slots ls Cx Rp hS hl hc hs)
theorem tr_r_lald (ok : tr_ok E) {r : Nat} {x : Int32} (hd : decode (mB M) pc = .ok (.laload, 1)) (htg : ht h r = 14) (hx : ixo x (hn h r)) (k : tr_W E M R lc lz Z (pc + 1) lv (.inr (.inl (hJ h r (ixn x))) :: st) h rc rs) : tr_W E M R lc lz Z pc lv (.inl x :: .inr (.inr r) :: st) h rc rs := by
  intro p e s m args below meth c H locs cells slots ls Cx Rp hS hl hc hs
  obtain ⟨a, rfl, hlo, hH, hA, hRA⟩ := tr_arr ok (k := 3) Cx Rp (by decide) htg
  have hin := tr_in_of hx
  have hlt : x.toNatClampNeg < hn h (a + 1) := Nat.not_le.mp fun q => hin (Or.inr q)
  exact W.lald (v := tr_cv (.inr (.inl (hJ h (a + 1) (ixn x))))) Cx.1 Cx.2.1 hH (hA _ _) (fun q => by cases q) (by rw [arrV_size]; exact hin) (by rw [arrV_read _ _ hlt]; rfl) rfl rfl hd (k p e s m args below meth c H locs cells slots ls Cx Rp hS hl hc hs)
theorem tr_r_aald4 (ok : tr_ok E) {r : Nat} {x : Int32} (hd : decode (mB M) pc = .ok (.aaload, 1)) (htg : ht h r = 15) (hx : ixo x (hn h r)) (k : tr_W E M R lc lz Z (pc + 1) lv (.inr (.inr (hR h r (ixn x))) :: st) h rc rs) : tr_W E M R lc lz Z pc lv (.inl x :: .inr (.inr r) :: st) h rc rs := by
  intro p e s m args below meth c H locs cells slots ls Cx Rp hS hl hc hs
  obtain ⟨a, rfl, hlo, hH, hA, hRA⟩ := tr_arr ok (k := 4) Cx Rp (by decide) htg
  have hin := tr_in_of hx
  have hlt : x.toNatClampNeg < hn h (a + 1) := Nat.not_le.mp fun q => hin (Or.inr q)
  exact W.aald (v := tr_cv (.inr (.inr (hR h (a + 1) (ixn x))))) Cx.1 Cx.2.1 hH (hA _ _) rfl (fun q => by cases q) (by rw [arrV_size]; exact hin) (by rw [arrV_read _ _ hlt]; rfl) rfl rfl hd (k p e s m args below meth c H locs cells slots ls Cx Rp hS hl hc hs)
theorem tr_r_aald5 (ok : tr_ok E) {r : Nat} {x : Int32} (hd : decode (mB M) pc = .ok (.aaload, 1)) (htg : ht h r = 16) (hx : ixo x (hn h r)) (k : tr_W E M R lc lz Z (pc + 1) lv (.inr (.inr (hR h r (ixn x))) :: st) h rc rs) : tr_W E M R lc lz Z pc lv (.inl x :: .inr (.inr r) :: st) h rc rs := by
  intro p e s m args below meth c H locs cells slots ls Cx Rp hS hl hc hs
  obtain ⟨a, rfl, hlo, hH, hA, hRA⟩ := tr_arr ok (k := 5) Cx Rp (by decide) htg
  have hin := tr_in_of hx
  have hlt : x.toNatClampNeg < hn h (a + 1) := Nat.not_le.mp fun q => hin (Or.inr q)
  exact W.aald (v := tr_cv (.inr (.inr (hR h (a + 1) (ixn x))))) Cx.1 Cx.2.1 hH (hA _ _) rfl (fun q => by cases q) (by rw [arrV_size]; exact hin) (by rw [arrV_read _ _ hlt]; rfl) rfl rfl hd (k p e s m args below meth c H locs cells slots ls Cx Rp hS hl hc hs)
theorem tr_r_sald (ok : tr_ok E) {r : Nat} {x : Int32} (hd : decode (mB M) pc = .ok (.iaload, 1)) (htg : ht h r = 17) (hx : ixo x (hn h r)) (k : tr_W E M R lc lz Z (pc + 1) lv (.inl (hI h r (ixn x)) :: st) h rc rs) : tr_W E M R lc lz Z pc lv (.inl x :: .inr (.inr r) :: st) h rc rs := by
  intro p e s m args below meth c H locs cells slots ls Cx Rp hS hl hc hs
  obtain ⟨a, rfl⟩ := tr_o_of Rp.1 htg
  obtain ⟨h1, h2, h3⟩ := (Rp.2.2.1 a).2.2.2.1 htg
  rw [h2] at hx
  have hin := tr_in_of hx
  have hlt : x.toNatClampNeg < eN E := Nat.not_le.mp fun q => hin (Or.inr q)
  have hsc := va_X.moved Cx.2.2.2.2.2.1.alike ok.2.2.1
  obtain ⟨scr, g1, g2, g3, g4, g5⟩ := hsc
  have hcell : H[a]? = some scr := by rw [h1, Rp.2.1.2 _ ok.2.2.2.1]; exact g1
  have hv : scr.slots[x.toNatClampNeg]? = some (tr_cv (.inl (hI h (a + 1) (ixn x)))) := by rw [g5 _ hlt]; show _ = some (Value.int (hI h (a + 1) x.toNatClampNeg)); rw [h3 _ hlt]
  exact W.iald (v := tr_cv (.inl (hI h (a + 1) (ixn x)))) Cx.1 Cx.2.1 hcell g2 g3 (by rw [g4]; exact hin) hv rfl rfl hd (k p e s m args below meth c H locs cells slots ls Cx Rp hS hl hc hs)
theorem tr_r_slen (ok : tr_ok E) {r : Nat} (hd : decode (mB M) pc = .ok (.arraylength, 1)) (htg : ht h r = 17) (k : tr_W E M R lc lz Z (pc + 1) lv (.inl (ii (hn h r : Nat)) :: st) h rc rs) : tr_W E M R lc lz Z pc lv (.inr (.inr r) :: st) h rc rs := by
  intro p e s m args below meth c H locs cells slots ls Cx Rp hS hl hc hs
  obtain ⟨a, rfl⟩ := tr_o_of Rp.1 htg
  obtain ⟨h1, h2, h3⟩ := (Rp.2.2.1 a).2.2.2.1 htg
  have hsc := va_X.moved Cx.2.2.2.2.2.1.alike ok.2.2.1
  obtain ⟨scr, g1, g2, g3, g4, g5⟩ := hsc
  have hcell : H[a]? = some scr := by rw [h1, Rp.2.1.2 _ ok.2.2.2.1]; exact g1
  refine W.alen (n := ii (hn h (a + 1) : Nat)) Cx.1 Cx.2.1 hcell g2 (by rw [g4, h2, tr_iiN]) rfl rfl hd (k p e s m args below meth c H locs cells slots ls Cx Rp hS hl hc hs)
theorem tr_r_alen0 (ok : tr_ok E) {r : Nat} (hd : decode (mB M) pc = .ok (.arraylength, 1)) (htg : ht h r = 11) (k : tr_W E M R lc lz Z (pc + 1) lv (.inl (ii (hn h r : Nat)) :: st) h rc rs) : tr_W E M R lc lz Z pc lv (.inr (.inr r) :: st) h rc rs := by
  intro p e s m args below meth c H locs cells slots ls Cx Rp hS hl hc hs
  obtain ⟨a, rfl, hlo, hH, hA, hRA⟩ := tr_arr ok (k := 0) Cx Rp (by decide) htg
  exact W.alen (n := ii (hn h (a + 1) : Nat)) Cx.1 Cx.2.1 hH (hA _ _) (by rw [arrV_size, tr_iiN]) rfl rfl hd (k p e s m args below meth c H locs cells slots ls Cx Rp hS hl hc hs)
theorem tr_r_alen1 (ok : tr_ok E) {r : Nat} (hd : decode (mB M) pc = .ok (.arraylength, 1)) (htg : ht h r = 12) (k : tr_W E M R lc lz Z (pc + 1) lv (.inl (ii (hn h r : Nat)) :: st) h rc rs) : tr_W E M R lc lz Z pc lv (.inr (.inr r) :: st) h rc rs := by
  intro p e s m args below meth c H locs cells slots ls Cx Rp hS hl hc hs
  obtain ⟨a, rfl, hlo, hH, hA, hRA⟩ := tr_arr ok (k := 1) Cx Rp (by decide) htg
  exact W.alen (n := ii (hn h (a + 1) : Nat)) Cx.1 Cx.2.1 hH (hA _ _) (by rw [arrV_size, tr_iiN]) rfl rfl hd (k p e s m args below meth c H locs cells slots ls Cx Rp hS hl hc hs)
theorem tr_r_alen2 (ok : tr_ok E) {r : Nat} (hd : decode (mB M) pc = .ok (.arraylength, 1)) (htg : ht h r = 13) (k : tr_W E M R lc lz Z (pc + 1) lv (.inl (ii (hn h r : Nat)) :: st) h rc rs) : tr_W E M R lc lz Z pc lv (.inr (.inr r) :: st) h rc rs := by
  intro p e s m args below meth c H locs cells slots ls Cx Rp hS hl hc hs
  obtain ⟨a, rfl, hlo, hH, hA, hRA⟩ := tr_arr ok (k := 2) Cx Rp (by decide) htg
  exact W.alen (n := ii (hn h (a + 1) : Nat)) Cx.1 Cx.2.1 hH (hA _ _) (by rw [arrV_size, tr_iiN]) rfl rfl hd (k p e s m args below meth c H locs cells slots ls Cx Rp hS hl hc hs)
theorem tr_r_alen3 (ok : tr_ok E) {r : Nat} (hd : decode (mB M) pc = .ok (.arraylength, 1)) (htg : ht h r = 14) (k : tr_W E M R lc lz Z (pc + 1) lv (.inl (ii (hn h r : Nat)) :: st) h rc rs) : tr_W E M R lc lz Z pc lv (.inr (.inr r) :: st) h rc rs := by
  intro p e s m args below meth c H locs cells slots ls Cx Rp hS hl hc hs
  obtain ⟨a, rfl, hlo, hH, hA, hRA⟩ := tr_arr ok (k := 3) Cx Rp (by decide) htg
  exact W.alen (n := ii (hn h (a + 1) : Nat)) Cx.1 Cx.2.1 hH (hA _ _) (by rw [arrV_size, tr_iiN]) rfl rfl hd (k p e s m args below meth c H locs cells slots ls Cx Rp hS hl hc hs)
theorem tr_r_iast (ok : tr_ok E) {r : Nat} {x : Int32} {v : Int32} (hd : decode (mB M) pc = .ok (.iastore, 1)) (htg : ht h r = 11) (hx : ixo x (hn h r)) (k : tr_W E M R lc lz Z (pc + 1) lv st (hsI h r (ixn x) v) rc rs) : tr_W E M R lc lz Z pc lv (.inl v :: .inl x :: .inr (.inr r) :: st) h rc rs := by
  intro p e s m args below meth c H locs cells slots ls Cx Rp hS hl hc hs
  obtain ⟨a, rfl, hlo, hH, hA, hRA⟩ := tr_arr ok (k := 0) Cx Rp (by decide) htg
  have hin := tr_in_of hx
  refine W.iast Cx.1 Cx.2.1 hH (hA _ _) (fun q => by cases q) (by rw [arrV_size]; exact hin) rfl rfl hd fun H1 e1 z oq => ?_
  refine k p e s m args below meth c H1 _ cells slots ls Cx (Rp.upd (by rw [htg]; decide) tr_ag_I hlo z oq (tr_acell (h := h) (H := H) (k := 0) (by decide) htg hlo ?_)) (tr_S.put hS z oq hlo) hl hc hs
  rw [e1, arrV_store]
  refine congrArg some (arrV_congr fun j _ => ?_)
  show updV _ (ixn x) _ j = tr_ev 0 (up2 (hI h) (a + 1) (ixn x) v (a + 1) j) _ _
  rw [up2_eq]
  by_cases hj : j = ixn x
  · subst hj; simp [updV, tr_ev, tr_by, tr_nb, vp_nar] <;> rfl
  · simp [updV, hj, tr_ev]
theorem tr_r_bast (ok : tr_ok E) {r : Nat} {x : Int32} {v : Int32} (hd : decode (mB M) pc = .ok (.bastore, 1)) (htg : ht h r = 12) (hx : ixo x (hn h r)) (k : tr_W E M R lc lz Z (pc + 1) lv st (hsI h r (ixn x) (tr_by v)) rc rs) : tr_W E M R lc lz Z pc lv (.inl v :: .inl x :: .inr (.inr r) :: st) h rc rs := by
  intro p e s m args below meth c H locs cells slots ls Cx Rp hS hl hc hs
  obtain ⟨a, rfl, hlo, hH, hA, hRA⟩ := tr_arr ok (k := 1) Cx Rp (by decide) htg
  have hin := tr_in_of hx
  refine W.bast Cx.1 Cx.2.1 hH (hA _ _) (fun q => by cases q) (by rw [arrV_size]; exact hin) rfl rfl hd fun H1 e1 z oq => ?_
  refine k p e s m args below meth c H1 _ cells slots ls Cx (Rp.upd (by rw [htg]; decide) tr_ag_I hlo z oq (tr_acell (h := h) (H := H) (k := 1) (by decide) htg hlo ?_)) (tr_S.put hS z oq hlo) hl hc hs
  rw [e1, arrV_store]
  refine congrArg some (arrV_congr fun j _ => ?_)
  show updV _ (ixn x) _ j = tr_ev 1 (up2 (hI h) (a + 1) (ixn x) (tr_by v) (a + 1) j) _ _
  rw [up2_eq]
  by_cases hj : j = ixn x
  · subst hj; simp [updV, tr_ev, tr_by, tr_nb, vp_nar] <;> rfl
  · simp [updV, hj, tr_ev]
theorem tr_r_zast (ok : tr_ok E) {r : Nat} {x : Int32} {v : Int32} (hd : decode (mB M) pc = .ok (.bastore, 1)) (htg : ht h r = 13) (hx : ixo x (hn h r)) (k : tr_W E M R lc lz Z (pc + 1) lv st (hsI h r (ixn x) (tr_nb v)) rc rs) : tr_W E M R lc lz Z pc lv (.inl v :: .inl x :: .inr (.inr r) :: st) h rc rs := by
  intro p e s m args below meth c H locs cells slots ls Cx Rp hS hl hc hs
  obtain ⟨a, rfl, hlo, hH, hA, hRA⟩ := tr_arr ok (k := 2) Cx Rp (by decide) htg
  have hin := tr_in_of hx
  refine W.zast Cx.1 Cx.2.1 hH (hA _ _) (fun q => by cases q) (by rw [arrV_size]; exact hin) rfl rfl hd fun H1 e1 z oq => ?_
  refine k p e s m args below meth c H1 _ cells slots ls Cx (Rp.upd (by rw [htg]; decide) tr_ag_I hlo z oq (tr_acell (h := h) (H := H) (k := 2) (by decide) htg hlo ?_)) (tr_S.put hS z oq hlo) hl hc hs
  rw [e1, arrV_store]
  refine congrArg some (arrV_congr fun j _ => ?_)
  show updV _ (ixn x) _ j = tr_ev 2 (up2 (hI h) (a + 1) (ixn x) (tr_nb v) (a + 1) j) _ _
  rw [up2_eq]
  by_cases hj : j = ixn x
  · subst hj; simp [updV, tr_ev, tr_by, tr_nb, vp_nar] <;> rfl
  · simp [updV, hj, tr_ev]
theorem tr_r_last (ok : tr_ok E) {r : Nat} {x : Int32} {v : Int64} (hd : decode (mB M) pc = .ok (.lastore, 1)) (htg : ht h r = 14) (hx : ixo x (hn h r)) (k : tr_W E M R lc lz Z (pc + 1) lv st (hsJ h r (ixn x) v) rc rs) : tr_W E M R lc lz Z pc lv (.inr (.inl v) :: .inl x :: .inr (.inr r) :: st) h rc rs := by
  intro p e s m args below meth c H locs cells slots ls Cx Rp hS hl hc hs
  obtain ⟨a, rfl, hlo, hH, hA, hRA⟩ := tr_arr ok (k := 3) Cx Rp (by decide) htg
  have hin := tr_in_of hx
  refine W.last Cx.1 Cx.2.1 hH (hA _ _) (fun q => by cases q) (by rw [arrV_size]; exact hin) rfl rfl hd fun H1 e1 z oq => ?_
  refine k p e s m args below meth c H1 _ cells slots ls Cx (Rp.upd (by rw [htg]; decide) tr_ag_J hlo z oq (tr_acell (h := h) (H := H) (k := 3) (by decide) htg hlo ?_)) (tr_S.put hS z oq hlo) hl hc hs
  rw [e1, arrV_store]
  refine congrArg some (arrV_congr fun j _ => ?_)
  show updV _ (ixn x) _ j = tr_ev 3 _ (up2 (hJ h) (a + 1) (ixn x) v (a + 1) j) _
  rw [up2_eq]
  by_cases hj : j = ixn x
  · subst hj; simp [updV, tr_ev, tr_by, tr_nb, vp_nar] <;> rfl
  · simp [updV, hj, tr_ev]
theorem tr_r_aast4 (ok : tr_ok E) {r v : Nat} {x : Int32} (hd : decode (mB M) pc = .ok (.aastore, 1)) (htg : ht h r = 15) (hx : ixo x (hn h r)) (hv : ht h v = 7) (k : tr_W E M R lc lz Z (pc + 1) lv st (hsR h r (ixn x) v) rc rs) : tr_W E M R lc lz Z pc lv (.inr (.inr v) :: .inl x :: .inr (.inr r) :: st) h rc rs := by
  intro p e s m args below meth c H locs cells slots ls Cx Rp hS hl hc hs
  obtain ⟨a, rfl, hlo, hH, hA, hRA⟩ := tr_arr ok (k := 4) Cx Rp (by decide) htg
  obtain ⟨w, rfl⟩ := tr_o_of Rp.1 hv
  have hin := tr_in_of hx
  have hlt : x.toNatClampNeg < hn h (a + 1) := Nat.not_le.mp fun q => hin (Or.inr q)
  have h0 : ¬ x < 0 := fun q => hin (Or.inl q)
  obtain ⟨-, cellV, g1, g2, g3, -⟩ := (Rp.2.2.1 w).2.1 6 _ hv rfl
  have hcls := ((Cx.K ok).1 6 _ rfl).2
  obtain ⟨kA, comp, k1, k2, k3, -⟩ := hRA
  have hcomp : comp = (eD E).1 6 := Option.some.inj (k3.symm.trans hcls.1)
  subst hcomp
  obtain ⟨kC, hkC, -⟩ := hcls.2
  refine W.aast Cx.1 Cx.2.1 hH (fun q g => by cases g) (fun g => by cases g) k1 k2 rfl hkC ⟨h0, by rw [arrV_size]; exact hlt⟩ g1 (fun q g => by rw [g3] at g; cases g) (by rw [g2]; exact hkC) (by rw [g2]; exact va_assign hcls) rfl rfl hd fun H1 e1 z oq => ?_
  refine k p e s m args below meth c H1 _ cells slots ls Cx (Rp.upd (by rw [htg]; decide) tr_ag_R hlo z oq (tr_acell (h := h) (H := H) (k := 4) (by decide) htg hlo ?_)) (tr_S.put hS z oq hlo) hl hc hs
  rw [e1, arrV_store]
  refine congrArg some (arrV_congr fun j _ => ?_)
  show updV _ (ixn x) _ j = tr_ev 4 _ _ (up2 (hR h) (a + 1) (ixn x) (w + 1) (a + 1) j)
  rw [up2_eq]
  by_cases hj : j = ixn x
  · subst hj; simp [updV, tr_ev, va_rf, tr_o]
  · simp [updV, hj, tr_ev]
theorem tr_r_aast5 (ok : tr_ok E) {r v : Nat} {x : Int32} (hd : decode (mB M) pc = .ok (.aastore, 1)) (htg : ht h r = 16) (hx : ixo x (hn h r)) (hv : ht h v = 4) (k : tr_W E M R lc lz Z (pc + 1) lv st (hsR h r (ixn x) v) rc rs) : tr_W E M R lc lz Z pc lv (.inr (.inr v) :: .inl x :: .inr (.inr r) :: st) h rc rs := by
  intro p e s m args below meth c H locs cells slots ls Cx Rp hS hl hc hs
  obtain ⟨a, rfl, hlo, hH, hA, hRA⟩ := tr_arr ok (k := 5) Cx Rp (by decide) htg
  obtain ⟨w, rfl⟩ := tr_o_of Rp.1 hv
  have hin := tr_in_of hx
  have hlt : x.toNatClampNeg < hn h (a + 1) := Nat.not_le.mp fun q => hin (Or.inr q)
  have h0 : ¬ x < 0 := fun q => hin (Or.inl q)
  obtain ⟨-, cellV, g1, g2, g3, -⟩ := (Rp.2.2.1 w).2.1 3 _ hv rfl
  have hcls := ((Cx.K ok).1 3 _ rfl).2
  obtain ⟨kA, comp, k1, k2, k3, -⟩ := hRA
  have hcomp : comp = (eD E).1 3 := Option.some.inj (k3.symm.trans hcls.1)
  subst hcomp
  obtain ⟨kC, hkC, -⟩ := hcls.2
  refine W.aast Cx.1 Cx.2.1 hH (fun q g => by cases g) (fun g => by cases g) k1 k2 rfl hkC ⟨h0, by rw [arrV_size]; exact hlt⟩ g1 (fun q g => by rw [g3] at g; cases g) (by rw [g2]; exact hkC) (by rw [g2]; exact va_assign hcls) rfl rfl hd fun H1 e1 z oq => ?_
  refine k p e s m args below meth c H1 _ cells slots ls Cx (Rp.upd (by rw [htg]; decide) tr_ag_R hlo z oq (tr_acell (h := h) (H := H) (k := 5) (by decide) htg hlo ?_)) (tr_S.put hS z oq hlo) hl hc hs
  rw [e1, arrV_store]
  refine congrArg some (arrV_congr fun j _ => ?_)
  show updV _ (ixn x) _ j = tr_ev 5 _ _ (up2 (hR h) (a + 1) (ixn x) (w + 1) (a + 1) j)
  rw [up2_eq]
  by_cases hj : j = ixn x
  · subst hj; simp [updV, tr_ev, va_rf, tr_o]
  · simp [updV, hj, tr_ev]
theorem tr_fresh {E : tr_Env} {h : tr_H} {H : Heap} (q : tr_Rep E h H) : ht h (H.size + 1) = 0 := by
  rcases Nat.eq_zero_or_pos (ht h (H.size + 1)) with g | g
  · exact g
  · exact absurd ((q.2.2.1 H.size).1 (by omega)) (by omega)
/-- a new cell: the heap behind it -/
theorem tr_Rep.push {E : tr_Env} {h : tr_H} {H H' : Heap} {t n : Nat} (q : tr_Rep E h H) (hz : H'.size = H.size + 1) (ho : ∀ x, x < H.size → H'[x]? = H[x]?) (hc : tr_cell E (hnw h (H.size + 1) t n) H' H.size) : tr_Rep E (hnw h (H.size + 1) t n) H' := by
  have hfr := tr_fresh q
  obtain ⟨a1, ⟨a2, a3⟩, a4, a5⟩ := q
  refine ⟨?_, ⟨by omega, fun x hx => by rw [ho x (by omega)]; exact a3 x hx⟩, fun x => ?_, fun j hj => ?_⟩
  · show up1 (ht h) (H.size + 1) t 0 = 0
    rw [up1_ne (by omega)]; exact a1
  · by_cases hx : x = H.size
    · subst hx; exact hc
    · have hne : x + 1 ≠ H.size + 1 := by omega
      rcases Nat.lt_or_ge x H.size with hl | hl
      · exact (a4 x).kept (up1_ne hne) (up1_ne hne) (up1_ne hne) (up1_ne hne) (up1_ne hne) (ho x hl) (by omega)
      · have h0 : ht h (x + 1) = 0 := by
          rcases Nat.eq_zero_or_pos (ht h (x + 1)) with g | g
          · exact g
          · exact absurd ((a4 x).1 (by omega)) (by omega)
        have h1 : ht (hnw h (H.size + 1) t n) (x + 1) = 0 := (up1_ne hne).trans h0
        refine ⟨fun g => absurd h1 g, fun c q g => ?_, fun k g1 g => ?_, fun g => ?_, fun g => ?_⟩ <;> (rw [h1] at g; first | omega | cases g)
  · have hne : eT E j ≠ H.size + 1 := fun g => by
      have h2 := (a5 j hj).1
      rw [g, hfr] at h2
      cases h2
    exact (a5 j hj).kept (up1_ne hne) (up1_ne hne) (up1_ne hne)
theorem tr_S.push {E : tr_Env} {s : State} {H H' : Heap} {locs : List Loc} (h : va_S (eO E) s.heap H locs) (hz : H'.size = H.size + 1) (ho : ∀ x, x < H.size → H'[x]? = H[x]?) : va_S (eO E) s.heap H' locs :=
  ⟨by have := h.1; omega, fun x h1 h2 => by rw [ho x (Nat.lt_of_lt_of_le h1 h.1)]; exact h.2.1 x h1 h2, h.2.2⟩
theorem tr_dv {ty : FieldType} (h : tr_pl ty = true ∨ ty = .boolean ∨ ty = .byte) : defaultValue ty = tr_fv ty 0 0 0 := by
  cases ty <;> first | rfl | (rcases h with h | h | h <;> first | cases h | exact absurd h (by decide))
theorem tr_pls {c : Nat} {q : vw_C} (hq : vwCl[c]? = some q) : ∀ k, tr_pl (tr_ty c k) = true := tr_cl9 (P := fun c q => ∀ k, tr_pl (tr_ty c k) = true) (by intro k; show tr_pl (tyX0 k) = true; unfold tyX0; split <;> rfl) (by intro k; show tr_pl (tyX1 k) = true; unfold tyX1; split <;> rfl) (by intro k; show tr_pl (tyX2 k) = true; unfold tyX2; split <;> rfl) (by intro k; show tr_pl (tyX3 k) = true; unfold tyX3; split <;> rfl) (by intro k; show tr_pl (tyX4 k) = true; unfold tyX4; split <;> rfl) (by intro k; show tr_pl (tyX5 k) = true; unfold tyX5; split <;> rfl) (by intro k; show tr_pl (tyX6 k) = true; unfold tyX6; split <;> rfl) (by intro k; show tr_pl (tyX7 k) = true; unfold tyX7; split <;> rfl) (by intro k; show tr_pl (tyX8 k) = true; unfold tyX8; split <;> rfl) hq

theorem tr_r_new (ok : tr_ok E) (hlc : lc ≤ R.cells) (hlz : lz ≤ R.slots) {idx ci N : Nat} {q : vw_C} (hd : decode (mB M) pc = .ok (.new idx, 3)) (hq : vwCl[ci]? = some q) (hN : q.2.2 = N) (hw : Cond.classLink (mY M).cls idx q.1 ∈ tr_LW) (hrc : 1 ≤ rc) (hrs : N ≤ rs)
    (k : ∀ r, r ≠ 0 → ht h r = 0 → tr_W E M R lc lz Z (pc + 3) lv (.inr (.inr r) :: st) (hnw h r (ci + 1) 0) (rc - 1) (rs - N)) : tr_W E M R lc lz Z pc lv st h rc rs := by
  intro p e s m args below meth c H locs cells slots ls Cx Rp hS hl hc hs
  subst hN
  have hK := Cx.K ok
  obtain ⟨hX, hB, hML, hown, hts, hW, -⟩ := id Cx
  have hKn := hK.1 ci _ hq
  refine W.newcK hX hB hown (hts _ hw) (hts _ (tr_inst_in _ (List.mem_map.mpr ⟨q, List.mem_of_getElem? hq, rfl⟩))) (hts _ (tr_ini_in _ (List.mem_map.mpr ⟨q, List.mem_of_getElem? hq, rfl⟩))) rfl hd (by omega) (by omega) hKn.2.1 rfl fun H1 kC hkC e1 z1 o1 => ?_
  have hob := u_born (tr_ty ci) hts (tr_cls_in hq) hKn hkC e1 (tr_ty_ok hq)
  have hlo : elo E ≤ H.size := Rp.2.1.1
  have hci : ci < 9 := by have := (List.getElem?_eq_some_iff.mp hq).1; simpa [vwCl] using this
  refine k (H.size + 1) (by omega) (tr_fresh Rp) p e s m args below meth c H1 locs (cells + 1) (slots + q.2.2) ls Cx (Rp.push z1 o1 ⟨fun _ => by omega, fun c2 r2 g1 g2 => ?_, fun k2 g1 g2 => ?_, fun g => ?_, fun g => ?_⟩) (tr_S.push hS z1 o1) hl (by omega) (by omega)
  · have g1 : up1 (ht h) (H.size + 1) (ci + 1) (H.size + 1) = c2 + 1 := g1
    rw [up1_eq] at g1
    have hc2 : c2 = ci := by omega
    subst hc2
    cases hq.symm.trans g2
    refine ⟨hlo, hob.to fun j hj => ?_⟩
    show _ = tr_fv _ (up1 (hI h) (H.size + 1) _ (H.size + 1) j) (up1 (hJ h) (H.size + 1) _ (H.size + 1) j) (up1 (hR h) (H.size + 1) _ (H.size + 1) j)
    rw [up1_eq, up1_eq, up1_eq]
    exact tr_dv (Or.inl (tr_pls hq j))
  · have g2 : up1 (ht h) (H.size + 1) (ci + 1) (H.size + 1) = k2 + 11 := g2
    rw [up1_eq] at g2; exfalso; omega
  · have g : up1 (ht h) (H.size + 1) (ci + 1) (H.size + 1) = 17 := g
    rw [up1_eq] at g; exfalso; omega
  · have g : up1 (ht h) (H.size + 1) (ci + 1) (H.size + 1) = 18 := g
    rw [up1_eq] at g; exfalso; omega
theorem tr_RA_find {U : State} {c : ClassId} {ty : FieldType} (h : va_RA U c ty) : U.vm.findClass ("[" ++ ty.toString) = some c := by
  unfold va_RA at h
  split at h
  · obtain ⟨kA, comp, h1, h2, h3, h4⟩ := h
    exact h4
  · exact h
theorem tr_newcell {E : tr_Env} {h : tr_H} {H1 : Heap} {q k n : Nat} (hk : k < 6) (hlo : elo E ≤ q) (hH : H1[q]? = some (arrV (eA E k) n (fun _ => tr_ev k 0 0 0))) : tr_cell E (hnw h (q + 1) (k + 11) n) H1 q := by
  have e1 : ht (hnw h (q + 1) (k + 11) n) (q + 1) = k + 11 := up1_eq
  have e2 : hn (hnw h (q + 1) (k + 11) n) (q + 1) = n := up1_eq
  have e3 : hI (hnw h (q + 1) (k + 11) n) (q + 1) = fun _ => 0 := up1_eq
  have e4 : hJ (hnw h (q + 1) (k + 11) n) (q + 1) = fun _ => 0 := up1_eq
  have e5 : hR (hnw h (q + 1) (k + 11) n) (q + 1) = fun _ => 0 := up1_eq
  refine tr_acell (h := h) (H := H1) hk e1 hlo ?_
  rw [e2, e3, e4, e5]
  exact hH
theorem tr_r_newa0 (ok : tr_ok E) (hlc : lc ≤ R.cells) (hlz : lz ≤ R.slots) {n : Int32} (hd : decode (mB M) pc = .ok (.newarray .int, 2)) (hw : Cond.arrayClass (newarray.typeOf .int) ∈ tr_LW) (hn0 : 0 ≤ n.toInt) (hn1 : n.toInt ≤ 20000) (hrc : 1 ≤ rc) (hrs : ixn n ≤ rs)
    (k : ∀ r, r ≠ 0 → ht h r = 0 → tr_W E M R lc lz Z (pc + 2) lv (.inr (.inr r) :: st) (hnw h r 11 (ixn n)) (rc - 1) (rs - ixn n)) : tr_W E M R lc lz Z pc lv (.inl n :: st) h rc rs := by
  intro p e s m args below meth c H locs cells slots ls Cx Rp hS hl hc hs
  have hlt : ¬ n < 0 := by rw [Int32.lt_iff_toInt_lt]; exact Int.not_lt.mpr hn0
  have hnn : n.toNatClampNeg ≤ 20000 := by rw [Int32.toNatClampNeg]; omega
  have hbt : n.toNatClampNeg * componentBytes (newarray.typeOf .int) ≤ 536870912 := by
    have : componentBytes (newarray.typeOf .int) ≤ 8 := by decide
    exact Nat.le_trans (Nat.mul_le_mul hnn this) (by decide)
  have hrs' : n.toNatClampNeg ≤ rs := hrs
  refine va_newaK Cx.1 Cx.2.1 (Cx.2.2.2.2.1 _ hw) rfl hd rfl hlt rfl hbt (by omega) (by omega) rfl fun H1 cA e1 z1 o1 hAr hNm => ?_
  have hA := ((Cx.K ok).2 0 _ (tr_tys_at E (by decide))).2
  have hcA : cA = eA E 0 := Option.some.inj (hNm.symm.trans (tr_RA_find hA))
  subst hcA
  exact k (H.size + 1) (by omega) (tr_fresh Rp) p e s m args below meth c H1 locs (cells + 1) (slots + n.toNatClampNeg) ls Cx (Rp.push z1 o1 (tr_newcell (k := 0) (by decide) Rp.2.1.1 e1)) (tr_S.push hS z1 o1) hl (by omega) (by show _ + (rs - n.toNatClampNeg) ≤ _; omega)
theorem tr_r_newa1 (ok : tr_ok E) (hlc : lc ≤ R.cells) (hlz : lz ≤ R.slots) {n : Int32} (hd : decode (mB M) pc = .ok (.newarray .byte, 2)) (hw : Cond.arrayClass (newarray.typeOf .byte) ∈ tr_LW) (hn0 : 0 ≤ n.toInt) (hn1 : n.toInt ≤ 20000) (hrc : 1 ≤ rc) (hrs : ixn n ≤ rs)
    (k : ∀ r, r ≠ 0 → ht h r = 0 → tr_W E M R lc lz Z (pc + 2) lv (.inr (.inr r) :: st) (hnw h r 12 (ixn n)) (rc - 1) (rs - ixn n)) : tr_W E M R lc lz Z pc lv (.inl n :: st) h rc rs := by
  intro p e s m args below meth c H locs cells slots ls Cx Rp hS hl hc hs
  have hlt : ¬ n < 0 := by rw [Int32.lt_iff_toInt_lt]; exact Int.not_lt.mpr hn0
  have hnn : n.toNatClampNeg ≤ 20000 := by rw [Int32.toNatClampNeg]; omega
  have hbt : n.toNatClampNeg * componentBytes (newarray.typeOf .byte) ≤ 536870912 := by
    have : componentBytes (newarray.typeOf .byte) ≤ 8 := by decide
    exact Nat.le_trans (Nat.mul_le_mul hnn this) (by decide)
  have hrs' : n.toNatClampNeg ≤ rs := hrs
  refine va_newaK Cx.1 Cx.2.1 (Cx.2.2.2.2.1 _ hw) rfl hd rfl hlt rfl hbt (by omega) (by omega) rfl fun H1 cA e1 z1 o1 hAr hNm => ?_
  have hA := ((Cx.K ok).2 1 _ (tr_tys_at E (by decide))).2
  have hcA : cA = eA E 1 := Option.some.inj (hNm.symm.trans (tr_RA_find hA))
  subst hcA
  exact k (H.size + 1) (by omega) (tr_fresh Rp) p e s m args below meth c H1 locs (cells + 1) (slots + n.toNatClampNeg) ls Cx (Rp.push z1 o1 (tr_newcell (k := 1) (by decide) Rp.2.1.1 e1)) (tr_S.push hS z1 o1) hl (by omega) (by show _ + (rs - n.toNatClampNeg) ≤ _; omega)
theorem tr_r_newa2 (ok : tr_ok E) (hlc : lc ≤ R.cells) (hlz : lz ≤ R.slots) {n : Int32} (hd : decode (mB M) pc = .ok (.newarray .boolean, 2)) (hw : Cond.arrayClass (newarray.typeOf .boolean) ∈ tr_LW) (hn0 : 0 ≤ n.toInt) (hn1 : n.toInt ≤ 20000) (hrc : 1 ≤ rc) (hrs : ixn n ≤ rs)
    (k : ∀ r, r ≠ 0 → ht h r = 0 → tr_W E M R lc lz Z (pc + 2) lv (.inr (.inr r) :: st) (hnw h r 13 (ixn n)) (rc - 1) (rs - ixn n)) : tr_W E M R lc lz Z pc lv (.inl n :: st) h rc rs := by
  intro p e s m args below meth c H locs cells slots ls Cx Rp hS hl hc hs
  have hlt : ¬ n < 0 := by rw [Int32.lt_iff_toInt_lt]; exact Int.not_lt.mpr hn0
  have hnn : n.toNatClampNeg ≤ 20000 := by rw [Int32.toNatClampNeg]; omega
  have hbt : n.toNatClampNeg * componentBytes (newarray.typeOf .boolean) ≤ 536870912 := by
    have : componentBytes (newarray.typeOf .boolean) ≤ 8 := by decide
    exact Nat.le_trans (Nat.mul_le_mul hnn this) (by decide)
  have hrs' : n.toNatClampNeg ≤ rs := hrs
  refine va_newaK Cx.1 Cx.2.1 (Cx.2.2.2.2.1 _ hw) rfl hd rfl hlt rfl hbt (by omega) (by omega) rfl fun H1 cA e1 z1 o1 hAr hNm => ?_
  have hA := ((Cx.K ok).2 2 _ (tr_tys_at E (by decide))).2
  have hcA : cA = eA E 2 := Option.some.inj (hNm.symm.trans (tr_RA_find hA))
  subst hcA
  exact k (H.size + 1) (by omega) (tr_fresh Rp) p e s m args below meth c H1 locs (cells + 1) (slots + n.toNatClampNeg) ls Cx (Rp.push z1 o1 (tr_newcell (k := 2) (by decide) Rp.2.1.1 e1)) (tr_S.push hS z1 o1) hl (by omega) (by show _ + (rs - n.toNatClampNeg) ≤ _; omega)
theorem tr_r_newa3 (ok : tr_ok E) (hlc : lc ≤ R.cells) (hlz : lz ≤ R.slots) {n : Int32} (hd : decode (mB M) pc = .ok (.newarray .long, 2)) (hw : Cond.arrayClass (newarray.typeOf .long) ∈ tr_LW) (hn0 : 0 ≤ n.toInt) (hn1 : n.toInt ≤ 20000) (hrc : 1 ≤ rc) (hrs : ixn n ≤ rs)
    (k : ∀ r, r ≠ 0 → ht h r = 0 → tr_W E M R lc lz Z (pc + 2) lv (.inr (.inr r) :: st) (hnw h r 14 (ixn n)) (rc - 1) (rs - ixn n)) : tr_W E M R lc lz Z pc lv (.inl n :: st) h rc rs := by
  intro p e s m args below meth c H locs cells slots ls Cx Rp hS hl hc hs
  have hlt : ¬ n < 0 := by rw [Int32.lt_iff_toInt_lt]; exact Int.not_lt.mpr hn0
  have hnn : n.toNatClampNeg ≤ 20000 := by rw [Int32.toNatClampNeg]; omega
  have hbt : n.toNatClampNeg * componentBytes (newarray.typeOf .long) ≤ 536870912 := by
    have : componentBytes (newarray.typeOf .long) ≤ 8 := by decide
    exact Nat.le_trans (Nat.mul_le_mul hnn this) (by decide)
  have hrs' : n.toNatClampNeg ≤ rs := hrs
  refine va_newaK Cx.1 Cx.2.1 (Cx.2.2.2.2.1 _ hw) rfl hd rfl hlt rfl hbt (by omega) (by omega) rfl fun H1 cA e1 z1 o1 hAr hNm => ?_
  have hA := ((Cx.K ok).2 3 _ (tr_tys_at E (by decide))).2
  have hcA : cA = eA E 3 := Option.some.inj (hNm.symm.trans (tr_RA_find hA))
  subst hcA
  exact k (H.size + 1) (by omega) (tr_fresh Rp) p e s m args below meth c H1 locs (cells + 1) (slots + n.toNatClampNeg) ls Cx (Rp.push z1 o1 (tr_newcell (k := 3) (by decide) Rp.2.1.1 e1)) (tr_S.push hS z1 o1) hl (by omega) (by show _ + (rs - n.toNatClampNeg) ≤ _; omega)
theorem tr_r_newq4 (ok : tr_ok E) (hlc : lc ≤ R.cells) (hlz : lz ≤ R.slots) {idx : Nat} {n : Int32} (hd : decode (mB M) pc = .ok (.anewarray idx, 3)) (hw : Cond.classLink (mY M).cls idx RX6 ∈ tr_LW) (ho : ∀ (A : Array Value) (U : State), (eS E).WarmedH U.vm → (Cond.arrayOver (.object RX6)).before A U = true) (hn0 : 0 ≤ n.toInt) (hn1 : n.toInt ≤ 20000) (hrc : 1 ≤ rc) (hrs : ixn n ≤ rs)
    (k : ∀ r, r ≠ 0 → ht h r = 0 → tr_W E M R lc lz Z (pc + 3) lv (.inr (.inr r) :: st) (hnw h r 15 (ixn n)) (rc - 1) (rs - ixn n)) : tr_W E M R lc lz Z pc lv (.inl n :: st) h rc rs := by
  intro p e s m args below meth c H locs cells slots ls Cx Rp hS hl hc hs
  have hlt : ¬ n < 0 := by rw [Int32.lt_iff_toInt_lt]; exact Int.not_lt.mpr hn0
  have hnn : n.toNatClampNeg ≤ 20000 := by rw [Int32.toNatClampNeg]; omega
  have hrs' : n.toNatClampNeg ≤ rs := hrs
  refine W.anew Cx.1 Cx.2.1 Cx.2.2.2.1 (Cx.2.2.2.2.1 _ hw) (ho _ _ Cx.2.2.2.2.2.1) rfl hd rfl hlt (by omega) (by omega) (by omega) fun cA kA comp f1 f2 f3 f4 => ?_
  generalize hH1 : H.push ({ cls := cA, slots := Array.replicate n.toNatClampNeg .null, vm := .none } : Cell) = H1
  have z1 : H1.size = H.size + 1 := by rw [← hH1, Array.size_push]
  have e1 : H1[H.size]? = some (arrV cA n.toNatClampNeg (fun _ => .null)) := by rw [← hH1, Array.getElem?_push_size, ← arrV_new]
  have o1 : ∀ q : Nat, q < H.size → H1[q]? = H[q]? := fun q hq => by rw [← hH1, Array.getElem?_push, if_neg (Nat.ne_of_lt hq)]
  have hA := ((Cx.K ok).2 4 _ (tr_tys_at E (by decide))).2
  have hcA : cA = eA E 4 := Option.some.inj (f1.symm.trans (tr_RA_find hA))
  subst hcA
  exact k (H.size + 1) (by omega) (tr_fresh Rp) p e s m args below meth c H1 locs (cells + 1) (slots + n.toNatClampNeg) ls Cx (Rp.push z1 o1 (tr_newcell (k := 4) (by decide) Rp.2.1.1 e1)) (tr_S.push hS z1 o1) hl (by omega) (by show _ + (rs - n.toNatClampNeg) ≤ _; omega)
theorem tr_r_newq5 (ok : tr_ok E) (hlc : lc ≤ R.cells) (hlz : lz ≤ R.slots) {idx : Nat} {n : Int32} (hd : decode (mB M) pc = .ok (.anewarray idx, 3)) (hw : Cond.classLink (mY M).cls idx RX3 ∈ tr_LW) (ho : ∀ (A : Array Value) (U : State), (eS E).WarmedH U.vm → (Cond.arrayOver (.object RX3)).before A U = true) (hn0 : 0 ≤ n.toInt) (hn1 : n.toInt ≤ 20000) (hrc : 1 ≤ rc) (hrs : ixn n ≤ rs)
    (k : ∀ r, r ≠ 0 → ht h r = 0 → tr_W E M R lc lz Z (pc + 3) lv (.inr (.inr r) :: st) (hnw h r 16 (ixn n)) (rc - 1) (rs - ixn n)) : tr_W E M R lc lz Z pc lv (.inl n :: st) h rc rs := by
  intro p e s m args below meth c H locs cells slots ls Cx Rp hS hl hc hs
  have hlt : ¬ n < 0 := by rw [Int32.lt_iff_toInt_lt]; exact Int.not_lt.mpr hn0
  have hnn : n.toNatClampNeg ≤ 20000 := by rw [Int32.toNatClampNeg]; omega
  have hrs' : n.toNatClampNeg ≤ rs := hrs
  refine W.anew Cx.1 Cx.2.1 Cx.2.2.2.1 (Cx.2.2.2.2.1 _ hw) (ho _ _ Cx.2.2.2.2.2.1) rfl hd rfl hlt (by omega) (by omega) (by omega) fun cA kA comp f1 f2 f3 f4 => ?_
  generalize hH1 : H.push ({ cls := cA, slots := Array.replicate n.toNatClampNeg .null, vm := .none } : Cell) = H1
  have z1 : H1.size = H.size + 1 := by rw [← hH1, Array.size_push]
  have e1 : H1[H.size]? = some (arrV cA n.toNatClampNeg (fun _ => .null)) := by rw [← hH1, Array.getElem?_push_size, ← arrV_new]
  have o1 : ∀ q : Nat, q < H.size → H1[q]? = H[q]? := fun q hq => by rw [← hH1, Array.getElem?_push, if_neg (Nat.ne_of_lt hq)]
  have hA := ((Cx.K ok).2 5 _ (tr_tys_at E (by decide))).2
  have hcA : cA = eA E 5 := Option.some.inj (f1.symm.trans (tr_RA_find hA))
  subst hcA
  exact k (H.size + 1) (by omega) (tr_fresh Rp) p e s m args below meth c H1 locs (cells + 1) (slots + n.toNatClampNeg) ls Cx (Rp.push z1 o1 (tr_newcell (k := 5) (by decide) Rp.2.1.1 e1)) (tr_S.push hS z1 o1) hl (by omega) (by show _ + (rs - n.toNatClampNeg) ≤ _; omega)
end TRA
