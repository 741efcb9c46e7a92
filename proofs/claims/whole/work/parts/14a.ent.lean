/-! A METHOD'S ENTRY, AND ITS CONTRACT OUT OF THE WALK -/
/-- the locals at a method's entry -/
def tr_ent : Nat → List tr_V → tr_L
  | n, [] => List.replicate n none
  | n, .inr (.inl x) :: vs => some (.inr (.inl x)) :: none :: tr_ent (n - 2) vs
  | n, v :: vs => some v :: tr_ent (n - 1) vs
theorem tr_cat_ne {v : tr_V} (h : ∀ x, v ≠ .inr (.inl x)) : ¬ (tr_cv v).category = 2 := by
  rcases v with x | x | x
  · simp [tr_cv, Value.category]
  · exact absurd rfl (h x)
  · rw [tr_cat1]; decide
theorem tr_ent_get : ∀ (vs : List tr_V) (n i j : Nat) (u : tr_V), lvg (tr_ent n vs) j = some u → (i + j, tr_cv u) ∈ lv_args i (vs.map tr_cv)
  | [], n, i, j, u, h => by
    exfalso
    unfold lvg tr_ent at h
    rw [List.getD_eq_getElem?_getD, List.getElem?_replicate] at h
    split at h <;> cases h
  | .inl x :: vs, n, i, 0, u, h => by
    cases h
    exact List.mem_cons_self
  | .inl x :: vs, n, i, j + 1, u, h => by
    have := tr_ent_get vs (n - 1) (i + 1) j u h
    rw [show i + 1 + j = i + (j + 1) by omega] at this
    exact List.mem_cons_of_mem _ this
  | .inr (.inr x) :: vs, n, i, 0, u, h => by
    cases h
    exact List.mem_cons_self
  | .inr (.inr x) :: vs, n, i, j + 1, u, h => by
    have := tr_ent_get vs (n - 1) (i + 1) j u h
    rw [show i + 1 + j = i + (j + 1) by omega] at this
    refine List.mem_cons_of_mem _ ?_
    rw [if_neg (by rw [tr_cat1]; decide)]
    exact this
  | .inr (.inl x) :: vs, n, i, 0, u, h => by
    cases h
    exact List.mem_cons_self
  | .inr (.inl x) :: vs, n, i, 1, u, h => by cases h
  | .inr (.inl x) :: vs, n, i, j + 2, u, h => by
    have := tr_ent_get vs (n - 2) (i + 2) j u h
    rw [show i + 2 + j = i + (j + 2) by omega] at this
    exact List.mem_cons_of_mem _ this
theorem tr_ent_ok {ls : Array Slot} {k n : Nat} {vs : List tr_V} (h : lv_has ls k (lv_args 0 (vs.map tr_cv))) : lv_has ls k (tr_al (tr_ent n vs)) := by
  refine tr_lv_mono h ?_
  rintro ⟨j, w⟩ hq
  obtain ⟨u, hu, rfl⟩ := tr_al_mem.mp hq
  have := tr_ent_get vs n 0 j u hu
  rw [Nat.zero_add] at this
  exact this
def tr_ws (vs : List tr_V) : Nat := (lg_sl (vs.map tr_cv)).length
theorem tr_ws_le (vs : List tr_V) : tr_ws vs ≤ 2 * vs.length := by
  unfold tr_ws
  induction vs with
  | nil => exact Nat.le_refl _
  | cons v vs ih =>
    have h1 : lg_sl ((v :: vs).map tr_cv) = (if (tr_cv v).category = 2 then [.val (tr_cv v), .second] else [.val (tr_cv v)]) ++ lg_sl (vs.map tr_cv) := by simp [lg_sl]
    rw [h1, List.length_append]
    have h2 : (if (tr_cv v).category = 2 then [Slot.val (tr_cv v), Slot.second] else [Slot.val (tr_cv v)]).length ≤ 2 := by split <;> exact Nat.le_of_ble_eq_true rfl
    simp only [List.length_cons]
    omega
def tr_wsT : List tr_V → Nat
  | [] => 0
  | .inl _ :: vs => tr_wsT vs + 1
  | .inr (.inl _) :: vs => tr_wsT vs + 2
  | .inr (.inr _) :: vs => tr_wsT vs + 1
theorem tr_ws_eq : ∀ vs : List tr_V, tr_ws vs = tr_wsT vs
  | [] => rfl
  | .inl x :: vs => by
    have := tr_ws_eq vs
    unfold tr_ws at this ⊢
    show (lg_sl (Value.int x :: vs.map tr_cv)).length = tr_wsT vs + 1
    rw [← this]
    simp [lg_sl, Value.category]
  | .inr (.inl x) :: vs => by
    have := tr_ws_eq vs
    unfold tr_ws at this ⊢
    show (lg_sl (Value.long x :: vs.map tr_cv)).length = tr_wsT vs + 2
    rw [← this]
    simp [lg_sl, Value.category]
  | .inr (.inr x) :: vs => by
    have := tr_ws_eq vs
    unfold tr_ws at this ⊢
    show (lg_sl (tr_cv (.inr (.inr x)) :: vs.map tr_cv)).length = tr_wsT vs + 1
    rw [← this]
    simp [lg_sl, tr_cat1]
section TRN
variable {E : tr_Env} {M : tr_MI} {Q : tr_Q} {h : tr_H} {as : List tr_V} {d : Nat}
/-- a contract, out of the walk from the entry -/
theorem tr_Cd_of (hcw : tr_cw M ∈ tr_LW) (hy : plainName (mY M).cls = true) (hsl : tr_ws as ≤ mL M) (hG : tr_W E M (tr_room d (mC M) (mS M)) (mC M) (mS M) (tr_Z E Q (mC M) (mS M)) 0 (tr_ent (mL M) as) [] h (mC M) (mS M)) : tr_Cd E d M as h Q := by
  unfold tr_Cd
  have main : ∀ (p : Program) (e : Env) (s : State) (m : MethodId) (args : Array Value) (below : List Frame) (meth : Method) (c : Code) (s₁ : State), BodyLoose p (eL E) (mY M) (headSpec tr_LW (tr_room d (mC M) (mS M))) (mB M) (mL M) (mR M) e s m args below meth c s₁ → c.maxLocals = mL M → c.exceptionTable.toList = tableOf (mH M) → tr_Pc E as h args s →
      W p (eL E) e (headSpec tr_LW (tr_room d (mC M) (mS M))).room s m args below meth c s.heap [] 0 0 (vx_MQ below (tr_Qc E Q) (tr_Xc E Q) args s (mC M) (mS M) (eO E)) (entryFrame m args (mL M)) := by
    intro p e s m args below meth c s₁ B hml htb hP
    obtain ⟨rfl, Rp, hW⟩ := hP
    have hl := lv_entry (as.map tr_cv) (n := mL M) hsl
    rw [lg_entry_eq]
    generalize (lg_sl (as.map tr_cv) ++ List.replicate (mL M - (lg_sl (as.map tr_cv)).length) Slot.unset).toArray = ls at hl ⊢
    exact hG p e s m _ below meth c s.heap [] 0 0 ls ⟨B.exec, B.bytes, hml, findClass_of_methodNamed B.named, atoms_spec (ws := tr_LW) B.pre, hW, B.returns, B.notSynchronized, (name_of_methodNamed B.named B.method).1, htb, Rp.2.1⟩ Rp va_S.rf (tr_ent_ok hl) (by omega) (by omega)
  refine MetFree.of_bodyS (code := mB M) (maxLocals := mL M) (ret := mR M) hy ?_ ?_
  · intro args s m hpre hn
    unfold tr_cw at hcw
    split at hcw
    · obtain ⟨meth, c, h1, h2, h3, h4, h5, h6, -, -⟩ := Cond.code_spec hn (atoms_spec (ws := tr_LW) hpre _ hcw)
      exact ⟨meth, c, h1, h2, h3, h4, h5, h6⟩
    · obtain ⟨m9, meth, c, hn9, h1, h2, h3, h4, -, h5, h6, -⟩ := Cond.codeWith_spec (atoms_spec (ws := tr_LW) hpre _ hcw)
      cases hn.symm.trans hn9
      exact ⟨meth, c, h1, h2, h3, h4, h5, h6⟩
  · intro p e s m args below meth c s₁ B hml hP _
    have hh0 : s₁.heap = s.heap := by rw [B.state]; rfl
    have htb : c.exceptionTable.toList = tableOf (mH M) := by
      unfold tr_cw at hcw
      split at hcw
      · next hh =>
        obtain ⟨meth9, c9, h1, h2, -, -, -, -, h7, -⟩ := Cond.code_spec B.named (atoms_spec (ws := tr_LW) B.pre _ hcw)
        cases Option.some.inj (h1.symm.trans B.method)
        cases Option.some.inj (h2.symm.trans (Stand.of_body B).code)
        rw [Array.isEmpty_iff.mp h7, hh]
        rfl
      · exact vx_table (x := mY M) B (atoms_spec (ws := tr_LW) B.pre _ hcw)
    obtain ⟨t, a1, o, b1, b2, b3⟩ := main p e s m args below meth c s₁ B hml htb hP s₁ hh0 (Stand.of_body B)
    exact ⟨t, o, a1, b1, b2, b3⟩
end TRN
