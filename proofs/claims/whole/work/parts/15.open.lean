/-! THE TEXTS' OWN METHODS, AND WHAT IS THROWN BY AN ENTRY OF ITS OWN, as rows -/
section TRO
variable {E : tr_Env} {M : tr_MI} {R : Room} {lc lz : Nat} {Z : List Frame → Array Value → State → State → Prop} {pc : Nat} {lv : tr_L} {st : List tr_V} {h : tr_H} {rc rs : Nat} {Q : tr_Q} {mc ms : Nat}
theorem tr_Rok_le {a b : Nat} (h : tr_Rok R b) (hab : a ≤ b) : tr_Rok R a := ⟨Nat.le_trans hab h.1, Nat.le_trans (Nat.mul_le_mul_left 64 hab) h.2⟩
theorem tr_sll_w {o idx : Nat} (hi : (o, idx) ∈ tr_sll) : Cond.methodLink (tr_R o) idx yJ0_length_8abf5 ∈ tr_LW := by
  simp only [tr_sll, List.mem_cons, List.not_mem_nil, or_false, Prod.mk.injEq] at hi
  rcases hi with ⟨rfl, rfl⟩ | ⟨rfl, rfl⟩
  · exact tr_ssw.2.2.2.2.2.2.2.2.2.1
  · exact tr_ssw.2.2.2.2.2.2.2.2.2.2.1
theorem tr_scl_w {o idx : Nat} (hi : (o, idx) ∈ tr_scl) : Cond.methodLink (tr_R o) idx yJ0_charAt_5068e ∈ tr_LW := by
  simp only [tr_scl, List.mem_cons, List.not_mem_nil, or_false, Prod.mk.injEq] at hi
  rcases hi with ⟨rfl, rfl⟩ | ⟨rfl, rfl⟩
  · exact tr_ssw.2.2.2.2.2.2.2.2.2.2.2.1
  · exact tr_ssw.2.2.2.2.2.2.2.2.2.2.2.2
theorem tr_ok_s (ok : tr_ok E) : tr_sok E := ok.2.2.2.2.2.2.2.2.2.2.2
theorem tr_r_slength (ok : tr_ok E) (hlc : lc ≤ R.cells) (hlz : lz ≤ R.slots) {idx q : Nat} (hd : decode (mB M) pc = .ok (.invokevirtual idx, 3)) (hO : tr_R (mO M) = (mY M).cls) (hi : (mO M, idx) ∈ tr_sll) (hRk : tr_Rok R 8) (hwd : tr_wds st ≤ 8) (hq : ht h q = 18) (k : tr_W E M R lc lz Z (pc + 3) lv (.inl (ii (hn h q : Nat)) :: st) h rc rs) : tr_W E M R lc lz Z pc lv (.inr (.inr q) :: st) h rc rs := by
  have hw := tr_sll_w hi
  rw [hO] at hw
  refine tr_s_call (Q := fun o h' => o = .inl (some (.inl (ii (hn h q : Nat)))) ∧ h' = h) (r := q) (as := []) (rest := st) (N := mi_J0_length) (d := 2) hlc hlz hd ok_J0_length rfl rfl (tr_Rok_le hRk (by decide)) hw rfl hq rfl hwd (Nat.zero_le _) (Nat.zero_le _) (c_J0_length (tr_ok_s ok) hq ⟨rfl, rfl⟩) (fun v h' e => ?_) (fun k h' _ e => by cases e.1)
  obtain ⟨e1, e2⟩ := e
  obtain rfl := Sum.inl.inj e1
  have e3 := e2.symm
  subst e3
  exact k
theorem tr_r_scharat (ok : tr_ok E) (hlc : lc ≤ R.cells) (hlz : lz ≤ R.slots) {idx q : Nat} {x : Int32} (hd : decode (mB M) pc = .ok (.invokevirtual idx, 3)) (hO : tr_R (mO M) = (mY M).cls) (hi : (mO M, idx) ∈ tr_scl) (hRk : tr_Rok R 8) (hwd : tr_wds st ≤ 8) (hq : ht h q = 18) (hx : ixo x (hn h q)) (k : tr_W E M R lc lz Z (pc + 3) lv (.inl (hI h q (ixn x)) :: st) h rc rs) : tr_W E M R lc lz Z pc lv (.inl x :: .inr (.inr q) :: st) h rc rs := by
  have hw := tr_scl_w hi
  rw [hO] at hw
  intro p e s m args below meth c H locs cells slots ls Cx Rp hS hl hc hs
  obtain ⟨a, ha⟩ := tr_o_of Rp.1 hq
  have hstr : hn h q ≤ 1000 ∧ ∀ j, j < hn h q → ∃ k : Fin 128, hI h q j = ii (k.val : Nat) := by
    rw [ha] at hq ⊢
    obtain ⟨v, s1, s2, s3, s4, s5, s6⟩ := (Rp.2.2.1 a).2.2.2.2 hq
    exact ⟨s5, s6⟩
  have hxn : ixn x < hn h q := by
    obtain ⟨h1, h2⟩ := hx
    show x.toInt.toNat < hn h q
    omega
  refine tr_s_call (Q := fun o h' => o = .inl (some (.inl (hI h q (ixn x)))) ∧ h' = h) (r := q) (as := [.inl x]) (rest := st) (N := mi_J0_charAt) (d := 4) hlc hlz hd ok_J0_charAt rfl rfl (tr_Rok_le hRk (by decide)) hw rfl hq rfl hwd (Nat.zero_le _) (Nat.zero_le _) (c_J0_charAt ok (tr_ok_s ok) hq hx hstr.1 (hstr.2 _ hxn) ⟨rfl, rfl⟩) (fun v h' e => ?_) (fun k h' _ e => by cases e.1) p e s m args below meth c H locs cells slots ls Cx Rp hS hl hc hs
  obtain ⟨e1, e2⟩ := e
  obtain rfl := Sum.inl.inj e1
  have e3 := e2.symm
  subst e3
  exact k
theorem tr_r_throw0 (ok : tr_ok E) (hlc : lc ≤ mc) (hlz : lz ≤ ms) (hlc' : lc ≤ R.cells) (hlz' : lz ≤ R.slots) (hcls : (mY M).cls = RX7) (hh : mH M = []) (d0 : decode (mB M) pc = .ok (.new (tr_exi 0).1, 3)) (d3 : decode (mB M) (pc + 3) = .ok (.dup, 1)) (d4 : decode (mB M) (pc + 4) = .ok (.ldc_w (tr_exi 0).2.1, 3)) (d7 : decode (mB M) (pc + 7) = .ok (.invokespecial (tr_exi 0).2.2, 3)) (d10 : decode (mB M) (pc + 10) = .ok (.athrow, 1))
    (hR : tr_Rok R 8) (hwd : tr_wds st ≤ 8) (hrc : 1 ≤ rc) (hrs : 6 ≤ rs) (hq : Q (.inr 0) h) : tr_W E M R lc lz (tr_Z E Q mc ms) pc lv st h rc rs := by
  intro p e s m args below meth c H locs cells slots ls Cx Rp hS hl hc hs
  obtain ⟨hX, hB, hML, hown, hts, hW, hrt, hlk, hnm, htb, hb1, hb2⟩ := id Cx
  obtain ⟨w1, w2, w3, w4⟩ := tr_n_in
  obtain ⟨o1, o2, o3, o4, o5, o6, o7, o8, o9, o10⟩ := id ok
  obtain ⟨sa, hsa⟩ := o9 0 (by decide)
  have hkp : ∀ a : Nat, a < (eS E).heap.size → ¬ eO E a → s.heap[a]? = (eS E).heap[a]? := fun a h1 _ => hb2 a h1
  have hU := (vx_Zq.moved hW.alike o6).kept hkp
  have hN := (vx_Zq.moved hW.alike o7).kept hkp
  have hstr : vk_R RX7 298 (tr_exm 0) sa s := vk_R.warm hW hsa
  rw [hcls] at hown
  have hat : ∀ w ∈ tr_nA.filter vx_no, w.before args s = true := vx_hat (fun w hw => hts w (tr_nw w hw)) tr_nv (tr_exB_at ok hW w3)
  have hRf : 5 < R.frames := by have := hR.1; omega
  have hRl : tr_wds st + 82 ≤ R.locals := by have := hR.2; omega
  rw [← tr_wds_eq] at hRl
  intro T hT X
  have htr : e.platform.stackTraces = false := (show e.platform.stackTraces = (eL E).stackTraces by rw [X.admits.platform]).trans o1
  have Y := vx_rebase X (R' := { frames := R.frames, locals := R.locals, cells := 1, slots := 6 }) (Nat.le_refl _) (Nat.le_refl _) (show cells + 1 ≤ R.cells by omega) (show slots + 6 ≤ R.slots by omega)
  obtain ⟨s', hA⟩ : ∃ z, z = (T.setVm s.vm).setFrames (.invoking m args :: below) := ⟨_, rfl⟩
  rw [← hA] at Y
  have hvm : s'.vm = s.vm := by rw [hA]; rfl
  have hhp : s'.heap = H := by rw [hA]; exact hT
  have hW0 : s.WarmedH s'.vm := by rw [hvm]; exact State.WarmedH.refl s
  have hat' : ∀ w ∈ tr_nA.filter vx_no, w.before args s' = true := fun w hw => vx_ot_at hW0 hvm.symm (w4 w (List.mem_cons_of_mem _ (List.mem_cons_of_mem _ hw))) (hat w hw)
  have hk' : (Cond.classLink RX7 296 tr_nN).before args s' = true := vx_ot_at hW0 hvm.symm (w4 _ List.mem_cons_self) (hts _ w1)
  have hini' : (Cond.initialized tr_nN).before args s' = true := vx_ot_at hW0 hvm.symm (w4 _ (List.mem_cons_of_mem _ List.mem_cons_self)) (hts _ w2)
  have hU' : vx_Zq Bundle.tN "UNASSIGNED_STACK" Bundle.steD (eO E) s' s'.heap := by rw [hhp]; exact vx_Zq.moved hW0.alike (hU.kept hS.2.1)
  have hN' : vx_Zq Bundle.tN "SUPPRESSED_SENTINEL" Bundle.listD (eO E) s' s'.heap := by rw [hhp]; exact vx_Zq.moved hW0.alike (hN.kept hS.2.1)
  have hall : ∀ w ∈ tr_nA, w.before args s' = true := vx_own hat' (vx_isRefq hU'.1) (vx_isRefq hN'.1) hU'.2.word hN'.2.word
  have hown' : s'.vm.findClass RX7 = some m.cls := by rw [hvm]; exact hown
  have hins : (Cond.instantiable tr_nN 6).before args s' = true := hall _ (tr_n5 _ (by simp [tr_nT]))
  have d0' : decode c.code pc = .ok (.new 296, 3) := by rw [hB]; exact d0
  have d3' : decode c.code (pc + 3) = .ok (.dup, 1) := by rw [hB]; exact d3
  have d4' : decode c.code (pc + 4) = .ok (.ldc_w 298, 3) := by rw [hB]; exact d4
  have d7' : decode c.code (pc + 7) = .ok (.invokespecial 300, 3) := by rw [hB]; exact d7
  have d10' : decode c.code (pc + 10) = .ok (.athrow, 1) := by rw [hB]; exact d10
  obtain ⟨vm₁, cX, kX, hfX, hkX, -, -, X₁, st1⟩ := Y.newCold hX (own := RX7) (C := tr_nN) (index := 296) (n := 6) hown' hk' hins hini' (g := F0 m pc ls (st.map tr_cv)) rfl d0' (Nat.le_refl _) (Nat.le_refl _)
  generalize hT1 : (T.setVm vm₁).pushCell { cls := cX, slots := kX.instanceTypes.map defaultValue, vm := .none } = T1 at X₁ st1
  have hcat : (Value.ref T.heap.size).category = 1 := rfl
  have hcellA : T1.heap[T.heap.size]? = some (freshCell cX kX) := by rw [← hT1]; exact State.heap_pushCell_size _ _
  have hstr' : vk_R RX7 298 (tr_exm 0) sa s' := vk_R.warm hW0 hstr
  obtain ⟨U, hsteps, hrun, hend, hWU, hsame, ce, hce, hvmn, hccl⟩ := tr_ctorN X₁ hX htr hown' hall hfX hkX hcellA (by rw [hhp, hT]; exact Nat.le_refl _) (msg := .ref sa) rfl
    (g := { method := m, pc := pc + 7, locals := ls, stack := .ref sa :: .ref T.heap.size :: .ref T.heap.size :: st.map tr_cv, locked := none }) rfl (hl.1.trans hML.symm) rfl rfl (rest := st.map tr_cv) rfl d7' d10' (fun x hx => by rw [htb, hh] at hx; cases hx) hRf (by simp only [List.map_cons, List.sum_cons, hcat]; first | omega | (show 2 * 0 + _ + 81 ≤ R.locals; omega)) hlk
  obtain ⟨f1, f2⟩ := vx_frame hsame
  rw [hhp] at f1 f2
  have hWs : s.WarmedH U.vm := State.WarmedH.trans hW0 hWU
  have hcl : s.vm.findClass tr_nN = some ce.cls := by rw [hccl, ← hvm]; exact hfX
  have hal : s.sameButNew ({ U with vm := s.vm } : State) locs mc ms := by
    subst hA
    obtain ⟨e1, e2⟩ := hsame
    rw [State.setFrames_setFrames] at e1
    have h2 : (T.setVm s.vm).sameButNew ({ U with vm := s.vm } : State) [] (0 + 1) (0 + 6) := ⟨e1, e2⟩
    have h3 := X.same.trans h2
    rw [List.append_nil] at h3
    exact h3.mono (by omega) (by omega)
  refine ⟨U, ?_, .threw T.heap.size, hrun, hend, Or.inr ⟨T.heap.size, rfl, tr_nN, ce, locs, ⟨0, h, by decide, rfl, Rp.grow f1 (fun q hq => f2 q hq (fun z hz => nomatch hz)), hq⟩, hce, hvmn, hcl, hWs, hal, hS.2.2⟩⟩
  refine st1 _ ?_
  show Steps p.tables e below (T1.setTop { method := m, pc := pc + 3, locals := ls, stack := .ref T.heap.size :: st.map tr_cv, locked := none }) _
  jvm_step X₁.here [X₁.here.top, hX, d3', Value.category]
  exact X₁.ldcStringW hX (own := RX7) (text := tr_exm 0) (index := 298) (a := sa) hown' hstr'.1 hstr'.2 (g := { method := m, pc := pc + 4, locals := ls, stack := .ref T.heap.size :: .ref T.heap.size :: st.map tr_cv, locked := none }) rfl d4' _ hsteps
end TRO
