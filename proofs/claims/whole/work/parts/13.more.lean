/-! HANDLERS, COPIES -/
theorem tr_hl_in : ∀ ct, tr_hx ct < 3 → Cond.classLink RL ct (tr_ex (tr_hx ct)) ∈ tr_LW ∧ ct ≠ 0 := by
  intro ct h
  unfold tr_hx at h ⊢
  split at h
  · exact ⟨List.mem_filter.mpr ⟨by decide +kernel, by decide⟩, by decide⟩
  · exact ⟨List.mem_filter.mpr ⟨by decide +kernel, by decide⟩, by decide⟩
  · exact ⟨List.mem_filter.mpr ⟨by decide +kernel, by decide⟩, by decide⟩
  · omega
theorem tr_hc_in : ∀ k, k < 3 → Cond.castable (tr_ex k) (tr_ex k) ∈ lw_tbl := by
  intro k h
  rcases (show k = 0 ∨ k = 1 ∨ k = 2 by omega) with rfl | rfl | rfl <;> decide +kernel
section TRK
variable {E : tr_Env} {M : tr_MI} {R : Room} {lc lz : Nat} {Z : List Frame → Array Value → State → State → Prop} {pc : Nat} {lv : tr_L} {st : List tr_V} {h : tr_H} {rc rs : Nat} {Q : tr_Q} {mc ms : Nat}
theorem tr_r_catch0 (ok : tr_ok E) {kx hp : Nat} (hk : kx < 3) (hcls : (mY M).cls = RL) (kk : ∀ r, tr_W E M R lc lz Z hp lv [.inr (.inr r)] h rc rs) :
    ∀ (suf pre : List (Nat × Nat × Nat × Nat)), mH M = pre ++ suf → (∀ z ∈ pre, covers ⟨z.1, z.2.1, z.2.2.1, z.2.2.2⟩ pc = false ∨ (tr_hx z.2.2.2 < 3 ∧ tr_np kx (tr_hx z.2.2.2) = true)) → tr_hd suf pc kx = some hp → tr_T E M R lc lz Z pc lv st h rc rs kx
  | [], pre, _, _, hq => by cases hq
  | (f, t, p', ct) :: suf, pre, hsp, hpre, hq => by
    unfold tr_hd at hq
    have next : (covers ⟨f, t, p', ct⟩ pc = false ∨ (tr_hx ct < 3 ∧ tr_np kx (tr_hx ct) = true)) → tr_hd suf pc kx = some hp → tr_T E M R lc lz Z pc lv st h rc rs kx := fun hz hq2 =>
      tr_r_catch0 ok hk hcls kk suf (pre ++ [(f, t, p', ct)]) (by rw [hsp, List.append_assoc]; rfl) (fun z hz2 => by
        rcases List.mem_append.mp hz2 with g | g
        · exact hpre z g
        · rw [List.mem_singleton.mp g]; exact hz) hq2
    by_cases hcv : (Nat.ble f pc && Nat.blt pc t) = true
    · rw [if_pos hcv] at hq
      by_cases hx : Nat.beq (tr_hx ct) kx = true
      · rw [if_pos hx] at hq
        have hx : tr_hx ct = kx := Nat.eq_of_beq_eq_true hx
        cases hq
        intro p e s m args below meth c H locs cells slots ls q ce Cx Rp hS hl hc hs hce hcvm hcl
        obtain ⟨hX, hB, hML, hown, hts, hW, hrt, hlk, hnm, htb, hb1⟩ := id Cx
        rw [hcls] at hown
        obtain ⟨g1, g2⟩ := tr_hl_in ct (by omega)
        have hcast : (Cond.castable (tr_ex kx) (tr_ex kx)).before args s = true := va_Nw.use rfl (va_Nw.warmC hW (va_Nw.of rfl (ok.2.2.2.2.2.2.2.1 _ (tr_hc_in kx hk))))
        refine vx_catch (E := tr_ex kx) (name := tr_ex kx) hown (tableOf pre) ⟨f, t, hp, ct⟩ (tableOf suf) (by rw [htb, hsp]; simp [tableOf]) (fun z hz => ?_) ?_ g2 (by rw [hx] at g1; exact hts _ g1) hcast hce hcvm hcl (kk (q + 1) p e s m args below meth c H locs cells slots ls Cx Rp hS hl hc hs)
        · obtain ⟨y, hy, rfl⟩ := List.mem_map.mp hz
          rcases hpre y hy with g | ⟨g3, g4⟩
          · exact Or.inl g
          · obtain ⟨g5, g6⟩ := tr_hl_in _ g3
            exact Or.inr ⟨g6, _, hts _ g5, va_Nc.moved hW.alike (ok.2.2.2.2.2.2.2.2.2.2.1 _ _ g4)⟩
        · simp only [Bool.and_eq_true, Nat.ble_eq, Nat.blt_eq] at hcv
          simp [covers]; omega
      · rw [if_neg hx] at hq
        by_cases hn : tr_np kx (tr_hx ct) = true
        · rw [if_pos hn] at hq
          refine next (Or.inr ⟨?_, hn⟩) hq
          unfold tr_np at hn
          simp only [Bool.or_eq_true, Bool.and_eq_true, Nat.beq_eq] at hn
          omega
        · rw [if_neg hn] at hq
          cases hq
    · rw [if_neg hcv] at hq
      refine next (Or.inl ?_) hq
      simp only [Bool.and_eq_true, Nat.ble_eq, Nat.blt_eq] at hcv
      simp [covers]; omega
theorem tr_r_catch (ok : tr_ok E) {kx hp : Nat} (hk : kx < 3) (hcls : (mY M).cls = RL) (hq : tr_hd (mH M) pc kx = some hp) (kk : ∀ r, tr_W E M R lc lz Z hp lv [.inr (.inr r)] h rc rs) : tr_T E M R lc lz Z pc lv st h rc rs kx :=
  tr_r_catch0 ok hk hcls kk (mH M) [] rfl (fun z hz => by cases hz) hq
/-- a copy: the heap behind it -/
theorem tr_Rep.copy {E : tr_Env} {h : tr_H} {H H' : Heap} {q k : Nat} (Rp : tr_Rep E h H) (hk : k < 6) (htg : ht h (q + 1) = k + 11) (hz : H'.size = H.size + 1) (ho : ∀ x, x < H.size → H'[x]? = H[x]?) (hc : H'[H.size]? = H[q]?) : tr_Rep E (hcl h (H.size + 1) (q + 1)) H' := by
  have hfr := tr_fresh Rp
  obtain ⟨a1, ⟨a2, a3⟩, a4, a5⟩ := Rp
  have hq := (a4 q).2.2.1 k hk htg
  have hne0 : q + 1 ≠ H.size + 1 := fun g => by rw [g, hfr] at htg; omega
  refine ⟨?_, ⟨by omega, fun x hx => by rw [ho x (by omega)]; exact a3 x hx⟩, fun x => ?_, fun j hj => ?_⟩
  · show up1 (ht h) (H.size + 1) (ht h (q + 1)) 0 = 0
    rw [up1_ne (by omega)]; exact a1
  · by_cases hx : x = H.size
    · subst hx
      have e1 : ht (hcl h (H.size + 1) (q + 1)) (H.size + 1) = ht h (q + 1) := up1_eq
      have e2 : hn (hcl h (H.size + 1) (q + 1)) (H.size + 1) = hn h (q + 1) := up1_eq
      have e3 : hI (hcl h (H.size + 1) (q + 1)) (H.size + 1) = hI h (q + 1) := up1_eq
      have e4 : hJ (hcl h (H.size + 1) (q + 1)) (H.size + 1) = hJ h (q + 1) := up1_eq
      have e5 : hR (hcl h (H.size + 1) (q + 1)) (H.size + 1) = hR h (q + 1) := up1_eq
      refine tr_acell (h := h) (H := H) hk (e1.trans htg) a2 ?_
      rw [e2, e3, e4, e5, hc]
      exact hq.2
    · have hne : x + 1 ≠ H.size + 1 := by omega
      rcases Nat.lt_or_ge x H.size with hl | hl
      · exact (a4 x).kept (up1_ne hne) (up1_ne hne) (up1_ne hne) (up1_ne hne) (up1_ne hne) (ho x hl) (by omega)
      · have h0 : ht h (x + 1) = 0 := by
          rcases Nat.eq_zero_or_pos (ht h (x + 1)) with g | g
          · exact g
          · exact absurd ((a4 x).1 (by omega)) (by omega)
        have h1 : ht (hcl h (H.size + 1) (q + 1)) (x + 1) = 0 := (up1_ne hne).trans h0
        refine ⟨fun g => absurd h1 g, fun c q g => ?_, fun k g1 g => ?_, fun g => ?_, fun g => ?_⟩ <;> (rw [h1] at g; first | omega | cases g)
  · have hne : eT E j ≠ H.size + 1 := fun g => by
      have h2 := (a5 j hj).1
      rw [g, hfr] at h2
      cases h2
    exact (a5 j hj).kept (up1_ne hne) (up1_ne hne) (up1_ne hne)
def tr_cln : MethodName := ⟨"java/lang/Object", "clone", "()Ljava/lang/Object;"⟩
theorem tr_evfit (k : Nat) (x : Int32) (y : Int64) (r : Nat) (hk : k = 0 ∨ k = 5) : fits (tr_aty k) (tr_ev k x y r) = true := by
  rcases hk with rfl | rfl
  · rfl
  · cases r <;> rfl
theorem tr_r_clone (ok : tr_ok E) (hlc : lc ≤ R.cells) (hlz : lz ≤ R.slots) {idx k b : Nat} {q : Nat} (hk : k = 0 ∨ k = 5) (hd : decode (mB M) pc = .ok (.invokevirtual idx, 3)) {ad : String} (had : "[" ++ (tr_aty k).toString = ad)
    (hw1 : Cond.methodLink (mY M).cls idx ⟨ad, "clone", "()Ljava/lang/Object;"⟩ ∈ tr_LW) (hw2 : Cond.sameMethod ad "java/lang/Object" "clone" "()Ljava/lang/Object;" ∈ tr_LW) (hw3 : Cond.native tr_cln ∈ tr_LW) (hw4 : Cond.instanceMethod tr_cln ∈ tr_LW) (hw5 : Cond.selects ad ⟨ad, "clone", "()Ljava/lang/Object;"⟩ tr_cln ∈ tr_LW) (hw6 : Cond.castable ad "java/lang/Cloneable" ∈ lw_tbl)
    (hRk : tr_Rok R 2) (hwd : tr_wds st ≤ 8) (htg : ht h q = k + 11) (hnb : hn h q = b) (hrc : 1 ≤ rc) (hrs : b ≤ rs) (kk : ∀ r, r ≠ 0 → ht h r = 0 → tr_W E M R lc lz Z (pc + 3) lv (.inr (.inr r) :: st) (hcl h r q) (rc - 1) (rs - b)) : tr_W E M R lc lz Z pc lv (.inr (.inr q) :: st) h rc rs := by
  intro p e s m args below meth c H locs cells slots ls Cx Rp hS hl hc hs
  have hk6 : k < 6 := by omega
  obtain ⟨a, rfl, hlo, hH, hA, hRA⟩ := tr_arr ok (k := k) Cx Rp hk6 htg
  obtain ⟨hX, hB, hML, hown, hts, hW, -⟩ := id Cx
  have hf := tr_RA_find hRA
  rw [had] at hf
  have hcl0 := va_Nw.warmC hW (va_Nw.of rfl (ok.2.2.2.2.2.2.2.1 _ hw6))
  obtain ⟨c0, t0, f1, f2, f3⟩ := Cond.castable_spec (va_Nw.use (A := args) rfl hcl0)
  cases Option.some.inj (hf.symm.trans f1)
  obtain ⟨-, kS, hkS, compS, hkindS⟩ := hA 0 (fun _ => .null)
  intro T hT X
  obtain ⟨-, kA, hkA, comp, hkind⟩ := State.isArrayOf_alike X.warmed.alike (hA 0 (fun _ => .null))
  have hcellT : T.heap[a]? = some (arrV (eA E k) (hn h (a + 1)) (fun j => tr_ev k (hI h (a + 1) j) (hJ h (a + 1) j) (hR h (a + 1) j))) := by rw [hT]; exact hH
  obtain ⟨vm', X', stp⟩ := X.cloneArray hX hown (hts _ hw1) (hts _ hw2) (hts _ hw3) (hts _ hw4) (hts _ hw5) hcellT (fun _ g => by cases g) (fun g => by cases g) hf f2 f3
    (fun i v hv => by
      have hi : i < hn h (a + 1) := by
        have := (Array.getElem?_eq_some_iff.mp hv).1
        rwa [arrV_size] at this
      rw [arrV_read _ _ hi] at hv
      cases hv
      have hk' : T.vm.classes[eA E k]? = some kA := hkA
      show T.fitsSlot (eA E k) .none i _ = true
      simpa [State.fitsSlot, State.slotType?, hk', hkind] using tr_evfit k (hI h (a + 1) i) (hJ h (a + 1) i) (hR h (a + 1) i) hk)
    (g := F0 m pc ls (.ref a :: st.map tr_cv)) rfl (hl.1.trans hML.symm) rfl (by rw [hB]; exact hd) (by have := hRk.1; omega) (by have := hRk.2; rw [tr_wds_eq]; show 2 * 0 + tr_wds st + 14 ≤ R.locals; omega) (by omega) (by rw [arrV_size]; omega) (hloader := Vm.clonesLoader_of_array hkS hkindS)
  rw [arrV_size] at X'
  generalize hH1 : H.push ({ cls := eA E k, slots := (arrV (eA E k) (hn h (a + 1)) (fun j => tr_ev k (hI h (a + 1) j) (hJ h (a + 1) j) (hR h (a + 1) j))).slots } : Cell) = H1
  have z1 : H1.size = H.size + 1 := by rw [← hH1, Array.size_push]
  have e1 : H1[H.size]? = H[a]? := by rw [← hH1, Array.getElem?_push_size, hH]; rfl
  have o1 : ∀ x : Nat, x < H.size → H1[x]? = H[x]? := fun x hx => by rw [← hH1, Array.getElem?_push, if_neg (Nat.ne_of_lt hx)]
  obtain ⟨t, b1, b2⟩ := kk (H.size + 1) (by omega) (tr_fresh Rp) p e s m args below meth c H1 locs (cells + 1) (slots + hn h (a + 1)) ls Cx (Rp.copy hk6 htg z1 o1 e1) (tr_S.push hS z1 o1) hl (by omega) (by omega) _ (by rw [← hH1, ← hT]; rfl) X'
  refine ⟨t, stp t ?_, b2⟩
  rw [hT]
  exact b1
theorem tr_o_cpy {f g : Nat → Nat} {sp dp n j : Nat} : tr_o (va_cpy f g sp dp n j) = va_cpy (fun i => tr_o (f i)) (fun i => tr_o (g i)) sp dp n j := by
  unfold va_cpy
  by_cases hj : dp ≤ j ∧ j < dp + n
  · rw [if_pos hj, if_pos hj]
  · rw [if_neg hj, if_neg hj]
theorem tr_ag_cp {h : tr_H} {q sp r dp n : Nat} : tr_ag h (hcp h q sp r dp n) r := ⟨rfl, rfl, fun x hx => ⟨rfl, rfl, up1_ne hx⟩⟩
theorem tr_nn {z : Int32} (h : 0 ≤ z.toInt) : ¬ z < 0 ∧ z.toInt = (z.toNatClampNeg : Int) := by
  refine ⟨by rw [Int32.lt_iff_toInt_lt]; exact Int.not_lt.mpr h, ?_⟩
  show z.toInt = ((z.toInt.toNat : Nat) : Int)
  omega
theorem tr_r_acopy (ok : tr_ok E) {idx q r : Nat} {sp dp n : Int32} (hd : decode (mB M) pc = .ok (.invokestatic idx, 3)) (hw1 : Cond.methodLink (mY M).cls idx arraycopyName ∈ tr_LW) (hw2 : Cond.native arraycopyName ∈ tr_LW) (hw3 : Cond.static arraycopyName ∈ tr_LW) (hw4 : Cond.initialized "java/lang/System" ∈ tr_LW) (hRk : tr_Rok R 2) (hwd : tr_wds st ≤ 8)
    (hq : ht h q = 15) (hr : ht h r = 15) (h1 : 0 ≤ sp.toInt) (h2 : 0 ≤ dp.toInt) (h3 : 0 ≤ n.toInt) (h4 : ixn sp + ixn n ≤ hn h q) (h5 : ixn dp + ixn n ≤ hn h r) (h6 : ∀ i, i < ixn n → hR h q (ixn sp + i) = 0 ∨ ht h (hR h q (ixn sp + i)) = 7)
    (kk : tr_W E M R lc lz Z (pc + 3) lv st (hcp h q (ixn sp) r (ixn dp) (ixn n)) rc rs) : tr_W E M R lc lz Z pc lv (.inl n :: .inl dp :: .inr (.inr r) :: .inl sp :: .inr (.inr q) :: st) h rc rs := by
  intro p e s m args below meth c H locs cells slots ls Cx Rp hS hl hc hs
  obtain ⟨a0, rfl, hlo0, hH0, hA0, hRA0⟩ := tr_arr ok (k := 4) Cx Rp (by decide) hq
  obtain ⟨a, rfl, hlo, hH, hA, hRA⟩ := tr_arr ok (k := 4) Cx Rp (by decide) hr
  obtain ⟨hX, hB, hML, hown, hts, hW, -⟩ := id Cx
  obtain ⟨n1, e1⟩ := tr_nn h1
  obtain ⟨n2, e2⟩ := tr_nn h2
  obtain ⟨n3, e3⟩ := tr_nn h3
  have h4 : sp.toNatClampNeg + n.toNatClampNeg ≤ hn h (a0 + 1) := h4
  have h5 : dp.toNatClampNeg + n.toNatClampNeg ≤ hn h (a + 1) := h5
  obtain ⟨-, k0, hk0, cm0, hkk0⟩ := hA0 0 (fun _ => .null)
  obtain ⟨kA, comp, r1, r2, r3, r4⟩ := hRA
  have hcls := ((Cx.K ok).1 6 _ rfl).2
  have hcomp : comp = (eD E).1 6 := Option.some.inj (r3.symm.trans hcls.1)
  obtain ⟨kC, hkC, -⟩ := hcls.2
  intro T hT X
  obtain ⟨vm', X', stp⟩ := X.arraycopy hX hown (hts _ hw1) (hts _ hw2) (hts _ hw3) (hts _ hw4) (src := a0) (dst := a) (srcPos := sp) (destPos := dp) (n := n) (by rw [hT]; exact hH0) (by rw [hT]; exact hH)
    (fun _ g => by cases g) (fun _ g => by cases g) (fun g => by cases g) (fun g => by cases g) r1 r1 r2 r2 rfl n1 n2 n3
    (by rw [e1, e3, arrV_size]; omega) (by rw [e2, e3, arrV_size]; omega)
    (fun vm₁ hal i hi => by
      have e : (arrV (eA E 4) (hn h (a0 + 1)) (fun j => tr_ev 4 (hI h (a0 + 1) j) (hJ h (a0 + 1) j) (hR h (a0 + 1) j))).slots.getD (sp.toNatClampNeg + i) .null = va_rf (tr_o (hR h (a0 + 1) (sp.toNatClampNeg + i))) := by
        rw [Array.getD_eq_getD_getElem?, arrV_read _ _ (by omega)]
        rfl
      rw [e]
      have hi6 := h6 i hi
      have hi6 : hR h (a0 + 1) (sp.toNatClampNeg + i) = 0 ∨ ht h (hR h (a0 + 1) (sp.toNatClampNeg + i)) = 7 := hi6
      cases hy : hR h (a0 + 1) (sp.toNatClampNeg + i) with
      | zero => exact ⟨rfl, trivial⟩
      | succ y =>
        rw [hy] at hi6
        have hy7 : ht h (y + 1) = 7 := by rcases hi6 with g | g; cases g; exact g
        obtain ⟨-, cellV, g1, g2, g3, -⟩ := (Rp.2.2.1 y).2.1 6 _ hy7 rfl
        obtain ⟨kC', hkC', -⟩ := hal.2.2 _ _ hkC
        refine ⟨rfl, cellV, (show T.heap[y]? = some cellV by rw [hT]; exact g1), (fun q g => by rw [g3] at g; cases g), ⟨kC', by rw [g2]; exact hkC'⟩, ?_, ?_⟩
        · exact ⟨kC', by rw [hcomp]; exact hkC'⟩
        · show vm₁.assignable _ _ = true
          rw [hal.assignable, g2, hcomp]
          exact va_assign hcls)
    (g := F0 m pc ls (.int n :: .int dp :: .ref a :: .int sp :: .ref a0 :: st.map tr_cv)) rfl (hl.1.trans hML.symm) (rest := st.map tr_cv) rfl (by rw [hB]; exact hd) (by have := hRk.1; omega) (by have := hRk.2; rw [tr_wds_eq]; show 2 * 0 + tr_wds st + (nativeFrameWords "java/lang/System" "arraycopy" 5 + 11) ≤ R.locals; have : nativeFrameWords "java/lang/System" "arraycopy" 5 ≤ 100 := (by decide); omega)
  have ec : copied (arrV (eA E 4) (hn h (a0 + 1)) (fun j => tr_ev 4 (hI h (a0 + 1) j) (hJ h (a0 + 1) j) (hR h (a0 + 1) j))) (arrV (eA E 4) (hn h (a + 1)) (fun j => tr_ev 4 (hI h (a + 1) j) (hJ h (a + 1) j) (hR h (a + 1) j))) sp dp n = arrV (eA E 4) (hn h (a + 1)) (fun j => va_rf (va_cpy (fun i => tr_o (hR h (a0 + 1) i)) (fun i => tr_o (hR h (a + 1) i)) sp.toNatClampNeg dp.toNatClampNeg n.toNatClampNeg j)) :=
    va_copied (fun z => va_rf z) (eA E 4) (eA E 4) (fun i => tr_o (hR h (a0 + 1) i)) (fun i => tr_o (hR h (a + 1) i)) h4
  rw [ec] at X' stp
  have hla : a < H.size := (Array.getElem?_eq_some_iff.mp hH).1
  generalize hcl : arrV (eA E 4) (hn h (a + 1)) (fun j => va_rf (va_cpy (fun i => tr_o (hR h (a0 + 1) i)) (fun i => tr_o (hR h (a + 1) i)) sp.toNatClampNeg dp.toNatClampNeg n.toNatClampNeg j)) = cl at X' stp
  have hheap : ((T.setVm vm').setCell a cl).heap = H.setIfInBounds a cl := by rw [← hT]; rfl
  have oq : ∀ x : Nat, x ≠ a → (H.setIfInBounds a cl)[x]? = H[x]? := fun x hx => by simp [Array.getElem?_setIfInBounds, Ne.symm hx]
  have hz : (H.setIfInBounds a cl).size = H.size := by simp
  have hat : (H.setIfInBounds a cl)[a]? = some cl := by simp [Array.getElem?_setIfInBounds, hla]
  have hRp : tr_Rep E (hcp h (a0 + 1) (ixn sp) (a + 1) (ixn dp) (ixn n)) (H.setIfInBounds a cl) := by
    refine Rp.upd (by rw [hr]; decide) tr_ag_cp hlo hz oq (tr_acell (h := h) (H := H) (k := 4) (by decide) hr hlo ?_)
    rw [hat, ← hcl]
    refine congrArg some (arrV_congr fun j _ => ?_)
    show _ = tr_ev 4 _ _ (up1 (hR h) (a + 1) (va_cpy (hR h (a0 + 1)) (hR h (a + 1)) (ixn sp) (ixn dp) (ixn n)) (a + 1) j)
    rw [up1_eq]
    show va_rf _ = va_rf _
    rw [tr_o_cpy]
    rfl
  obtain ⟨t, b1, b2⟩ := kk p e s m args below meth c (H.setIfInBounds a cl) _ cells slots ls Cx hRp ⟨by rw [hz]; exact hS.1, fun x g1 g2 => by rw [oq x (fun e => g2 (by rw [e]; exact hlo))]; exact hS.2.1 x g1 g2, fun x hx => by
      rcases List.mem_append.mp hx with g | g
      · exact hS.2.2 x g
      · obtain ⟨z, -, hz2⟩ := List.mem_map.mp g
        rw [← hz2]
        exact hlo⟩ hl hc hs _ hheap X'
  exact ⟨t, stp t b1, b2⟩
end TRK
