/-! ENDS, THROWS, THE LIBRARY'S OWN -/
/-- a method's end -/
def tr_Z (E : tr_Env) (Q : tr_Q) (mc ms : Nat) : List Frame → Array Value → State → State → Prop := fun below args s => vx_MQ below (tr_Qc E Q) (tr_Xc E Q) args s mc ms (eO E)
section TRF
variable {p : Program} {l : Launch} {e : Env} {R : Room} {s : State} {m : MethodId} {args : Array Value} {below : List Frame} {meth : Method} {c : Code} {H : Heap} {locs : List Loc} {cells slots : Nat}
theorem tr_bret {cc : ByteArray} {Qc : Array Value → State → Outcome → State → Prop} {free : Addr → Prop} {v v' : Int32} {ty : FieldType} (hexec : p.tables.exec = Jvm.exec) (hb : c.code = cc) (hr : meth.sig.returnType = some ty) (hn : narrow ty (.int v) = .int v')
    (hq : ∀ t : State, t.heap = H → s.WarmedH t.vm → Qc args s (.returned (some (.int v'))) t) (hf : ∀ q ∈ locs, free q.base)
    {pc : Nat} {ls : Array Slot} (hdg : decode cc pc = .ok (.ireturn, 1)) (hlocks : meth.locks = false) : W p l e R s m args below meth c H locs cells slots (MQ below Qc args s cells slots free) (F0 m pc ls [.int v]) := by
  intro T hT X
  obtain ⟨fs, hret, hrun, hended, hW, hframe⟩ := X.leave (v := some (.int v')) (fun h => by rw [hr] at h; cases h)
  have hmeth' : T.vm.method? m = some meth := X.method'
  refine ⟨T.setFrames fs, ?_, .returned (some (.int v')), hrun, hended, hq _ hT hW, locs, ⟨⟨_, rfl⟩, hW, hframe⟩, hf⟩
  jvm_step X.here [X.here.top, hexec, hb, hdg, hmeth', hr, hn]
  (try refine ⟨rfl, ?_⟩); (try refine ⟨rfl, ?_⟩)
  first | (intro acts; rw [hret _ acts rfl rfl rfl]) | rw [hret _ _ rfl rfl rfl]
  exact Steps.refl _
end TRF
section TRE
variable {E : tr_Env} {M : tr_MI} {R : Room} {lc lz : Nat} {Z : List Frame → Array Value → State → State → Prop} {pc : Nat} {lv : tr_L} {st : List tr_V} {h : tr_H} {rc rs : Nat} {Q : tr_Q} {mc ms : Nat}
theorem tr_Qc_of {s t : State} {args : Array Value} {H : Heap} {o : Outcome} (v : Option tr_V) (Rp : tr_Rep E h H) (hq : Q (.inl v) h) (ho : o = .returned (v.map tr_cv)) (ht : t.heap = H) : tr_Qc E Q args s o t := ⟨v, h, ho, by rw [ht]; exact Rp, hq⟩
theorem tr_r_iret (hlc : lc ≤ mc) (hlz : lz ≤ ms) {x : Int32} (hd : decode (mB M) pc = .ok (.ireturn, 1)) (hr : mR M = some .int) (hq : Q (.inl (some (.inl x))) h) : tr_W E M R lc lz (tr_Z E Q mc ms) pc lv [.inl x] h rc rs := by
  intro p e s m args below meth c H locs cells slots ls Cx Rp hS hl hc hs
  obtain ⟨hX, hB, hML, hown, hts, hW, hrt, hlk, -⟩ := id Cx
  exact vx_ret (W.widen (k := mc) (n := ms) (by omega) (by omega) (W.iret hX hB (hrt.trans hr) (fun t ht _ => tr_Qc_of (some (.inl x)) Rp hq rfl ht) hS.2.2 hd hlk))
theorem tr_r_zret (hlc : lc ≤ mc) (hlz : lz ≤ ms) {x : Int32} (hd : decode (mB M) pc = .ok (.ireturn, 1)) (hr : mR M = some .boolean) (hq : Q (.inl (some (.inl (tr_nb x)))) h) : tr_W E M R lc lz (tr_Z E Q mc ms) pc lv [.inl x] h rc rs := by
  intro p e s m args below meth c H locs cells slots ls Cx Rp hS hl hc hs
  obtain ⟨hX, hB, hML, hown, hts, hW, hrt, hlk, -⟩ := id Cx
  exact vx_ret (W.widen (k := mc) (n := ms) (by omega) (by omega) (tr_bret hX hB (hrt.trans hr) rfl (fun t ht _ => tr_Qc_of (some (.inl (tr_nb x))) Rp hq rfl ht) hS.2.2 hd hlk))
theorem tr_r_lret (hlc : lc ≤ mc) (hlz : lz ≤ ms) {x : Int64} (hd : decode (mB M) pc = .ok (.lreturn, 1)) (hr : mR M = some .long) (hq : Q (.inl (some (.inr (.inl x)))) h) : tr_W E M R lc lz (tr_Z E Q mc ms) pc lv [.inr (.inl x)] h rc rs := by
  intro p e s m args below meth c H locs cells slots ls Cx Rp hS hl hc hs
  obtain ⟨hX, hB, hML, hown, hts, hW, hrt, hlk, -⟩ := id Cx
  exact vx_ret (W.widen (k := mc) (n := ms) (by omega) (by omega) (W.lret hX hB (hrt.trans hr) (fun t ht _ => tr_Qc_of (some (.inr (.inl x))) Rp hq rfl ht) hS.2.2 hd hlk))
theorem tr_r_vret (hlc : lc ≤ mc) (hlz : lz ≤ ms) (hd : decode (mB M) pc = .ok (.return_, 1)) (hr : mR M = none) (hq : Q (.inl none) h) : tr_W E M R lc lz (tr_Z E Q mc ms) pc lv [] h rc rs := by
  intro p e s m args below meth c H locs cells slots ls Cx Rp hS hl hc hs
  obtain ⟨hX, hB, hML, hown, hts, hW, hrt, hlk, -⟩ := id Cx
  exact vx_ret (W.widen (k := mc) (n := ms) (by omega) (by omega) (W.vret hX hB (hrt.trans hr) (fun t ht _ => tr_Qc_of none Rp hq rfl ht) hS.2.2 hd hlk))
/-- not caught: it goes on -/
theorem tr_r_out (hlc : lc ≤ mc) (hlz : lz ≤ ms) {kx : Nat} (hk : kx < 3) (hh : mH M = []) (hq : Q (.inr kx) h) : tr_T E M R lc lz (tr_Z E Q mc ms) pc lv st h rc rs kx := by
  intro p e s m args below meth c H locs cells slots ls q ce Cx Rp hS hl hc hs hce hcv hcl
  obtain ⟨hX, hB, hML, hown, hts, hW, hrt, hlk, hnm, htb, -⟩ := id Cx
  exact vx_out (fun x hx => by rw [htb, hh] at hx; cases hx) hlk hce hcv hcl (fun t ht _ => ⟨kx, h, hk, rfl, by rw [ht]; exact Rp, hq⟩) hS.2.2 (by omega) (by omega)
theorem tr_Rep.grow {E : tr_Env} {h : tr_H} {H H' : Heap} (q : tr_Rep E h H) (hz : H.size ≤ H'.size) (ho : ∀ x, x < H.size → H'[x]? = H[x]?) : tr_Rep E h H' := by
  obtain ⟨a1, ⟨a2, a3⟩, a4, a5⟩ := q
  refine ⟨a1, ⟨by omega, fun x hx => by rw [ho x (by omega)]; exact a3 x hx⟩, fun x => ?_, a5⟩
  by_cases hx : ht h (x + 1) = 0
  · refine ⟨fun g => absurd hx g, fun c q g => ?_, fun k g1 g => ?_, fun g => ?_, fun g => ?_⟩ <;> (rw [hx] at g; first | omega | cases g)
  · exact (a4 x).kept rfl rfl rfl rfl rfl (ho x ((a4 x).1 hx)) hz
def tr_exn : List String := ["java/lang/RuntimeException", "java/lang/Exception"]
def tr_exB (X : String) : List Cond := [Cond.castable X X, Cond.declares ⟨"java/lang/RuntimeException", "<init>", "(Ljava/lang/String;)V"⟩, Cond.declares ⟨"java/lang/Exception", "<init>", "(Ljava/lang/String;)V"⟩, Cond.declares ⟨"java/lang/Throwable", "<init>", "(Ljava/lang/String;)V"⟩]
theorem tr_ex_w1 : ∀ w ∈ (vx_atS RX7 307 "java/lang/IllegalArgumentException" tr_exn).filter goodWord, w ∈ tr_LW := fun w hw => List.mem_filter.mpr ⟨(show ∀ w ∈ (vx_atS RX7 307 "java/lang/IllegalArgumentException" tr_exn).filter goodWord, w ∈ lw_tbl by decide +kernel) w hw, (List.mem_filter.mp hw).2⟩
theorem tr_ex_w2 : ∀ w ∈ (vx_atS RX7 312 "java/lang/IllegalStateException" tr_exn).filter goodWord, w ∈ tr_LW := fun w hw => List.mem_filter.mpr ⟨(show ∀ w ∈ (vx_atS RX7 312 "java/lang/IllegalStateException" tr_exn).filter goodWord, w ∈ lw_tbl by decide +kernel) w hw, (List.mem_filter.mp hw).2⟩
theorem tr_ex_v1 : ∀ w ∈ (vx_atS RX7 307 "java/lang/IllegalArgumentException" tr_exn).filter (fun w => !goodWord w), w ∈ tr_exB "java/lang/IllegalArgumentException" := by decide +kernel
theorem tr_ex_v2 : ∀ w ∈ (vx_atS RX7 312 "java/lang/IllegalStateException" tr_exn).filter (fun w => !goodWord w), w ∈ tr_exB "java/lang/IllegalStateException" := by decide +kernel
theorem tr_ex_in : ∀ k, k = 1 ∨ k = 2 → Cond.classLink RX7 (tr_exi k).1 (tr_ex k) ∈ tr_LW ∧ Cond.initialized (tr_ex k) ∈ tr_LW ∧ (∀ w ∈ tr_exB (tr_ex k), w ∈ lw_tbl) ∧ (∀ w ∈ (vx_atS RX7 (tr_exi k).2.2 (tr_ex k) tr_exn).filter goodWord, w ∈ tr_LW) ∧ (∀ w ∈ (vx_atS RX7 (tr_exi k).2.2 (tr_ex k) tr_exn).filter (fun w => !goodWord w), w ∈ tr_exB (tr_ex k)) ∧ Bundle.fit (tr_ex k) = true ∧ (∀ w ∈ Cond.classLink RX7 (tr_exi k).1 (tr_ex k) :: Cond.initialized (tr_ex k) :: vx_atS RX7 (tr_exi k).2.2 (tr_ex k) tr_exn, vx_ot w = true) := by
  rintro k (rfl | rfl)
  · exact ⟨List.mem_filter.mpr ⟨by decide +kernel, by decide⟩, List.mem_filter.mpr ⟨by decide +kernel, by decide⟩, by decide +kernel, tr_ex_w1, tr_ex_v1, by decide +kernel, by decide +kernel⟩
  · exact ⟨List.mem_filter.mpr ⟨by decide +kernel, by decide⟩, List.mem_filter.mpr ⟨by decide +kernel, by decide⟩, by decide +kernel, tr_ex_w2, tr_ex_v2, by decide +kernel, by decide +kernel⟩
theorem tr_exB_at (ok : tr_ok E) {s : State} {args : Array Value} {X : String} (hW : (eS E).WarmedH s.vm) (hin : ∀ w ∈ tr_exB X, w ∈ lw_tbl) : ∀ w ∈ tr_exB X, w.before args s = true := by
  have o8 := ok.2.2.2.2.2.2.2.1
  refine vx_c (va_Nw.use rfl (va_Nw.warmC hW (va_Nw.of rfl (o8 _ (hin _ ?_))))) (vx_c (va_Nw.use rfl (va_Nw.warmD hW (va_Nw.of rfl (o8 _ (hin _ ?_))))) (vx_c (va_Nw.use rfl (va_Nw.warmD hW (va_Nw.of rfl (o8 _ (hin _ ?_))))) (vx_c (va_Nw.use rfl (va_Nw.warmD hW (va_Nw.of rfl (o8 _ (hin _ ?_))))) vx_n))) <;> simp [tr_exB]
theorem tr_r_throw12 (ok : tr_ok E) (hlc : lc ≤ mc) (hlz : lz ≤ ms) (hlc' : lc ≤ R.cells) (hlz' : lz ≤ R.slots) {kx : Nat} (hk : kx = 1 ∨ kx = 2) (hcls : (mY M).cls = RX7) (hh : mH M = []) (d0 : decode (mB M) pc = .ok (.new (tr_exi kx).1, 3)) (d3 : decode (mB M) (pc + 3) = .ok (.dup, 1)) (d4 : decode (mB M) (pc + 4) = .ok (.ldc_w (tr_exi kx).2.1, 3)) (d7 : decode (mB M) (pc + 7) = .ok (.invokespecial (tr_exi kx).2.2, 3)) (d10 : decode (mB M) (pc + 10) = .ok (.athrow, 1))
    (hR : tr_Rok R 8) (hwd : tr_wds st ≤ 8) (hrc : 1 ≤ rc) (hrs : 6 ≤ rs) (hq : Q (.inr kx) h) : tr_W E M R lc lz (tr_Z E Q mc ms) pc lv st h rc rs := by
  intro p e s m args below meth c H locs cells slots ls Cx Rp hS hl hc hs
  obtain ⟨hX, hB, hML, hown, hts, hW, hrt, hlk, hnm, htb, hb1, hb2⟩ := id Cx
  obtain ⟨w1, w2, w3, w4, w5, w6, w7⟩ := tr_ex_in kx hk
  obtain ⟨o1, o2, o3, o4, o5, o6, o7, o8, o9, o10⟩ := id ok
  have hk3 : kx < 3 := by omega
  obtain ⟨sa, hsa⟩ := o9 kx hk3
  have hkp : ∀ a : Nat, a < (eS E).heap.size → ¬ eO E a → s.heap[a]? = (eS E).heap[a]? := fun a h1 _ => hb2 a h1
  have hU := (vx_Zq.moved hW.alike o6).kept hkp
  have hN := (vx_Zq.moved hW.alike o7).kept hkp
  rw [hcls] at hown
  refine vx_throwSW (cls := tr_ex kx) (names := tr_exn) (text := tr_exm kx) (sa := sa) hX hB o1 hown w6 (by decide +kernel) (hts _ w1) (hts _ w2) (vk_R.warm hW hsa) (vx_hat (fun w hw => hts w (w4 w hw)) w5 (tr_exB_at ok hW w3)) w7 hU hN hS (hl.1.trans hML.symm) d0 d3 d4 d7 d10 (fun x hx => by rw [htb, hh] at hx; cases hx) (by have := hR.1; show 2 + 3 < R.frames; omega) (by have := hR.2; rw [tr_wds_eq]; show tr_wds st + (13 * (2 + 1) + 43) ≤ R.locals; omega) (by omega) (by omega) hlk (fun t _ hz ho => ⟨kx, h, hk3, rfl, Rp.grow hz ho, hq⟩) hS.2.2 (by omega) (by omega)
/-- Object's constructor -/
theorem tr_r_obj {idx r : Nat} (hd : decode (mB M) pc = .ok (.invokespecial idx, 3)) (hw : Cond.methodLink (mY M).cls idx objectInit ∈ tr_LW) (hi : Cond.instanceMethod objectInit ∈ tr_LW) (hcd : Cond.code objectInit ⟨#[0xb1]⟩ 1 none ∈ tr_LW) (hR : tr_Rok R 2) (hwd : tr_wds st ≤ 8) (hr : ¬ ht h r = 0) (k : tr_W E M R lc lz Z (pc + 3) lv st h rc rs) : tr_W E M R lc lz Z pc lv (.inr (.inr r) :: st) h rc rs := by
  intro p e s m args below meth c H locs cells slots ls Cx Rp hS hl hc hs
  obtain ⟨hX, hB, hML, hown, hts, hW, -⟩ := id Cx
  cases r with
  | zero => exact absurd Rp.1 hr
  | succ r => exact W.objInit hX hB hown (hts _ hw) (hts _ hi) (hts _ hcd) rfl (hl.1.trans hML.symm) rfl hd (by have := hR.1; omega) (by have := hR.2; rw [tr_wds_eq]; show 2 * 0 + tr_wds st + 12 ≤ R.locals; omega) (k p e s m args below meth c H locs cells slots ls Cx Rp hS hl hc hs)
theorem tr_r_min (hlc : lc ≤ R.cells) (hlz : lz ≤ R.slots) {idx : Nat} {x y : Int32} (hd : decode (mB M) pc = .ok (.invokestatic idx, 3)) (hw : Cond.methodLink (mY M).cls idx Lib.Math.min.name ∈ tr_LW) (h1 : Cond.static Lib.Math.min.name ∈ tr_LW) (h2 : Cond.initialized "java/lang/Math" ∈ tr_LW) (h3 : Cond.code Lib.Math.min.name Lib.Math.min.code 2 (some .int) ∈ tr_LW) (hR : tr_Rok R 2) (hwd : tr_wds st ≤ 8)
    (k : tr_W E M R lc lz Z (pc + 3) lv (.inl (if y < x then y else x) :: st) h rc rs) : tr_W E M R lc lz Z pc lv (.inl y :: .inl x :: st) h rc rs := by
  intro p e s m args below meth c H locs cells slots ls Cx Rp hS hl hc hs
  obtain ⟨hX, hB, hML, hown, hts, hW, -⟩ := id Cx
  exact va_mmin hX hB (hML.trans hl.1.symm) hown (hts _ hw) (hts _ h1) (hts _ h2) (hts _ h3) (by have := hR.1; omega) (by have := hR.2; rw [tr_wds_eq]; omega) (by omega) (by omega) hd (k p e s m args below meth c H locs cells slots ls Cx Rp hS hl hc hs)
theorem tr_r_max (hlc : lc ≤ R.cells) (hlz : lz ≤ R.slots) {idx : Nat} {x y : Int32} (hd : decode (mB M) pc = .ok (.invokestatic idx, 3)) (hw : Cond.methodLink (mY M).cls idx Lib.Math.max.name ∈ tr_LW) (h1 : Cond.static Lib.Math.max.name ∈ tr_LW) (h2 : Cond.initialized "java/lang/Math" ∈ tr_LW) (h3 : Cond.code Lib.Math.max.name Lib.Math.max.code 2 (some .int) ∈ tr_LW) (hR : tr_Rok R 2) (hwd : tr_wds st ≤ 8)
    (k : tr_W E M R lc lz Z (pc + 3) lv (.inl (if x < y then y else x) :: st) h rc rs) : tr_W E M R lc lz Z pc lv (.inl y :: .inl x :: st) h rc rs := by
  intro p e s m args below meth c H locs cells slots ls Cx Rp hS hl hc hs
  obtain ⟨hX, hB, hML, hown, hts, hW, -⟩ := id Cx
  exact va_mmax hX hB (hML.trans hl.1.symm) hown (hts _ hw) (hts _ h1) (hts _ h2) (hts _ h3) (by have := hR.1; omega) (by have := hR.2; rw [tr_wds_eq]; omega) (by omega) (by omega) hd (k p e s m args below meth c H locs cells slots ls Cx Rp hS hl hc hs)
theorem tr_r_ldc {idx b : Nat} (hd : decode (mB M) pc = .ok (.ldc idx, 2)) (hw : Cond.constant (mY M).cls idx (ii (b : Nat)) ∈ tr_LW) (k : tr_W E M R lc lz Z (pc + 2) lv (.inl (ii (b : Nat)) :: st) h rc rs) : tr_W E M R lc lz Z pc lv st h rc rs := by
  intro p e s m args below meth c H locs cells slots ls Cx Rp hS hl hc hs
  exact lv_ldc Cx.1 Cx.2.1 Cx.2.2.2.1 (Cx.2.2.2.2.1 _ hw) hd (k p e s m args below meth c H locs cells slots ls Cx Rp hS hl hc hs)
theorem tr_r_ldc2 {idx b : Nat} (hd : decode (mB M) pc = .ok (.ldc2_w idx, 3)) (hw : Cond.constantLong (mY M).cls idx (jj (b : Nat)) ∈ tr_LW) (k : tr_W E M R lc lz Z (pc + 3) lv (.inr (.inl (jj (b : Nat))) :: st) h rc rs) : tr_W E M R lc lz Z pc lv st h rc rs := by
  intro p e s m args below meth c H locs cells slots ls Cx Rp hS hl hc hs
  exact lv_ldc2 Cx.1 Cx.2.1 Cx.2.2.2.1 (Cx.2.2.2.2.1 _ hw) hd (k p e s m args below meth c H locs cells slots ls Cx Rp hS hl hc hs)
theorem tr_r_ldcs (ok : tr_ok E) {idx j : Nat} (hd : decode (mB M) pc = .ok (.ldc idx, 2)) (hO : tr_R (mO M) = (mY M).cls) (hj : j < 8) (hi : (mO M, idx, j) ∈ tr_sidx) (k : ∀ r, tr_tx h r (tr_txt j) → tr_W E M R lc lz Z (pc + 2) lv (.inr (.inr r) :: st) h rc rs) : tr_W E M R lc lz Z pc lv st h rc rs := by
  intro p e s m args below meth c H locs cells slots ls Cx Rp hS hl hc hs
  obtain ⟨a, ha, hv⟩ := ok.2.2.2.2.2.2.2.2.2.1 _ hi
  have ha : eT E j = a + 1 := ha
  have hv : vk_R (tr_R (mO M)) idx (tr_ts j) a (eS E) := hv
  rw [hO] at hv
  have hk := k (a + 1) (by rw [← ha]; exact Rp.2.2.2 j hj)
  exact va_ldcS Cx.1 Cx.2.1 Cx.2.2.2.1 (vk_R.warm Cx.2.2.2.2.2.1 hv) hd (hk p e s m args below meth c H locs cells slots ls Cx Rp hS hl hc hs)
theorem tr_r_cast (ok : tr_ok E) {idx r k : Nat} {nm : String} (hk : k < 6) (hd : decode (mB M) pc = .ok (.checkcast idx, 3)) (hw : Cond.classLink (mY M).cls idx nm ∈ tr_LW) (hnm : "[" ++ (tr_aty k).toString = nm) (htg : ht h r = k + 11) (kk : tr_W E M R lc lz Z (pc + 3) lv (.inr (.inr r) :: st) h rc rs) : tr_W E M R lc lz Z pc lv (.inr (.inr r) :: st) h rc rs := by
  intro p e s m args below meth c H locs cells slots ls Cx Rp hS hl hc hs
  obtain ⟨a, rfl, hlo, hH, hA, hRA⟩ := tr_arr ok (k := k) Cx Rp hk htg
  have hf := tr_RA_find hRA
  rw [hnm] at hf
  intro T hT X
  obtain ⟨vm', X', stp⟩ := X.checkcastYes Cx.1 Cx.2.2.2.1 (Cx.2.2.2.2.1 _ hw) (by rw [hT]; exact hH) rfl hf (va_asg _ _) (g := F0 m pc ls (.ref a :: st.map tr_cv)) rfl rfl (by rw [Cx.2.1]; exact hd)
  obtain ⟨t, a1, b1⟩ := kk p e s m args below meth c H locs cells slots ls Cx Rp hS hl hc hs (T.setVm vm') hT X'
  exact ⟨t, stp t a1, b1⟩
theorem tr_tsw_ok {jmp : Nat → Prop} {dflt pc : Nat} {x : Int32} : ∀ (os : List Int) (k : Int), -2147483648 ≤ k → k + os.length ≤ 2147483648 → tr_tsw jmp dflt pc x k os → ((x.toInt < k ∨ k + os.length ≤ x.toInt) ∧ jmp dflt) ∨ ∃ o, os[(x.toInt - k).toNat]? = some o ∧ k ≤ x.toInt ∧ x.toInt < k + os.length ∧ jmp ((pc : Int) + o).toNat
  | [], k, h1, h2, h => Or.inl ⟨by simp; omega, h⟩
  | o :: os, k, h1, h2, h => by
    simp only [List.length_cons, Int.natCast_succ] at h2
    have hk : (ii k).toInt = k := by unfold ii; rw [Int32.toInt_ofInt]; exact Int.bmod_eq_of_le (by simp; omega) (by simp; omega)
    by_cases hx : x = ii k
    · refine Or.inr ⟨o, ?_, ?_, ?_, h.1 hx⟩
      · rw [hx, hk]; simp
      · rw [hx, hk]; exact Int.le_refl _
      · rw [hx, hk]; simp only [List.length_cons, Int.natCast_succ]; omega
    · have hne : x.toInt ≠ k := fun g => hx (by rw [← Int32.toInt_inj, hk]; exact g)
      rcases tr_tsw_ok os (k + 1) (by omega) (by omega) (h.2 hx) with ⟨g1, g2⟩ | ⟨o', g1, g2, g3, g4⟩
      · refine Or.inl ⟨?_, g2⟩
        simp only [List.length_cons, Int.natCast_succ]
        omega
      · refine Or.inr ⟨o', ?_, by omega, ?_, g4⟩
        · rw [show (x.toInt - k).toNat = (x.toInt - (k + 1)).toNat + 1 by omega]
          exact g1
        · simp only [List.length_cons, Int.natCast_succ]
          omega
theorem tr_r_tsw {dflt lo hi : Int} {offs : Array Int} {len a : Nat} {x : Int32} (hd : decode (mB M) pc = .ok (.tableswitch dflt lo hi offs, len)) (ha : (pc : Int) + dflt = (a : Int)) (hlo : -2147483648 ≤ lo) (hhi : hi + 1 = lo + offs.toList.length) (hhi2 : hi ≤ 2147483647) (hnn : ∀ o ∈ offs.toList, 0 ≤ (pc : Int) + o)
    (k : tr_tsw (fun t => tr_W E M R lc lz Z t lv st h rc rs) a pc x lo offs.toList) : tr_W E M R lc lz Z pc lv (.inl x :: st) h rc rs := by
  intro p e s m args below meth c H locs cells slots ls Cx Rp hS hl hc hs
  rcases tr_tsw_ok _ _ hlo (by omega) k with ⟨g1, g2⟩ | ⟨o, g1, g2, g3, g4⟩
  · exact lv_tableOut Cx.1 Cx.2.1 hd (by omega) ha (g2 p e s m args below meth c H locs cells slots ls Cx Rp hS hl hc hs)
  · have hn0 := hnn o (List.mem_of_getElem? g1)
    exact lv_tableIn Cx.1 Cx.2.1 hd (by omega) (by omega) (by rw [← Array.getElem?_toList]; exact g1) (show (pc : Int) + o = (((pc : Int) + o).toNat : Int) by omega) (g4 p e s m args below meth c H locs cells slots ls Cx Rp hS hl hc hs)
theorem tr_lsw_ok {jmp : Nat → Prop} {dflt pc : Nat} {dI : Int} {x : Int32} (hdf : (pc : Int) + dI = (dflt : Int)) : ∀ (os : List (Int × Int)), (∀ q ∈ os, -2147483648 ≤ q.1 ∧ q.1 < 2147483648 ∧ 0 ≤ (pc : Int) + q.2) → tr_lsw jmp dflt pc x os → ∃ t : Nat, (pc : Int) + Op.lookupswitch.offset os dI x.toInt = (t : Int) ∧ jmp t
  | [], _, h => ⟨dflt, hdf, h⟩
  | (k, o) :: os, hk, h => by
    obtain ⟨k1, k2, k3⟩ := hk (k, o) List.mem_cons_self
    have k1 : -2147483648 ≤ k := k1
    have k2 : k < 2147483648 := k2
    have k3 : 0 ≤ (pc : Int) + o := k3
    have hkk : (ii k).toInt = k := by unfold ii; rw [Int32.toInt_ofInt]; exact Int.bmod_eq_of_le (by simp; omega) (by simp; omega)
    by_cases hx : x = ii k
    · refine ⟨((pc : Int) + o).toNat, ?_, h.1 hx⟩
      rw [hx, hkk]
      simp only [Op.lookupswitch.offset, if_pos, beq_self_eq_true]
      first | omega | (simp; omega)
    · have hne : x.toInt ≠ k := fun g => hx (by rw [← Int32.toInt_inj, hkk]; exact g)
      obtain ⟨t, g1, g2⟩ := tr_lsw_ok hdf os (fun q hq => hk q (List.mem_cons_of_mem _ hq)) (h.2 hx)
      refine ⟨t, ?_, g2⟩
      rw [← g1]
      have hne2 : ¬ k = x.toInt := fun g => hne g.symm
      simp [Op.lookupswitch.offset, hne, hne2]
theorem tr_r_lsw {dflt : Int} {ps : Array (Int × Int)} {len a : Nat} {x : Int32} (hd : decode (mB M) pc = .ok (.lookupswitch dflt ps, len)) (hp : (ps.toList.zip (ps.toList.drop 1)).all (fun (a, next) => a.1 < next.1) = true) (ha : (pc : Int) + dflt = (a : Int)) (hnn : ∀ q ∈ ps.toList, -2147483648 ≤ q.1 ∧ q.1 < 2147483648 ∧ 0 ≤ (pc : Int) + q.2)
    (k : tr_lsw (fun t => tr_W E M R lc lz Z t lv st h rc rs) a pc x ps.toList) : tr_W E M R lc lz Z pc lv (.inl x :: st) h rc rs := by
  intro p e s m args below meth c H locs cells slots ls Cx Rp hS hl hc hs
  obtain ⟨t, g1, g2⟩ := tr_lsw_ok ha _ hnn k
  exact lv_lookup Cx.1 Cx.2.1 hd hp rfl g1 (g2 p e s m args below meth c H locs cells slots ls Cx Rp hS hl hc hs)
end TRE
