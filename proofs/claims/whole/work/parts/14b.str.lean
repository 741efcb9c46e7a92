/-! THE TEXTS' OWN METHODS -/
def mi_J3_checkIndex : tr_MI := (yJ3_checkIndex_8e157, cJ3_checkIndex_8e157, 3, some .int, 1, 0, 0, 0, [], 2)
def mi_J0_checkIndex : tr_MI := (yJ0_checkIndex_df160, cJ0_checkIndex_df160, 2, none, 2, 0, 0, 0, [], 2)
def mi_J1_charAt : tr_MI := (yJ1_charAt_3b067, cJ1_charAt_3b067, 2, some .char, 3, 0, 0, 0, [], 2)
def mi_J0_isLatin1 : tr_MI := (yJ0_isLatin1_aae02, cJ0_isLatin1_aae02, 1, some .boolean, 1, 0, 0, 0, [], 0)
def mi_J0_charAt : tr_MI := (yJ0_charAt_5068e, cJ0_charAt_5068e, 2, some .char, 4, 0, 0, 0, [], 0)
def mi_J0_coder : tr_MI := (yJ0_coder_7d493, cJ0_coder_7d493, 1, some .byte, 1, 0, 0, 0, [], 0)
def mi_J0_length : tr_MI := (yJ0_length_8abf5, cJ0_length_8abf5, 1, some .int, 2, 0, 0, 0, [], 0)
set_option maxRecDepth 100000 in
theorem ok_J3_checkIndex : tr_Mok mi_J3_checkIndex 3 := ⟨List.mem_filter.mpr ⟨by decide +kernel, by decide +kernel⟩, List.mem_filter.mpr ⟨by decide +kernel, by decide +kernel⟩, List.mem_filter.mpr ⟨by decide +kernel, by decide +kernel⟩, List.mem_filter.mpr ⟨by decide +kernel, by decide +kernel⟩, ⟨by decide +kernel, by decide +kernel⟩, by decide +kernel, by decide +kernel⟩
theorem ok_J0_checkIndex : tr_Mok mi_J0_checkIndex 2 := ⟨List.mem_filter.mpr ⟨by decide +kernel, by decide +kernel⟩, List.mem_filter.mpr ⟨by decide +kernel, by decide +kernel⟩, List.mem_filter.mpr ⟨by decide +kernel, by decide +kernel⟩, List.mem_filter.mpr ⟨by decide +kernel, by decide +kernel⟩, ⟨by decide +kernel, by decide +kernel⟩, by decide +kernel, by decide +kernel⟩
theorem ok_J1_charAt : tr_Mok mi_J1_charAt 2 := ⟨List.mem_filter.mpr ⟨by decide +kernel, by decide +kernel⟩, List.mem_filter.mpr ⟨by decide +kernel, by decide +kernel⟩, List.mem_filter.mpr ⟨by decide +kernel, by decide +kernel⟩, List.mem_filter.mpr ⟨by decide +kernel, by decide +kernel⟩, ⟨by decide +kernel, by decide +kernel⟩, by decide +kernel, by decide +kernel⟩
theorem ok_J0_isLatin1 : tr_Mok mi_J0_isLatin1 0 := ⟨List.mem_filter.mpr ⟨by decide +kernel, by decide +kernel⟩, List.mem_filter.mpr ⟨by decide +kernel, by decide +kernel⟩, List.mem_filter.mpr ⟨by decide +kernel, by decide +kernel⟩, List.mem_filter.mpr ⟨by decide +kernel, by decide +kernel⟩, ⟨by decide +kernel, by decide +kernel⟩, by decide +kernel, by decide +kernel⟩
theorem ok_J0_charAt : tr_Mok mi_J0_charAt 1 := ⟨List.mem_filter.mpr ⟨by decide +kernel, by decide +kernel⟩, List.mem_filter.mpr ⟨by decide +kernel, by decide +kernel⟩, List.mem_filter.mpr ⟨by decide +kernel, by decide +kernel⟩, List.mem_filter.mpr ⟨by decide +kernel, by decide +kernel⟩, ⟨by decide +kernel, by decide +kernel⟩, by decide +kernel, by decide +kernel⟩
theorem ok_J0_coder : tr_Mok mi_J0_coder 0 := ⟨List.mem_filter.mpr ⟨by decide +kernel, by decide +kernel⟩, List.mem_filter.mpr ⟨by decide +kernel, by decide +kernel⟩, List.mem_filter.mpr ⟨by decide +kernel, by decide +kernel⟩, List.mem_filter.mpr ⟨by decide +kernel, by decide +kernel⟩, ⟨by decide +kernel, by decide +kernel⟩, by decide +kernel, by decide +kernel⟩
theorem ok_J0_length : tr_Mok mi_J0_length 0 := ⟨List.mem_filter.mpr ⟨by decide +kernel, by decide +kernel⟩, List.mem_filter.mpr ⟨by decide +kernel, by decide +kernel⟩, List.mem_filter.mpr ⟨by decide +kernel, by decide +kernel⟩, List.mem_filter.mpr ⟨by decide +kernel, by decide +kernel⟩, ⟨by decide +kernel, by decide +kernel⟩, by decide +kernel, by decide +kernel⟩
theorem tr_ssw : Cond.fieldLink RJ0 38 "java/lang/String" "COMPACT_STRINGS" "Z" ∈ tr_LW ∧ Cond.fieldLink RJ0 15 "java/lang/String" "coder" "B" ∈ tr_LW ∧ Cond.fieldLink RJ0 9 "java/lang/String" "value" "[B" ∈ tr_LW ∧ Cond.fieldLink RJ0 1053 "jdk/internal/util/Preconditions" "SIOOBE_FORMATTER" "Ljava/util/function/BiFunction;" ∈ tr_LW ∧
    Cond.methodLink RJ0 1059 yJ3_checkIndex_8e157 ∈ tr_LW ∧ Cond.methodLink RJ1 9 yJ0_checkIndex_df160 ∈ tr_LW ∧ Cond.methodLink RJ0 495 yJ1_charAt_3b067 ∈ tr_LW ∧ Cond.methodLink RJ0 492 yJ0_isLatin1_aae02 ∈ tr_LW ∧ Cond.methodLink RJ0 335 yJ0_coder_7d493 ∈ tr_LW ∧ Cond.methodLink RX4 145 yJ0_length_8abf5 ∈ tr_LW ∧ Cond.methodLink RX8 130 yJ0_length_8abf5 ∈ tr_LW ∧ Cond.methodLink RX4 149 yJ0_charAt_5068e ∈ tr_LW ∧ Cond.methodLink RX8 138 yJ0_charAt_5068e ∈ tr_LW := by
  refine ⟨?_, ?_, ?_, ?_, ?_, ?_, ?_, ?_, ?_, ?_, ?_, ?_, ?_⟩ <;> exact List.mem_filter.mpr ⟨by decide +kernel, by decide +kernel⟩
section TRS
variable {E : tr_Env} {M : tr_MI} {R : Room} {lc lz : Nat} {Z : List Frame → Array Value → State → State → Prop} {pc : Nat} {lv : tr_L} {st : List tr_V} {h : tr_H} {rc rs : Nat} {Q : tr_Q} {mc ms : Nat}
theorem tr_r_i2c {x y : Int32} (hd : decode (mB M) pc = .ok (.i2c, 1)) (hv : (x.toUInt32 % 65536).toInt32 = y) (k : tr_W E M R lc lz Z (pc + 1) lv (.inl y :: st) h rc rs) : tr_W E M R lc lz Z pc lv (.inl x :: st) h rc rs := by
  intro p e s m args below meth c H locs cells slots ls Cx Rp hS hl hc hs
  exact lv_i2c Cx.1 Cx.2.1 hd hv (k p e s m args below meth c H locs cells slots ls Cx Rp hS hl hc hs)
theorem tr_r_nret (hlc : lc ≤ mc) (hlz : lz ≤ ms) {x y : Int32} {ty : FieldType} (hd : decode (mB M) pc = .ok (.ireturn, 1)) (hr : mR M = some ty) (hn : narrow ty (.int x) = .int y) (hq : Q (.inl (some (.inl y))) h) : tr_W E M R lc lz (tr_Z E Q mc ms) pc lv [.inl x] h rc rs := by
  intro p e s m args below meth c H locs cells slots ls Cx Rp hS hl hc hs
  obtain ⟨hX, hB, hML, hown, hts, hW, hrt, hlk, -⟩ := id Cx
  exact vx_ret (W.widen (k := mc) (n := ms) (by omega) (by omega) (tr_bret hX hB (hrt.trans hr) hn (fun t ht _ => tr_Qc_of (some (.inl y)) Rp hq rfl ht) hS.2.2 hd hlk))
theorem tr_Cx.kp {p : Program} {s : State} {m : MethodId} {args : Array Value} {meth : Method} {c : Code} (Cx : tr_Cx E M p s m args meth c) : ∀ a : Nat, a < (eS E).heap.size → ¬ eO E a → s.heap[a]? = (eS E).heap[a]? := fun a h1 _ => Cx.2.2.2.2.2.2.2.2.2.2.2 a h1
/-- COMPACT_STRINGS -/
theorem tr_s_cs (so : tr_sok E) (hcl : (mY M).cls = RJ0) (hd : decode (mB M) pc = .ok (.getstatic 38, 3)) (k : tr_W E M R lc lz Z (pc + 3) lv (.inl (ii 1) :: st) h rc rs) : tr_W E M R lc lz Z pc lv st h rc rs := by
  intro p e s m args below meth c H locs cells slots ls Cx Rp hS hl hc hs
  obtain ⟨hX, hB, hML, hown, hts, hW, -⟩ := id Cx
  rw [hcl] at hown
  exact va_gets hX hB ((va_Z.moved hW.alike so.1).kept Cx.kp) hS hown (hts _ tr_ssw.1) (fun _ q => q) hd (k p e s m args below meth c H locs cells slots ls Cx Rp hS hl hc hs)
theorem tr_s_fm (so : tr_sok E) (hcl : (mY M).cls = RJ0) (hd : decode (mB M) pc = .ok (.getstatic 1053, 3)) (k : ∀ t, tr_W E M R lc lz Z (pc + 3) lv (.inr (.inr t) :: st) h rc rs) : tr_W E M R lc lz Z pc lv st h rc rs := by
  intro p e s m args below meth c H locs cells slots ls Cx Rp hS hl hc hs
  obtain ⟨hX, hB, hML, hown, hts, hW, -⟩ := id Cx
  rw [hcl] at hown
  rcases so.2 with z | ⟨t, z⟩
  · exact va_gets hX hB ((va_Z.moved hW.alike z).kept Cx.kp) hS hown (hts _ tr_ssw.2.2.2.1) (fun _ q => q) hd (k 0 p e s m args below meth c H locs cells slots ls Cx Rp hS hl hc hs)
  · exact va_gets hX hB ((va_Z.moved hW.alike z).kept Cx.kp) hS hown (hts _ tr_ssw.2.2.2.1) (fun _ q => q) hd (k (t + 1) p e s m args below meth c H locs cells slots ls Cx Rp hS hl hc hs)
theorem tr_s_cod (hcl : (mY M).cls = RJ0) (hd : decode (mB M) pc = .ok (.getfield 15, 3)) {q : Nat} (hq : ht h q = 18) (k : tr_W E M R lc lz Z (pc + 3) lv (.inl (ii 0) :: st) h rc rs) : tr_W E M R lc lz Z pc lv (.inr (.inr q) :: st) h rc rs := by
  intro p e s m args below meth c H locs cells slots ls Cx Rp hS hl hc hs
  obtain ⟨hX, hB, hML, hown, hts, hW, -⟩ := id Cx
  rw [hcl] at hown
  obtain ⟨a, rfl⟩ := tr_o_of Rp.1 hq
  obtain ⟨v, s1, s2, s3, s4, -⟩ := (Rp.2.2.1 a).2.2.2.2 hq
  exact vk_getf hX hB ((va_OF.moved hW.alike s2).kept Cx.kp) hS hown (hts _ tr_ssw.2.1) (fun _ q => q) hd (k p e s m args below meth c H locs cells slots ls Cx Rp hS hl hc hs)
/-- the bytes of a text -/
def tr_sB (E : tr_Env) (h : tr_H) (q v : Nat) : Prop := ∃ a, v = a + 1 ∧ va_T .byte a (hn h q) (fun j => .int (hI h q j)) (eO E) (eS E) (eS E).heap
theorem tr_s_val (hcl : (mY M).cls = RJ0) (hd : decode (mB M) pc = .ok (.getfield 9, 3)) {q : Nat} (hq : ht h q = 18) (k : ∀ v, tr_sB E h q v → tr_W E M R lc lz Z (pc + 3) lv (.inr (.inr v) :: st) h rc rs) : tr_W E M R lc lz Z pc lv (.inr (.inr q) :: st) h rc rs := by
  intro p e s m args below meth c H locs cells slots ls Cx Rp hS hl hc hs
  obtain ⟨hX, hB, hML, hown, hts, hW, -⟩ := id Cx
  rw [hcl] at hown
  obtain ⟨a, rfl⟩ := tr_o_of Rp.1 hq
  obtain ⟨v, s1, s2, s3, s4, -⟩ := (Rp.2.2.1 a).2.2.2.2 hq
  exact vk_getf hX hB ((va_OF.moved hW.alike s3).kept Cx.kp) hS hown (hts _ tr_ssw.2.2.1) (fun _ q => q) hd (k (v + 1) ⟨v, rfl, s4⟩ p e s m args below meth c H locs cells slots ls Cx Rp hS hl hc hs)
theorem tr_s_len {q v : Nat} (hB' : tr_sB E h q v) (hd : decode (mB M) pc = .ok (.arraylength, 1)) (k : tr_W E M R lc lz Z (pc + 1) lv (.inl (ii (hn h q : Nat)) :: st) h rc rs) : tr_W E M R lc lz Z pc lv (.inr (.inr v) :: st) h rc rs := by
  intro p e s m args below meth c H locs cells slots ls Cx Rp hS hl hc hs
  obtain ⟨hX, hB, hML, hown, hts, hW, -⟩ := id Cx
  obtain ⟨a, rfl, hT⟩ := hB'
  exact va_tlen hX hB ((va_T.moved hW.alike hT).kept Cx.kp) hS (tr_iiN _).symm hd (k p e s m args below meth c H locs cells slots ls Cx Rp hS hl hc hs)
theorem tr_s_at {q v : Nat} {x : Int32} (hB' : tr_sB E h q v) (hx : ixo x (hn h q)) (hd : decode (mB M) pc = .ok (.baload, 1)) (k : tr_W E M R lc lz Z (pc + 1) lv (.inl (hI h q (ixn x)) :: st) h rc rs) : tr_W E M R lc lz Z pc lv (.inl x :: .inr (.inr v) :: st) h rc rs := by
  intro p e s m args below meth c H locs cells slots ls Cx Rp hS hl hc hs
  obtain ⟨hX, hB, hML, hown, hts, hW, -⟩ := id Cx
  obtain ⟨a, rfl, hT⟩ := hB'
  exact va_tb hX hB ((va_T.moved hW.alike hT).kept Cx.kp) hS (tr_in_of hx) rfl hd (k p e s m args below meth c H locs cells slots ls Cx Rp hS hl hc hs)
/-- a call on a text -/
theorem tr_s_call (hlc : lc ≤ R.cells) (hlz : lz ≤ R.slots) {idx d n r : Nat} {N : tr_MI} {as rest : List tr_V} {Q : tr_Q} (hd : decode (mB M) pc = .ok (.invokevirtual idx, 3)) (hN : tr_Mok N n) (hh : mH N = []) (hK : mK N = 0) (hR : tr_Rok R (d + 1)) (hw : Cond.methodLink (mY M).cls idx (mY N) ∈ tr_LW)
    (hcl : (mY N).cls = "java/lang/String") (htg : ht h r = 18) (hn : as.length = n) (hwd : tr_wds rest ≤ 8) (hmc : mC N ≤ rc) (hms : mS N ≤ rs) (hC : tr_Cd E d N (.inr (.inr r) :: as) h Q)
    (kr : ∀ v h', Q (.inl v) h' → tr_W E M R lc lz Z (pc + 3) lv (v.toList ++ rest) h' (rc - mC N) (rs - mS N)) (kx : ∀ k h', k < 3 → Q (.inr k) h' → tr_T E M R lc lz Z pc lv rest h' (rc - mC N) (rs - mS N) k) :
    tr_W E M R lc lz Z pc lv ((.inr (.inr r) :: as).reverse ++ rest) h rc rs := by
  intro p e s m args below meth c H locs cells slots ls Cx Rp hS hl hc hs
  obtain ⟨hX, hB, hML, hown, hts, hW, -⟩ := id Cx
  obtain ⟨a, rfl⟩ := tr_o_of Rp.1 htg
  obtain ⟨v, s1, s2, s3, s4, -⟩ := (Rp.2.2.1 a).2.2.2.2 htg
  obtain ⟨cell, g1, g2, g3, g4⟩ := va_O.moved hW.alike s1
  have hlt : a < elo E := (Array.getElem?_eq_some_iff.mp g1).1
  have hkw : (Cond.instanceMethod (mY N)).before args s = true := by
    have := hts _ hN.2.2.1
    unfold tr_kw at this
    rw [hK] at this
    exact this
  have hsw : (Cond.selects (mY N).cls (mY N) (mY N)).before args s = true := by
    have := hts _ hN.2.2.2.1
    unfold tr_sw at this
    rw [hK] at this
    exact this
  refine tr_after Cx Rp hS hl hc hs hmc hms (vx_runV (C := (mY N).cls) (b := a) (As := as.map tr_cv) (rest := rest.map tr_cv) (g := F0 m pc ls _) ⟨hX, hB, hML, hown, hts⟩ hC ⟨tr_callB Cx hN hh hR (hts _ hw), hkw, hsw⟩ ⟨tr_Pc_blind, ⟨cell, by rw [Rp.2.1.2 a hlt]; exact g1, g2, by rw [hcl]; exact g3⟩, tr_Pc_of Cx Rp rfl⟩ rfl (by rw [List.length_map]; exact hn) hl.1 tr_stk1 (lv_room (by rw [tr_wds_eq]; exact hwd)) hd ⟨by omega, by omega⟩) kr kx
end TRS
