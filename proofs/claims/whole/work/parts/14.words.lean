/-! THE CHECK OF A TABLE, AND THAT THE WEAKEST STARTS ARE RIGHT -/
def tr_nal : List Nat := [0, 2, 2, 1, 2, 0, 1, 0, 2, 2, 0, 1, 2, 4, 2, 2, 1, 1, 1, 2, 2, 3, 0, 1, 2, 0, 1, 1, 1, 2, 2, 2, 3, 2, 2, 1, 1, 5, 1, 3, 2, 3, 2, 0, 0, 0, 0, 1, 0, 0, 1, 0, 0, 0, 0, 0, 0, 2, 2, 0, 2, 2, 1, 1, 1, 1, 1, 1, 0, 0, 1, 2, 0, 5, 1, 0, 5, 0, 2, 3, 2, 0, 1, 2, 2, 2, 3, 3, 1, 1, 3, 3, 1, 3, 3, 1, 0, 2, 1, 2, 1, 0, 1, 1, 1, 0, 1, 0, 1, 0, 1, 0, 2, 1, 2, 2, 2, 3, 2, 0, 3, 3, 0, 1, 2, 1, 2, 1, 2, 2, 3, 3, 2, 2, 1, 1, 5, 1, 2, 0, 1, 1, 2, 0, 5, 1, 0, 0, 0, 0, 0, 1, 0, 0, 1, 1, 5, 0, 2, 3, 2, 2, 0, 1, 1, 1, 1, 2, 2, 1, 2, 3, 1, 3, 1, 1, 0, 0, 0, 3, 1, 1, 1, 1, 1, 3, 3, 2, 1, 2, 1, 2, 3, 3, 3, 3, 3, 1, 0, 2, 1, 2, 1, 1, 0, 1, 2, 3, 7, 4, 5, 4, 3, 4, 4, 4, 5, 5, 3, 5, 5, 3, 5, 5, 3, 4, 3, 4, 3]
def tr_na (a : Nat) : Nat := tr_nal.getD a 99
def tr_mck (q : tr_MI × Nat) : Bool := decide ((mY q.1).cls ≠ "java/lang/invoke/MethodHandle") && (decide ((mY q.1).cls ≠ "java/lang/invoke/VarHandle") && (decide ((parseMethodDescriptor (mY q.1).desc).map (fun d => d.parameters.length) = some q.2) && Nat.ble (mL q.1) 45))
set_option maxRecDepth 100000 in
theorem tr_mck_all : (tr_ml.zip tr_nal).all tr_mck = true := by decide +kernel
set_option maxRecDepth 100000 in
theorem tr_ml_len : tr_ml.length = 229 := rfl
set_option maxRecDepth 100000 in
theorem tr_nal_len : tr_nal.length = 229 := rfl
theorem tr_Mok_of {a : Nat} (h : a < 229) : tr_Mok (tr_mi a) (tr_na a) := by
  have h1 : a < tr_ml.length := by rw [tr_ml_len]; exact h
  have h2 : a < tr_nal.length := by rw [tr_nal_len]; exact h
  have e1 : tr_mi a = tr_ml[a] := by unfold tr_mi; rw [List.getD_eq_getElem?_getD, List.getElem?_eq_getElem h1]; rfl
  have e2 : tr_na a = tr_nal[a] := by unfold tr_na; rw [List.getD_eq_getElem?_getD, List.getElem?_eq_getElem h2]; rfl
  have hm : tr_mi a ∈ tr_ml := by rw [e1]; exact List.getElem_mem h1
  have hz : (tr_mi a, tr_na a) ∈ tr_ml.zip tr_nal := by
    rw [e1, e2]
    have : (tr_ml.zip tr_nal)[a]? = some (tr_ml[a], tr_nal[a]) := by rw [List.getElem?_zip_eq_some]; exact ⟨List.getElem?_eq_getElem h1, List.getElem?_eq_getElem h2⟩
    exact List.mem_of_getElem? this
  have hk := List.all_eq_true.mp tr_mck_all _ hz
  unfold tr_mck at hk
  simp only [Bool.and_eq_true, decide_eq_true_eq, Nat.ble_eq] at hk
  exact ⟨tr_cw_in _ (List.mem_map.mpr ⟨_, hm, rfl⟩), tr_iw_in _ (List.mem_map.mpr ⟨_, hm, rfl⟩), tr_kw_in _ (List.mem_map.mpr ⟨_, hm, rfl⟩), tr_sw_in _ (List.mem_map.mpr ⟨_, hm, rfl⟩), ⟨hk.1, hk.2.1⟩, hk.2.2.1, hk.2.2.2⟩
def tr_nl : List (Nat × Nat × Nat) := [(4, 19, 3), (6, 21, 3), (7, 17, 7), (7, 19, 3), (7, 37, 2), (7, 44, 1), (7, 51, 6), (7, 69, 5), (7, 103, 4), (9, 8, 8), (9, 89, 9)]
theorem tr_nl_in : ∀ w ∈ tr_nl.map (fun q => Cond.classLink (tr_R q.1) q.2.1 ((vwCl.getD (q.2.2 - 1) (RX0, TX0, 0)).1)), w ∈ tr_LW := tr_inLW _ [(2, 205), (2, 35), (1, 31), (1, 33), (1, 111), (1, 173), (1, 198), (2, 199), (3, 170), (1, 23), (5, 91)] (by decide +kernel) (by decide +kernel)
def tr_ob : List (Nat × Nat) := [(0, 3), (1, 3), (2, 3), (3, 3), (4, 3), (5, 3), (6, 3), (7, 3), (8, 11)]
theorem tr_ob_in : ∀ w ∈ tr_ob.map (fun q => Cond.methodLink (tr_R q.1) q.2 objectInit), w ∈ tr_LW := tr_inLW _ [(1, 178), (1, 116), (1, 38), (3, 175), (2, 204), (1, 203), (1, 88), (1, 28), (5, 96)] (by decide +kernel) (by decide +kernel)
def tr_an : List (Nat × Nat × Nat) := [(6, 15, 16), (7, 17, 15)]
theorem tr_an_in : ∀ w ∈ tr_an.map (fun q => Cond.classLink (tr_R q.1) q.2.1 (if Nat.beq q.2.2 15 then RX6 else RX3)), w ∈ tr_LW := tr_inLW _ [(1, 89), (1, 31)] (by decide +kernel) (by decide +kernel)
def tr_kc : List (Nat × Nat × Nat) := [(2, 41, 11), (6, 27, 16)]
theorem tr_kc_in : ∀ w ∈ tr_kc.map (fun q => Cond.classLink (tr_R q.1) q.2.1 ("[" ++ (tr_aty (q.2.2 - 11)).toString)), w ∈ tr_LW := tr_inLW _ [(2, 45), (2, 50)] (by decide +kernel) (by decide +kernel)
def tr_kl : List (Nat × Nat × Nat) := [(2, 40, 11), (6, 26, 16)]
theorem tr_kl_in : ∀ w ∈ tr_kl.map (fun q => Cond.methodLink (tr_R q.1) q.2.1 ⟨"[" ++ (tr_aty (q.2.2 - 11)).toString, "clone", "()Ljava/lang/Object;"⟩), w ∈ tr_LW := tr_inLW _ [(2, 39), (2, 46)] (by decide +kernel) (by decide +kernel)
def tr_mnl : List (Nat × Nat) := [(4, 140), (8, 150)]
theorem tr_mnl_in : ∀ w ∈ tr_mnl.map (fun q => Cond.methodLink (tr_R q.1) q.2 Lib.Math.min.name), w ∈ tr_LW := tr_inLW _ [(3, 79), (6, 15)] (by decide +kernel) (by decide +kernel)
def tr_mxl : List (Nat × Nat) := [(8, 175)]
theorem tr_mxl_in : ∀ w ∈ tr_mxl.map (fun q => Cond.methodLink (tr_R q.1) q.2 Lib.Math.max.name), w ∈ tr_LW := tr_inLW _ [(6, 52)] (by decide +kernel) (by decide +kernel)
def tr_acl : List (Nat × Nat) := [(7, 313)]
theorem tr_acl_in : ∀ w ∈ tr_acl.map (fun q => Cond.methodLink (tr_R q.1) q.2 arraycopyName), w ∈ tr_LW := tr_inLW _ [(2, 29)] (by decide +kernel) (by decide +kernel)
def tr_l2 : List (Nat × Nat × Nat) := [(7, 294, 31), (8, 339, 31)]
theorem tr_l2_in : ∀ w ∈ tr_l2.map (fun q => Cond.constantLong (tr_R q.1) q.2.1 (jj (q.2.2 : Nat))), w ∈ tr_LW := tr_inLW _ [(2, 114), (7, 75)] (by decide +kernel) (by decide +kernel)
def tr_l1 : List (Nat × Nat × Nat) := [(4, 139, 100000), (8, 149, 100000)]
theorem tr_l1_in : ∀ w ∈ tr_l1.map (fun q => Cond.constant (tr_R q.1) q.2.1 (ii (q.2.2 : Nat))), w ∈ tr_LW := tr_inLW _ [(3, 78), (6, 14)] (by decide +kernel) (by decide +kernel)
def tr_sll : List (Nat × Nat) := [(4, 145), (8, 130)]
def tr_scl : List (Nat × Nat) := [(4, 149), (8, 138)]
theorem tr_lib_in : Cond.instanceMethod objectInit ∈ tr_LW ∧ Cond.code objectInit ⟨#[0xb1]⟩ 1 none ∈ tr_LW ∧ Cond.static Lib.Math.min.name ∈ tr_LW ∧ Cond.initialized "java/lang/Math" ∈ tr_LW ∧ Cond.code Lib.Math.min.name Lib.Math.min.code 2 (some .int) ∈ tr_LW ∧ Cond.static Lib.Math.max.name ∈ tr_LW ∧ Cond.code Lib.Math.max.name Lib.Math.max.code 2 (some .int) ∈ tr_LW ∧ Cond.native arraycopyName ∈ tr_LW ∧ Cond.static arraycopyName ∈ tr_LW ∧ Cond.initialized "java/lang/System" ∈ tr_LW := by
  refine ⟨?_, ?_, ?_, ?_, ?_, ?_, ?_, ?_, ?_, ?_⟩ <;> exact List.mem_filter.mpr ⟨by decide +kernel, by decide +kernel⟩
theorem tr_cln_in : ∀ k, k = 0 ∨ k = 5 → Cond.sameMethod ("[" ++ (tr_aty k).toString) "java/lang/Object" "clone" "()Ljava/lang/Object;" ∈ tr_LW ∧ Cond.native tr_cln ∈ tr_LW ∧ Cond.instanceMethod tr_cln ∈ tr_LW ∧ Cond.selects ("[" ++ (tr_aty k).toString) ⟨"[" ++ (tr_aty k).toString, "clone", "()Ljava/lang/Object;"⟩ tr_cln ∈ tr_LW ∧ Cond.castable ("[" ++ (tr_aty k).toString) "java/lang/Cloneable" ∈ lw_tbl := by
  rintro k (rfl | rfl) <;> exact ⟨List.mem_filter.mpr ⟨by decide +kernel, by decide +kernel⟩, List.mem_filter.mpr ⟨by decide +kernel, by decide +kernel⟩, List.mem_filter.mpr ⟨by decide +kernel, by decide +kernel⟩, List.mem_filter.mpr ⟨by decide +kernel, by decide +kernel⟩, by decide +kernel⟩
theorem tr_arrc_in : ∀ t, (t = .int ∨ t = .byte ∨ t = .boolean ∨ t = .long) → Cond.arrayClass (newarray.typeOf t) ∈ tr_LW := by
  rintro t (rfl | rfl | rfl | rfl) <;> exact List.mem_filter.mpr ⟨by decide +kernel, by decide +kernel⟩
theorem tr_nt_in : ∀ w ∈ tr_nt.map (fun q => Cond.methodLinkNest (tr_R q.1) q.2.1 (mY (tr_mi q.2.2)) RX7), w ∈ lw_tbl := by decide +kernel
theorem tr_over_in : Cond.arrayOver (.object RX6) ∈ lw_tbl ∧ Cond.arrayOver (.object RX3) ∈ lw_tbl := ⟨by decide +kernel, by decide +kernel⟩
