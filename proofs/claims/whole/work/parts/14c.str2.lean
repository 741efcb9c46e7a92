/-! THE TEXTS' OWN METHODS, walked -/
theorem tr_s_k : ∀ k : Fin 128, ii (k.val : Nat) &&& ii 255 = ii (k.val : Nat) ∧ ((ii (k.val : Nat)).toUInt32 % 65536).toInt32 = ii (k.val : Nat) ∧ narrow .char (.int (ii (k.val : Nat))) = .int (ii (k.val : Nat)) := by decide +kernel
theorem tr_s_ix {x : Int32} {n : Nat} (hx : ixo x n) (hn : n ≤ 1000) : ¬ x < ii 0 ∧ x < ii (n : Nat) := by
  obtain ⟨h1, h2⟩ := hx
  have e0 : (ii 0).toInt = 0 := by decide
  have en : (ii (n : Nat)).toInt = (n : Int) := by
    rw [tr_iiN]; exact nI_toInt (by omega)
  rw [Int32.lt_iff_toInt_lt, Int32.lt_iff_toInt_lt, e0, en]
  omega
theorem tr_s_shr (x : Int32) : x >>> (ii 0 &&& 31) = x := by
  rw [show (ii 0 &&& (31 : Int32)) = 0 by decide]
  simp
section TRS2
variable {E : tr_Env} {h : tr_H} {Q : tr_Q}
set_option maxRecDepth 10000 in
theorem c_J3_checkIndex {x : Int32} {n t : Nat} (hx : ixo x n) (hn : n ≤ 1000) (q : Q (.inl (some (.inl x))) h) : tr_Cd E 1 mi_J3_checkIndex [.inl x, .inl (ii (n : Nat)), .inr (.inr t)] h Q := by
  refine tr_Cd_of ok_J3_checkIndex.1 (by decide +kernel) (by rw [tr_ws_eq]; exact Nat.le_of_ble_eq_true rfl) ?_
  have z := tr_s_ix hx hn
  refine tr_r_iload_n (k := 0) (by decide +kernel) rfl ?_
  refine tr_r_if_lt (off := 8) (tgt := 9) (by decide +kernel) rfl (fun g => absurd g z.1) (fun _ => ?_)
  refine tr_r_iload_n (k := 0) (by decide +kernel) rfl ?_
  refine tr_r_iload_n (k := 1) (by decide +kernel) rfl ?_
  refine tr_r_icmp_lt (off := 10) (tgt := 16) (by decide +kernel) rfl (fun _ => ?_) (fun g => absurd z.2 g)
  refine tr_r_iload_n (k := 0) (by decide +kernel) rfl ?_
  exact tr_r_iret (Nat.le_refl _) (Nat.le_refl _) (by decide +kernel) rfl q
set_option maxRecDepth 10000 in
theorem c_J0_checkIndex (ok : tr_ok E) (so : tr_sok E) {x : Int32} {n : Nat} (hx : ixo x n) (hn : n ≤ 1000) (q : Q (.inl none) h) : tr_Cd E 2 mi_J0_checkIndex [.inl x, .inl (ii (n : Nat))] h Q := by
  refine tr_Cd_of ok_J0_checkIndex.1 (by decide +kernel) (by rw [tr_ws_eq]; exact Nat.le_of_ble_eq_true rfl) ?_
  refine tr_r_iload_n (k := 0) (by decide +kernel) rfl ?_
  refine tr_r_iload_n (k := 1) (by decide +kernel) rfl ?_
  refine tr_s_fm so rfl (by decide +kernel) (fun t => ?_)
  refine tr_r_callS (Q := fun o h' => o = .inl (some (.inl x)) ∧ h' = h) (as := [.inl x, .inl (ii (n : Nat)), .inr (.inr t)]) (rest := []) (N := mi_J3_checkIndex) (d := 1) ok (Nat.le_refl _) (Nat.le_refl _) (by decide +kernel) ok_J3_checkIndex rfl ⟨Nat.le_of_ble_eq_true rfl, Nat.le_of_ble_eq_true rfl⟩ tr_ssw.2.2.2.2.1 rfl (Nat.le_of_ble_eq_true rfl) (Nat.le_refl _) (Nat.le_refl _) (c_J3_checkIndex hx hn ⟨rfl, rfl⟩) (fun v h' e => ?_) (fun k h' _ e => by cases e.1)
  obtain ⟨e1, e2⟩ := e
  obtain rfl := Sum.inl.inj e1
  have e3 := e2.symm
  subst e3
  refine tr_r_popI (x := x) (by decide +kernel) ?_
  exact tr_r_vret (Nat.le_refl _) (Nat.le_refl _) (by decide +kernel) rfl q
set_option maxRecDepth 10000 in
theorem c_J1_charAt (ok : tr_ok E) (so : tr_sok E) {x : Int32} {r v : Nat} (hB : tr_sB E h r v) (hx : ixo x (hn h r)) (hb : hn h r ≤ 1000) (hk : ∃ k : Fin 128, hI h r (ixn x) = ii (k.val : Nat)) (q : Q (.inl (some (.inl (hI h r (ixn x))))) h) : tr_Cd E 3 mi_J1_charAt [.inr (.inr v), .inl x] h Q := by
  refine tr_Cd_of ok_J1_charAt.1 (by decide +kernel) (by rw [tr_ws_eq]; exact Nat.le_of_ble_eq_true rfl) ?_
  obtain ⟨k, hk⟩ := hk
  obtain ⟨z1, z2, z3⟩ := tr_s_k k
  refine tr_r_iload_n (k := 1) (by decide +kernel) rfl ?_
  refine tr_r_aload_n (k := 0) (by decide +kernel) rfl ?_
  refine tr_s_len hB (by decide +kernel) ?_
  refine tr_r_callS (Q := fun o h' => o = .inl none ∧ h' = h) (as := [.inl x, .inl (ii (hn h r : Nat))]) (rest := []) (N := mi_J0_checkIndex) (d := 2) ok (Nat.le_refl _) (Nat.le_refl _) (by decide +kernel) ok_J0_checkIndex rfl ⟨Nat.le_of_ble_eq_true rfl, Nat.le_of_ble_eq_true rfl⟩ tr_ssw.2.2.2.2.2.1 rfl (Nat.le_of_ble_eq_true rfl) (Nat.le_refl _) (Nat.le_refl _) (c_J0_checkIndex ok so hx hb ⟨rfl, rfl⟩) (fun v h' e => ?_) (fun k h' _ e => by cases e.1)
  obtain ⟨e1, e2⟩ := e
  obtain rfl := Sum.inl.inj e1
  have e3 := e2.symm
  subst e3
  refine tr_r_aload_n (k := 0) (by decide +kernel) rfl ?_
  refine tr_r_iload_n (k := 1) (by decide +kernel) rfl ?_
  refine tr_s_at hB hx (by decide +kernel) ?_
  refine tr_r_sipush (n := 255) (by decide +kernel) (by decide) ?_
  refine tr_r_iand (by decide +kernel) ?_
  rw [hk, z1]
  refine tr_r_i2c (by decide +kernel) z2 ?_
  rw [hk] at q
  exact tr_r_nret (Nat.le_refl _) (Nat.le_refl _) (by decide +kernel) rfl z3 q
set_option maxRecDepth 10000 in
theorem c_J0_isLatin1 (so : tr_sok E) {r : Nat} (tg : ht h r = 18) (q : Q (.inl (some (.inl (ii 1)))) h) : tr_Cd E 1 mi_J0_isLatin1 [.inr (.inr r)] h Q := by
  refine tr_Cd_of ok_J0_isLatin1.1 (by decide +kernel) (by rw [tr_ws_eq]; exact Nat.le_of_ble_eq_true rfl) ?_
  refine tr_s_cs so rfl (by decide +kernel) ?_
  refine tr_r_if_eq (off := 14) (tgt := 17) (by decide +kernel) rfl (fun g => absurd g (by decide)) (fun _ => ?_)
  refine tr_r_aload_n (k := 0) (by decide +kernel) rfl ?_
  refine tr_s_cod rfl (by decide +kernel) tg ?_
  refine tr_r_if_ne (off := 7) (tgt := 17) (by decide +kernel) rfl (fun _ => ?_) (fun g => absurd rfl g)
  refine tr_r_iconst (n := 1) (by decide +kernel) ?_
  refine tr_r_goto (off := 4) (tgt := 18) (by decide +kernel) rfl ?_
  exact tr_r_nret (Nat.le_refl _) (Nat.le_refl _) (by decide +kernel) rfl (by decide) q
set_option maxRecDepth 10000 in
theorem c_J0_coder (so : tr_sok E) {r : Nat} (tg : ht h r = 18) (q : Q (.inl (some (.inl (ii 0)))) h) : tr_Cd E 1 mi_J0_coder [.inr (.inr r)] h Q := by
  refine tr_Cd_of ok_J0_coder.1 (by decide +kernel) (by rw [tr_ws_eq]; exact Nat.le_of_ble_eq_true rfl) ?_
  refine tr_s_cs so rfl (by decide +kernel) ?_
  refine tr_r_if_eq (off := 10) (tgt := 13) (by decide +kernel) rfl (fun g => absurd g (by decide)) (fun _ => ?_)
  refine tr_r_aload_n (k := 0) (by decide +kernel) rfl ?_
  refine tr_s_cod rfl (by decide +kernel) tg ?_
  refine tr_r_goto (off := 4) (tgt := 14) (by decide +kernel) rfl ?_
  exact tr_r_nret (Nat.le_refl _) (Nat.le_refl _) (by decide +kernel) rfl (by decide) q
set_option maxRecDepth 10000 in
theorem c_J0_length (so : tr_sok E) {r : Nat} (tg : ht h r = 18) (q : Q (.inl (some (.inl (ii (hn h r : Nat))))) h) : tr_Cd E 2 mi_J0_length [.inr (.inr r)] h Q := by
  refine tr_Cd_of ok_J0_length.1 (by decide +kernel) (by rw [tr_ws_eq]; exact Nat.le_of_ble_eq_true rfl) ?_
  refine tr_r_aload_n (k := 0) (by decide +kernel) rfl ?_
  refine tr_s_val rfl (by decide +kernel) tg (fun v hB => ?_)
  refine tr_s_len hB (by decide +kernel) ?_
  refine tr_r_aload_n (k := 0) (by decide +kernel) rfl ?_
  refine tr_s_call (Q := fun o h' => o = .inl (some (.inl (ii 0))) ∧ h' = h) (r := r) (as := []) (rest := [.inl (ii (hn h r : Nat))]) (N := mi_J0_coder) (d := 1) (Nat.le_refl _) (Nat.le_refl _) (by decide +kernel) ok_J0_coder rfl rfl ⟨Nat.le_of_ble_eq_true rfl, Nat.le_of_ble_eq_true rfl⟩ tr_ssw.2.2.2.2.2.2.2.2.1 rfl tg rfl (Nat.le_of_ble_eq_true rfl) (Nat.le_refl _) (Nat.le_refl _) (c_J0_coder so tg ⟨rfl, rfl⟩) (fun v h' e => ?_) (fun k h' _ e => by cases e.1)
  obtain ⟨e1, e2⟩ := e
  obtain rfl := Sum.inl.inj e1
  have e3 := e2.symm
  subst e3
  refine tr_r_ishr (x := ii (hn h r : Nat)) (y := ii 0) (by decide +kernel) ?_
  rw [tr_s_shr]
  exact tr_r_iret (Nat.le_refl _) (Nat.le_refl _) (by decide +kernel) rfl q
set_option maxRecDepth 10000 in
theorem c_J0_charAt (ok : tr_ok E) (so : tr_sok E) {x : Int32} {r : Nat} (tg : ht h r = 18) (hx : ixo x (hn h r)) (hb : hn h r ≤ 1000) (hk : ∃ k : Fin 128, hI h r (ixn x) = ii (k.val : Nat)) (q : Q (.inl (some (.inl (hI h r (ixn x))))) h) : tr_Cd E 4 mi_J0_charAt [.inr (.inr r), .inl x] h Q := by
  refine tr_Cd_of ok_J0_charAt.1 (by decide +kernel) (by rw [tr_ws_eq]; exact Nat.le_of_ble_eq_true rfl) ?_
  refine tr_r_aload_n (k := 0) (by decide +kernel) rfl ?_
  refine tr_s_call (Q := fun o h' => o = .inl (some (.inl (ii 1))) ∧ h' = h) (r := r) (as := []) (rest := []) (N := mi_J0_isLatin1) (d := 1) (Nat.le_refl _) (Nat.le_refl _) (by decide +kernel) ok_J0_isLatin1 rfl rfl ⟨Nat.le_of_ble_eq_true rfl, Nat.le_of_ble_eq_true rfl⟩ tr_ssw.2.2.2.2.2.2.2.1 rfl tg rfl (Nat.le_of_ble_eq_true rfl) (Nat.le_refl _) (Nat.le_refl _) (c_J0_isLatin1 so tg ⟨rfl, rfl⟩) (fun v h' e => ?_) (fun k h' _ e => by cases e.1)
  obtain ⟨e1, e2⟩ := e
  obtain rfl := Sum.inl.inj e1
  have e3 := e2.symm
  subst e3
  refine tr_r_if_eq (x := ii 1) (off := 12) (tgt := 16) (by decide +kernel) rfl (fun g => absurd g (by decide)) (fun _ => ?_)
  refine tr_r_aload_n (k := 0) (by decide +kernel) rfl ?_
  refine tr_s_val rfl (by decide +kernel) tg (fun v hB => ?_)
  refine tr_r_iload_n (k := 1) (by decide +kernel) rfl ?_
  refine tr_r_callS (Q := fun o h' => o = .inl (some (.inl (hI h r (ixn x)))) ∧ h' = h) (as := [.inr (.inr v), .inl x]) (rest := []) (N := mi_J1_charAt) (d := 3) ok (Nat.le_refl _) (Nat.le_refl _) (by decide +kernel) ok_J1_charAt rfl ⟨Nat.le_of_ble_eq_true rfl, Nat.le_of_ble_eq_true rfl⟩ tr_ssw.2.2.2.2.2.2.1 rfl (Nat.le_of_ble_eq_true rfl) (Nat.le_refl _) (Nat.le_refl _) (c_J1_charAt ok so hB hx hb hk ⟨rfl, rfl⟩) (fun v h' e => ?_) (fun k h' _ e => by cases e.1)
  obtain ⟨e1, e2⟩ := e
  obtain rfl := Sum.inl.inj e1
  have e3 := e2.symm
  subst e3
  obtain ⟨k, hk⟩ := hk
  exact tr_r_nret (x := hI h r (ixn x)) (Nat.le_refl _) (Nat.le_refl _) (by decide +kernel) rfl (by rw [hk]; exact (tr_s_k k).2.2) q
end TRS2
