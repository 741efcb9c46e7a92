def tr_pok (M : tr_MI) (a b : Nat) : Bool := match vwCl[a - 1]? with
  | some q => !(q.2.1 b).2.2.2 || (decide ((mY M).name = "<init>") && decide (q.1 = (mY M).cls))
  | none => false
/-- what stands behind a 'new' of an exception -/
def tr_thr (b : ByteArray) (pc k : Nat) : Bool := decide (decode b (pc + 3) = .ok (.dup, 1)) && (decide (decode b (pc + 4) = .ok (.ldc_w (tr_exi k).2.1, 3)) && (decide (decode b (pc + 7) = .ok (.invokespecial (tr_exi k).2.2, 3)) && decide (decode b (pc + 10) = .ok (.athrow, 1))))
/-- an entry of a method's table is right; dm: frames that there are at least, dk: which methods may be called -/
def tr_eok (M : tr_MI) (dm : Nat) (dk : Nat → Bool) (pc : Nat) (i : Instr) (len a b c d e f : Nat) : Bool :=
  match i with
  | .aload _ => Nat.beq len 2
  | .aload_n _ => Nat.beq len 1
  | .iload _ => Nat.beq len 2
  | .iload_n _ => Nat.beq len 1
  | .lload _ => Nat.beq len 2
  | .lload_n _ => Nat.beq len 1
  | .istore k => Nat.beq len 2 && Nat.blt k (mL M)
  | .istore_n k => Nat.beq len 1 && Nat.blt k.val (mL M)
  | .astore k => Nat.beq len 2 && Nat.blt k (mL M)
  | .astore_n k => Nat.beq len 1 && Nat.blt k.val (mL M)
  | .lstore k => Nat.beq len 2 && Nat.blt (k + 1) (mL M)
  | .lstore_n k => Nat.beq len 1 && Nat.blt (k.val + 1) (mL M)
  | .iinc k _ => Nat.beq len 3 && Nat.blt k (mL M)
  | .iconst _ => Nat.beq len 1
  | .bipush n => Nat.beq len 2 && decide ((Int8.ofInt n).toInt32 = ii n)
  | .sipush n => Nat.beq len 3 && decide ((Int16.ofInt n).toInt32 = ii n)
  | .lconst _ => Nat.beq len 1
  | .ldc idx => Nat.beq len 2 && (match c with
    | 0 => decide ((mO M, idx, b) ∈ tr_l1)
    | _ => Nat.blt b 8 && decide ((mO M, idx, b) ∈ tr_sidx))
  | .ldc2_w idx => Nat.beq len 3 && decide ((mO M, idx, b) ∈ tr_l2)
  | .getfield idx => Nat.beq len 3 && decide ((mO M, idx, a, b, c) ∈ tr_ft)
  | .putfield idx => Nat.beq len 3 && (decide ((mO M, idx, a, b, c) ∈ tr_ft) && tr_pok M a b)
  | .iaload => Nat.beq len 1 && (Nat.beq a 11 || Nat.beq a 17)
  | .baload => Nat.beq len 1 && (Nat.beq a 12 || Nat.beq a 13)
  | .laload => Nat.beq len 1 && Nat.beq a 14
  | .aaload => Nat.beq len 1 && (Nat.beq a 15 || Nat.beq a 16)
  | .iastore => Nat.beq len 1 && Nat.beq a 11
  | .bastore => Nat.beq len 1 && ((Nat.beq a 12 && Nat.beq c 0) || (Nat.beq a 13 && Nat.beq c 1))
  | .lastore => Nat.beq len 1 && Nat.beq a 14
  | .aastore => Nat.beq len 1 && ((Nat.beq a 15 && Nat.beq b 7) || (Nat.beq a 16 && Nat.beq b 4))
  | .arraylength => Nat.beq len 1 && (Nat.beq a 11 || (Nat.beq a 12 || (Nat.beq a 13 || (Nat.beq a 14 || Nat.beq a 17))))
  | .new idx => Nat.beq len 3 && (match c with
    | 0 => Nat.ble 1 a && (decide ((mO M, idx, a) ∈ tr_nl) && (match vwCl[a - 1]? with | some q => Nat.beq q.2.2 b | none => false))
    | _ => Nat.blt a 3 && (Nat.beq idx (tr_exi a).1 && (decide ((mY M).cls = RX7) && (decide (mH M = []) && (Nat.ble 8 dm && tr_thr (mB M) pc a)))))
  | .newarray t => Nat.beq len 2 && (Nat.ble b 20000 && ((decide (t = .int) && Nat.beq a 11) || ((decide (t = .byte) && Nat.beq a 12) || ((decide (t = .boolean) && Nat.beq a 13) || (decide (t = .long) && Nat.beq a 14)))))
  | .anewarray idx => Nat.beq len 3 && (Nat.ble b 20000 && (decide ((mO M, idx, a) ∈ tr_an) && (Nat.beq a 15 || Nat.beq a 16)))
  | .checkcast idx => Nat.beq len 3 && (decide ((mO M, idx, a) ∈ tr_kc) && (Nat.ble 11 a && Nat.blt a 17))
  | .iadd => Nat.beq len 1
  | .isub => Nat.beq len 1
  | .imul => Nat.beq len 1
  | .iand => Nat.beq len 1
  | .ior => Nat.beq len 1
  | .ixor => Nat.beq len 1
  | .ishl => Nat.beq len 1
  | .ishr => Nat.beq len 1
  | .ladd => Nat.beq len 1
  | .lsub => Nat.beq len 1
  | .lmul => Nat.beq len 1
  | .irem => Nat.beq len 1
  | .ldiv => Nat.beq len 1
  | .lrem => Nat.beq len 1
  | .lcmp => Nat.beq len 1
  | .i2l => Nat.beq len 1
  | .i2b => Nat.beq len 1
  | .dup => Nat.beq len 1
  | .dup2 => Nat.beq len 1
  | .pop => Nat.beq len 1
  | .ifCond _ off => Nat.beq len 3 && decide ((pc : Int) + off = (a : Int))
  | .if_icmp _ off => Nat.beq len 3 && decide ((pc : Int) + off = (a : Int))
  | .goto off => Nat.beq len 3 && decide ((pc : Int) + off = (a : Int))
  | .tableswitch dflt lo hi offs => decide ((pc : Int) + dflt = (a : Int)) && (decide (-2147483648 ≤ lo) && (decide (hi + 1 = lo + offs.toList.length) && (decide (hi ≤ 2147483647) && decide (∀ o ∈ offs.toList, 0 ≤ (pc : Int) + o))))
  | .lookupswitch dflt ps => decide ((pc : Int) + dflt = (a : Int)) && ((ps.toList.zip (ps.toList.drop 1)).all (fun (a, next) => a.1 < next.1) && decide (∀ q ∈ ps.toList, -2147483648 ≤ q.1 ∧ q.1 < 2147483648 ∧ 0 ≤ (pc : Int) + q.2))
  | .invokevirtual idx => Nat.beq len 3 && (match a with
    | 1004 => decide ((mO M, idx, b) ∈ tr_kl) && ((Nat.beq b 11 || Nat.beq b 16) && Nat.ble 2 dm)
    | 1005 => decide ((mO M, idx) ∈ tr_sll) && Nat.ble 8 dm
    | 1006 => decide ((mO M, idx) ∈ tr_scl) && Nat.ble 8 dm
    | a => Nat.blt a 229 && (decide ((mO M, idx, a) ∈ tr_mt) && (Nat.beq (mK (tr_mi a)) 0 && (decide (mH (tr_mi a) = []) && (Nat.beq b (tr_na a + 1) && (Nat.ble 1 d && ((match vwCl[d - 1]? with | some q => decide (q.1 = (mY (tr_mi a)).cls) | none => false) && (Nat.beq e (mC (tr_mi a)) && (Nat.beq f (mS (tr_mi a)) && dk a)))))))))
  | .invokespecial idx => Nat.beq len 3 && (match a with
    | 9999 => true
    | 1000 => decide ((mO M, idx) ∈ tr_ob) && Nat.ble 2 dm
    | a => Nat.blt a 229 && ((decide ((mO M, idx, a) ∈ tr_mt) || (decide ((mO M, idx, a) ∈ tr_nt) && Nat.beq (mO M) 7)) && (Nat.beq (mK (tr_mi a)) 1 && (decide (mH (tr_mi a) = []) && (Nat.beq b (tr_na a + 1) && (Nat.ble 1 d && (decide ((mY (tr_mi a)).name = "<init>") && (decide (mR (tr_mi a) = none) && (Nat.beq e (mC (tr_mi a)) && (Nat.beq f (mS (tr_mi a)) && dk a))))))))))
  | .invokestatic idx => Nat.beq len 3 && (match a with
    | 1001 => decide ((mO M, idx) ∈ tr_mnl) && Nat.ble 2 dm
    | 1002 => decide ((mO M, idx) ∈ tr_mxl) && Nat.ble 2 dm
    | 1003 => decide ((mO M, idx) ∈ tr_acl) && Nat.ble 2 dm
    | a => Nat.blt a 229 && (decide ((mO M, idx, a) ∈ tr_mt) && (Nat.beq (mK (tr_mi a)) 2 && (Nat.beq b (tr_na a) && (Nat.beq e (mC (tr_mi a)) && (Nat.beq f (mS (tr_mi a)) && dk a))))))
  | .ireturn => Nat.beq len 1 && (match c with
    | 0 => decide (mR M = some .int)
    | _ => decide (mR M = some .boolean))
  | .lreturn => Nat.beq len 1 && decide (mR M = some .long)
  | .return_ => Nat.beq len 1 && decide (mR M = none)
  | _ => true
def tr_dk (b : ByteArray) (e : tr_En) : Bool := decide (decode b e.1 = .ok (e.2.1, e.2.2.1))
def tr_tok (M : tr_MI) (dm : Nat) (dk : Nat → Bool) : List tr_En → Bool
  | [] => true
  | e :: es => tr_dk (mB M) e && (tr_eok M dm dk e.1 e.2.1 e.2.2.1 e.2.2.2.1 e.2.2.2.2.1 e.2.2.2.2.2.1 e.2.2.2.2.2.2.1 e.2.2.2.2.2.2.2.1 e.2.2.2.2.2.2.2.2 && ((match es with | [] => true | e2 :: _ => Nat.beq e2.1 (e.1 + e.2.2.1)) && tr_tok M dm dk es))
/-- the ends of a method: what Q says there is enough -/
def tr_Ends (E : tr_Env) (M : tr_MI) (R : Room) (lc lz : Nat) (Z : List Frame → Array Value → State → State → Prop) (Q : tr_Q) : Prop :=
  (∀ pc x lv h rc rs, decode (mB M) pc = .ok (.ireturn, 1) → mR M = some .int → Q (.inl (some (.inl x))) h → tr_W E M R lc lz Z pc lv [.inl x] h rc rs) ∧
  (∀ pc x lv h rc rs, decode (mB M) pc = .ok (.ireturn, 1) → mR M = some .boolean → Q (.inl (some (.inl (tr_nb x)))) h → tr_W E M R lc lz Z pc lv [.inl x] h rc rs) ∧
  (∀ pc x lv h rc rs, decode (mB M) pc = .ok (.lreturn, 1) → mR M = some .long → Q (.inl (some (.inr (.inl x)))) h → tr_W E M R lc lz Z pc lv [.inr (.inl x)] h rc rs) ∧
  (∀ pc lv h rc rs, decode (mB M) pc = .ok (.return_, 1) → mR M = none → Q (.inl none) h → tr_W E M R lc lz Z pc lv [] h rc rs) ∧
  (∀ pc k lv st h rc rs, k < 3 → (mY M).cls = RX7 → mH M = [] → decode (mB M) pc = .ok (.new (tr_exi k).1, 3) → tr_thr (mB M) pc k = true → tr_Rok R 8 → tr_wds st ≤ 8 → 1 ≤ rc → 6 ≤ rs → Q (.inr k) h → tr_W E M R lc lz Z pc lv st h rc rs) ∧
  (∀ pc k lv st h rc rs, k < 3 → tr_X (mH M) Q k h → tr_T E M R lc lz Z pc lv st h rc rs k) ∧
  (∀ pc k hp lv st h rc rs, k < 3 → tr_hd (mH M) pc k = some hp → (∀ r, tr_W E M R lc lz Z hp lv [.inr (.inr r)] h rc rs) → tr_T E M R lc lz Z pc lv st h rc rs k)
theorem tr_bq {a b : Nat} (h : Nat.beq a b = true) : a = b := Nat.eq_of_beq_eq_true h
theorem tr_ck_of {b r : Nat} {P : Prop} (h : tr_ck b r P) : b ≤ r ∧ P := by
  unfold tr_ck at h
  split at h
  · next g => exact ⟨Nat.le_of_ble_eq_true g, h⟩
  · exact h.elim
theorem tr_wds4 {st : List tr_V} (h : st.length ≤ 4) : tr_wds st ≤ 8 := by
  have key : ∀ l : List tr_V, tr_wds l ≤ 2 * l.length := by
    intro l
    induction l with
    | nil => exact Nat.le_refl _
    | cons v l ih =>
      have h1 : (tr_cv v).category ≤ 2 := by
        rcases v with x | x | x
        · exact Nat.le_of_ble_eq_true rfl
        · exact Nat.le_of_ble_eq_true rfl
        · rw [tr_cat1]; exact Nat.le_of_ble_eq_true rfl
      show (tr_cv v).category + tr_wds l ≤ 2 * (l.length + 1)
      omega
  have := key st
  omega
theorem tr_wds_le {st st' : List tr_V} (h : st.length ≤ 4) (e : st = st') : tr_wds st' ≤ 8 := e ▸ tr_wds4 h
section TRM
variable {E : tr_Env} {M : tr_MI} {R : Room} {lc lz : Nat} {Z : List Frame → Array Value → State → State → Prop} {pc : Nat} {lv : tr_L} {st : List tr_V} {h : tr_H} {rc rs : Nat} {Q : tr_Q} {D : Nat → Nat} {dm : Nat} {dk : Nat → Bool} {jmp : Nat → tr_K} {nxt : tr_K}
theorem tr_Rok.le {a b : Nat} (h : tr_Rok R b) (hab : a ≤ b) : tr_Rok R a := ⟨Nat.le_trans hab h.1, Nat.le_trans (Nat.mul_le_mul_left 64 hab) h.2⟩

theorem tr_tsw_mono {j1 j2 : Nat → Prop} {dflt pc : Nat} {x : Int32} (hm : ∀ t, j1 t → j2 t) : ∀ (os : List Int) (k : Int), tr_tsw j1 dflt pc x k os → tr_tsw j2 dflt pc x k os
  | [], _, h => hm _ h
  | _ :: os, k, h => ⟨fun q => hm _ (h.1 q), fun q => tr_tsw_mono hm os (k + 1) (h.2 q)⟩
theorem tr_lsw_mono {j1 j2 : Nat → Prop} {dflt pc : Nat} {x : Int32} (hm : ∀ t, j1 t → j2 t) : ∀ (os : List (Int × Int)), tr_lsw j1 dflt pc x os → tr_lsw j2 dflt pc x os
  | [], h => hm _ h
  | (_, _) :: os, h => ⟨fun q => hm _ (h.1 q), fun q => tr_lsw_mono hm os (h.2 q)⟩
theorem word_over {A A' : Array Value} {s U : State} {C : String} (hW : s.WarmedH U.vm) (h : (Cond.arrayOver (.object C)).before A s = true) : (Cond.arrayOver (.object C)).before A' U = true := va_AO.use (va_AO.moved hW.alike (va_AO.of h))
/-- the call itself, once the callee's kind is known -/
theorem tr_call_ok {hdl : Nat → Option Nat} {X : Nat → tr_H → Prop} {C : Nat → List tr_V → tr_H → tr_Q → Prop} {a b c d e f : Nat} {len : Nat} (hlen : len = 3)
    (hn : ∀ lv st h rc rs, nxt lv st h rc rs → tr_W E M R lc lz Z (pc + len) lv st h rc rs) (hj : ∀ t lv st h rc rs, jmp t lv st h rc rs → tr_W E M R lc lz Z t lv st h rc rs)
    (hX : ∀ k lv st h rc rs, k < 3 → X k h → tr_T E M R lc lz Z pc lv st h rc rs k) (hH : ∀ k hp lv st h rc rs, k < 3 → hdl k = some hp → (∀ r, tr_W E M R lc lz Z hp lv [.inr (.inr r)] h rc rs) → tr_T E M R lc lz Z pc lv st h rc rs k)
    (hs : tr_call C hdl X jmp nxt a b c d e f lv st h rc rs) :
    b ≤ st.length ∧ (st.drop b).length ≤ 4 ∧ e ≤ rc ∧ f ≤ rs ∧ (d ≠ 0 → ∃ r as, (st.take b).reverse = .inr (.inr r) :: as ∧ ht h r = d) ∧ ∃ Q' : tr_Q, C a (st.take b).reverse h Q' ∧ (∀ v h', Q' (.inl v) h' → tr_W E M R lc lz Z (pc + 3) lv (v.toList ++ st.drop b) h' (rc - e) (rs - f)) ∧ ∀ k h', k < 3 → Q' (.inr k) h' → tr_T E M R lc lz Z pc lv (st.drop b) h' (rc - e) (rs - f) k := by
  subst hlen
  unfold tr_call at hs
  dsimp only at hs
  have thr : ∀ k h', k < 3 → (match hdl k with | none => X k h' | some p => ∀ r, jmp p lv [.inr (.inr r)] h' (rc - e) (rs - f)) → tr_T E M R lc lz Z pc lv (st.drop b) h' (rc - e) (rs - f) k := by
    intro k h' hk hq
    cases hh : hdl k with
    | none => rw [hh] at hq; exact hX k _ _ _ _ _ hk hq
    | some p => rw [hh] at hq; exact hH k p _ _ _ _ _ hk hh (fun r => hj _ _ _ _ _ _ (hq r))
  have body : ∀ hs : tr_ck b st.length (tr_ck (st.drop b).length 4 (tr_ck e rc (tr_ck f rs (C a (st.take b).reverse h (match (generalizing := false) c with
    | 0 => kV (fun h' => nxt lv (st.drop b) h' (rc - e) (rs - f)) (fun E h' => match hdl E with | none => X E h' | some p => ∀ r, jmp p lv [.inr (.inr r)] h' (rc - e) (rs - f))
    | 1 => kI (fun v h' => nxt lv (.inl v :: st.drop b) h' (rc - e) (rs - f)) (fun E h' => match hdl E with | none => X E h' | some p => ∀ r, jmp p lv [.inr (.inr r)] h' (rc - e) (rs - f))
    | _ => kJ (fun v h' => nxt lv (.inr (.inl v) :: st.drop b) h' (rc - e) (rs - f)) (fun E h' => match hdl E with | none => X E h' | some p => ∀ r, jmp p lv [.inr (.inr r)] h' (rc - e) (rs - f))))))),
    b ≤ st.length ∧ (st.drop b).length ≤ 4 ∧ e ≤ rc ∧ f ≤ rs ∧ ∃ Q' : tr_Q, C a (st.take b).reverse h Q' ∧ (∀ v h', Q' (.inl v) h' → tr_W E M R lc lz Z (pc + 3) lv (v.toList ++ st.drop b) h' (rc - e) (rs - f)) ∧ ∀ k h', k < 3 → Q' (.inr k) h' → tr_T E M R lc lz Z pc lv (st.drop b) h' (rc - e) (rs - f) k := by
    intro hs
    obtain ⟨g0, hs⟩ := tr_ck_of hs
    obtain ⟨g1, hs⟩ := tr_ck_of hs
    obtain ⟨g2, hs⟩ := tr_ck_of hs
    obtain ⟨g3, hs⟩ := tr_ck_of hs
    refine ⟨g0, g1, g2, g3, _, hs, fun v h' hq => ?_, fun k h' hk hq => ?_⟩
    · split at hq
      · unfold kV at hq
        split at hq
        · next hv => cases hv; exact hn _ _ _ _ _ hq
        · next hv => cases hv
        · exact hq.elim
      · unfold kI at hq
        split at hq
        · next hv => cases hv; exact hn _ _ _ _ _ hq
        · next hv => cases hv
        · exact hq.elim
      · unfold kJ at hq
        split at hq
        · next hv => cases hv; exact hn _ _ _ _ _ hq
        · next hv => cases hv
        · exact hq.elim
    · split at hq
      · exact thr k h' hk hq
      · exact thr k h' hk hq
      · exact thr k h' hk hq
  split at hs
  · obtain ⟨g0, g1, g2, g3, g4⟩ := body hs
    exact ⟨g0, g1, g2, g3, fun q => absurd rfl q, g4⟩
  · split at hs
    · next r as hr =>
      obtain ⟨g0, g1, g2, g3, g4⟩ := body hs.2
      exact ⟨g0, g1, g2, g3, fun _ => ⟨_, _, hr, hs.1⟩, g4⟩
    · exact hs.elim

theorem tr_inv_v (ok : tr_ok E) (hlc : lc ≤ R.cells) (hlz : lz ≤ R.slots) (hO : tr_R (mO M) = (mY M).cls) (hRd : tr_Rok R dm) (hdk : ∀ a, dk a = true → tr_Rok R (D a + 1)) (hE : tr_Ends E M R lc lz Z Q) {idx len a b c d e f : Nat}
    (hn : ∀ lv st h rc rs, nxt lv st h rc rs → tr_W E M R lc lz Z (pc + len) lv st h rc rs) (hj : ∀ t lv st h rc rs, jmp t lv st h rc rs → tr_W E M R lc lz Z t lv st h rc rs)
    (hd : decode (mB M) pc = .ok (.invokevirtual idx, len)) (hok : tr_eok M dm dk pc (.invokevirtual idx) len a b c d e f = true) (hs : tr_step (fun a as h Q => tr_Cd E (D a) (tr_mi a) as h Q) tr_txt (tr_hd (mH M) pc) (tr_X (mH M) Q) jmp nxt Q pc (.invokevirtual idx) a b c d e f lv st h rc rs) : tr_W E M R lc lz Z pc lv st h rc rs := by
  obtain ⟨hl, hv⟩ := Bool.and_eq_true_iff.mp hok
  have hl := tr_bq hl
  have hX : ∀ k lv st h rc rs, k < 3 → tr_X (mH M) Q k h → tr_T E M R lc lz Z pc lv st h rc rs k := fun k lv st h rc rs => hE.2.2.2.2.2.1 pc k lv st h rc rs
  have hH : ∀ k hp lv st h rc rs, k < 3 → tr_hd (mH M) pc k = some hp → (∀ r, tr_W E M R lc lz Z hp lv [.inr (.inr r)] h rc rs) → tr_T E M R lc lz Z pc lv st h rc rs k := fun k hp lv st h rc rs => hE.2.2.2.2.2.2 pc k hp lv st h rc rs
  unfold tr_step at hs
  dsimp only at hs
  unfold ts_invokevirtual at hs
  try dsimp only at hs
  split at hs
  · subst hl
    have hv : (decide ((mO M, idx, b) ∈ tr_kl) && ((Nat.beq b 11 || Nat.beq b 16) && Nat.ble 2 dm)) = true := hv
    obtain ⟨g1, hv⟩ := Bool.and_eq_true_iff.mp hv
    obtain ⟨g2, g3⟩ := Bool.and_eq_true_iff.mp hv
    have hw := tr_kl_in _ (List.mem_map.mpr ⟨_, of_decide_eq_true g1, rfl⟩)
    have hw : Cond.methodLink (tr_R (mO M)) idx ⟨"[" ++ (tr_aty (b - 11)).toString, "clone", "()Ljava/lang/Object;"⟩ ∈ tr_LW := hw
    rw [hO] at hw
    have hb : b - 11 = 0 ∨ b - 11 = 5 := by rcases Bool.or_eq_true_iff.mp g2 with g | g <;> have g := tr_bq g <;> omega
    have hb2 : b = (b - 11) + 11 := by rcases Bool.or_eq_true_iff.mp g2 with g | g <;> have g := tr_bq g <;> omega
    obtain ⟨w1, w2, w3, w4, w5⟩ := tr_cln_in _ hb
    split at hs
    · obtain ⟨q1, q2, q3⟩ := hs
      obtain ⟨q3, q4⟩ := tr_ck_of q3
      obtain ⟨q4, q5⟩ := tr_ck_of q4
      obtain ⟨q5, q6⟩ := tr_ck_of q5
      exact tr_r_clone ok hlc hlz hb hd rfl hw w1 w2 w3 w4 w5 (hRd.le (Nat.le_of_ble_eq_true g3)) (tr_wds4 q3) (q1.trans hb2) q2 q4 q5 (fun r h1 h2 => hn _ _ _ _ _ (q6 r h1 h2 _ rfl))
    · exact hs.elim
  · subst hl
    have hv : (decide ((mO M, idx) ∈ tr_sll) && Nat.ble 8 dm) = true := hv
    obtain ⟨g1, g2⟩ := Bool.and_eq_true_iff.mp hv
    split at hs
    · obtain ⟨q1, q2⟩ := hs
      obtain ⟨q2, q3⟩ := tr_ck_of q2
      exact tr_r_slength ok hlc hlz hd hO (of_decide_eq_true g1) (hRd.le (Nat.le_of_ble_eq_true g2)) (tr_wds4 q2) q1 (hn _ _ _ _ _ q3)
    · exact hs.elim
  · subst hl
    have hv : (decide ((mO M, idx) ∈ tr_scl) && Nat.ble 8 dm) = true := hv
    obtain ⟨g1, g2⟩ := Bool.and_eq_true_iff.mp hv
    split at hs
    · obtain ⟨q1, q0, q2⟩ := hs
      obtain ⟨q2, q3⟩ := tr_ck_of q2
      exact tr_r_scharat ok hlc hlz hd hO (of_decide_eq_true g1) (hRd.le (Nat.le_of_ble_eq_true g2)) (tr_wds4 q2) q1 q0 (hn _ _ _ _ _ q3)
    · exact hs.elim
  · next n1 n2 n3 =>
    have hv : (Nat.blt a 229 && (decide ((mO M, idx, a) ∈ tr_mt) && (Nat.beq (mK (tr_mi a)) 0 && (decide (mH (tr_mi a) = []) && (Nat.beq b (tr_na a + 1) && (Nat.ble 1 d && ((match vwCl[d - 1]? with | some q => decide (q.1 = (mY (tr_mi a)).cls) | none => false) && (Nat.beq e (mC (tr_mi a)) && (Nat.beq f (mS (tr_mi a)) && dk a))))))))) = true := by
      split at hv
      · exact absurd rfl n1
      · exact absurd rfl n2
      · exact absurd rfl n3
      · exact hv
    simp only [Bool.and_eq_true, Nat.blt_eq, Nat.beq_eq, Nat.ble_eq, decide_eq_true_eq] at hv
    obtain ⟨v1, v2, v3, v4, v5, v6, v7, v8, v9, v10⟩ := hv
    obtain ⟨hb, g1, g2, g3, g4, Q', g5, g6, g7⟩ := tr_call_ok hl hn hj hX hH hs
    subst v8; subst v9
    obtain ⟨r, as, hr, hrt⟩ := g4 (by omega)
    have hst : st = (.inr (.inr r) :: as).reverse ++ st.drop b := by rw [← hr, List.reverse_reverse, List.take_append_drop]
    have hlen : as.length = tr_na a := by
      have h1 : ((st.take b).reverse).length = as.length + 1 := by rw [hr]; rfl
      rw [List.length_reverse, List.length_take, Nat.min_eq_left hb] at h1
      omega
    cases hq : vwCl[d - 1]? with
    | none => rw [hq] at v7; cases v7
    | some q =>
      rw [hq] at v7
      have hw := tr_mw_in _ (List.mem_map.mpr ⟨_, v2, rfl⟩)
      have hw : Cond.methodLink (tr_R (mO M)) idx (mY (tr_mi a)) ∈ tr_LW := hw
      rw [hO] at hw
      rw [hr] at g5
      rw [hst]
      exact tr_r_callV ok hlc hlz (hl ▸ hd) (tr_Mok_of v1) v4 v3 (hdk a v10) hw hq (of_decide_eq_true v7) (by rw [hrt]; omega) hlen (tr_wds4 g1) g2 g3 g5 g6 g7

theorem tr_inv_i (ok : tr_ok E) (hlc : lc ≤ R.cells) (hlz : lz ≤ R.slots) (hO : tr_R (mO M) = (mY M).cls) (hRd : tr_Rok R dm) (hdk : ∀ a, dk a = true → tr_Rok R (D a + 1)) (hE : tr_Ends E M R lc lz Z Q) {idx len a b c d e f : Nat}
    (hn : ∀ lv st h rc rs, nxt lv st h rc rs → tr_W E M R lc lz Z (pc + len) lv st h rc rs) (hj : ∀ t lv st h rc rs, jmp t lv st h rc rs → tr_W E M R lc lz Z t lv st h rc rs)
    (hd : decode (mB M) pc = .ok (.invokespecial idx, len)) (hok : tr_eok M dm dk pc (.invokespecial idx) len a b c d e f = true) (hs : tr_step (fun a as h Q => tr_Cd E (D a) (tr_mi a) as h Q) tr_txt (tr_hd (mH M) pc) (tr_X (mH M) Q) jmp nxt Q pc (.invokespecial idx) a b c d e f lv st h rc rs) : tr_W E M R lc lz Z pc lv st h rc rs := by
  obtain ⟨hl, hv⟩ := Bool.and_eq_true_iff.mp hok
  have hl := tr_bq hl
  have hX : ∀ k lv st h rc rs, k < 3 → tr_X (mH M) Q k h → tr_T E M R lc lz Z pc lv st h rc rs k := fun k lv st h rc rs => hE.2.2.2.2.2.1 pc k lv st h rc rs
  have hH : ∀ k hp lv st h rc rs, k < 3 → tr_hd (mH M) pc k = some hp → (∀ r, tr_W E M R lc lz Z hp lv [.inr (.inr r)] h rc rs) → tr_T E M R lc lz Z pc lv st h rc rs k := fun k hp lv st h rc rs => hE.2.2.2.2.2.2 pc k hp lv st h rc rs
  unfold tr_step at hs
  dsimp only at hs
  unfold ts_invokespecial at hs
  try dsimp only at hs
  split at hs
  · exact hs.elim
  · subst hl
    have hv : (decide ((mO M, idx) ∈ tr_ob) && Nat.ble 2 dm) = true := hv
    obtain ⟨g1, g2⟩ := Bool.and_eq_true_iff.mp hv
    have hw := tr_ob_in _ (List.mem_map.mpr ⟨_, of_decide_eq_true g1, rfl⟩)
    have hw : Cond.methodLink (tr_R (mO M)) idx objectInit ∈ tr_LW := hw
    rw [hO] at hw
    split at hs
    · obtain ⟨q1, q2⟩ := hs
      obtain ⟨q2, q3⟩ := tr_ck_of q2
      exact tr_r_obj hd hw tr_lib_in.1 tr_lib_in.2.1 (hRd.le (Nat.le_of_ble_eq_true g2)) (tr_wds4 q2) q1 (hn _ _ _ _ _ q3)
    · exact hs.elim
  · next n1 n2 =>
    have hv : (Nat.blt a 229 && ((decide ((mO M, idx, a) ∈ tr_mt) || (decide ((mO M, idx, a) ∈ tr_nt) && Nat.beq (mO M) 7)) && (Nat.beq (mK (tr_mi a)) 1 && (decide (mH (tr_mi a) = []) && (Nat.beq b (tr_na a + 1) && (Nat.ble 1 d && (decide ((mY (tr_mi a)).name = "<init>") && (decide (mR (tr_mi a) = none) && (Nat.beq e (mC (tr_mi a)) && (Nat.beq f (mS (tr_mi a)) && dk a)))))))))) = true := by
      split at hv
      · exact absurd rfl n1
      · exact absurd rfl n2
      · exact hv
    simp only [Bool.and_eq_true, Bool.or_eq_true, Nat.blt_eq, Nat.beq_eq, Nat.ble_eq, decide_eq_true_eq] at hv
    obtain ⟨v1, v2, v3, v4, v5, v6, v7, v7b, v8, v9, v10⟩ := hv
    obtain ⟨hb, g1, g2, g3, g4, Q', g5, g6, g7⟩ := tr_call_ok hl hn hj hX hH hs
    subst v8; subst v9
    obtain ⟨r, as, hr, hrt⟩ := g4 (by omega)
    have hst : st = (.inr (.inr r) :: as).reverse ++ st.drop b := by rw [← hr, List.reverse_reverse, List.take_append_drop]
    have hlen : as.length = tr_na a := by
      have h1 : ((st.take b).reverse).length = as.length + 1 := by rw [hr]; rfl
      rw [List.length_reverse, List.length_take, Nat.min_eq_left hb] at h1
      omega
    rw [hr] at g5
    rw [hst]
    rcases v2 with v2 | ⟨v2, v2b⟩
    · have hw := tr_mw_in _ (List.mem_map.mpr ⟨_, v2, rfl⟩)
      have hw : Cond.methodLink (tr_R (mO M)) idx (mY (tr_mi a)) ∈ tr_LW := hw
      rw [hO] at hw
      exact tr_r_callI ok hlc hlz (hl ▸ hd) (tr_Mok_of v1) v4 v3 v7 v7b (hdk a v10) hw (by rw [hrt]; omega) hlen (tr_wds4 g1) g2 g3 g5 g6 g7
    · have hw := tr_nt_in _ (List.mem_map.mpr ⟨_, v2, rfl⟩)
      have hw : Cond.methodLinkNest (tr_R (mO M)) idx (mY (tr_mi a)) RX7 ∈ lw_tbl := hw
      rw [hO] at hw
      exact tr_r_callIN ok hlc hlz (hl ▸ hd) (tr_Mok_of v1) v4 v3 v7 v7b (hdk a v10) hw (by rw [hrt]; omega) hlen (tr_wds4 g1) g2 g3 g5 g6 g7

theorem tr_inv_s (ok : tr_ok E) (hlc : lc ≤ R.cells) (hlz : lz ≤ R.slots) (hO : tr_R (mO M) = (mY M).cls) (hRd : tr_Rok R dm) (hdk : ∀ a, dk a = true → tr_Rok R (D a + 1)) (hE : tr_Ends E M R lc lz Z Q) {idx len a b c d e f : Nat}
    (hn : ∀ lv st h rc rs, nxt lv st h rc rs → tr_W E M R lc lz Z (pc + len) lv st h rc rs) (hj : ∀ t lv st h rc rs, jmp t lv st h rc rs → tr_W E M R lc lz Z t lv st h rc rs)
    (hd : decode (mB M) pc = .ok (.invokestatic idx, len)) (hok : tr_eok M dm dk pc (.invokestatic idx) len a b c d e f = true) (hs : tr_step (fun a as h Q => tr_Cd E (D a) (tr_mi a) as h Q) tr_txt (tr_hd (mH M) pc) (tr_X (mH M) Q) jmp nxt Q pc (.invokestatic idx) a b c d e f lv st h rc rs) : tr_W E M R lc lz Z pc lv st h rc rs := by
  obtain ⟨hl, hv⟩ := Bool.and_eq_true_iff.mp hok
  have hl := tr_bq hl
  have hX : ∀ k lv st h rc rs, k < 3 → tr_X (mH M) Q k h → tr_T E M R lc lz Z pc lv st h rc rs k := fun k lv st h rc rs => hE.2.2.2.2.2.1 pc k lv st h rc rs
  have hH : ∀ k hp lv st h rc rs, k < 3 → tr_hd (mH M) pc k = some hp → (∀ r, tr_W E M R lc lz Z hp lv [.inr (.inr r)] h rc rs) → tr_T E M R lc lz Z pc lv st h rc rs k := fun k hp lv st h rc rs => hE.2.2.2.2.2.2 pc k hp lv st h rc rs
  unfold tr_step at hs
  dsimp only at hs
  unfold ts_invokestatic at hs
  try dsimp only at hs
  split at hs
  · subst hl
    have hv : (decide ((mO M, idx) ∈ tr_mnl) && Nat.ble 2 dm) = true := hv
    obtain ⟨g1, g2⟩ := Bool.and_eq_true_iff.mp hv
    have hw := tr_mnl_in _ (List.mem_map.mpr ⟨_, of_decide_eq_true g1, rfl⟩)
    have hw : Cond.methodLink (tr_R (mO M)) idx Lib.Math.min.name ∈ tr_LW := hw
    rw [hO] at hw
    obtain ⟨-, -, w1, w2, w3, -⟩ := tr_lib_in
    split at hs
    · obtain ⟨q2, q3⟩ := tr_ck_of hs
      exact tr_r_min hlc hlz hd hw w1 w2 w3 (hRd.le (Nat.le_of_ble_eq_true g2)) (tr_wds4 q2) (hn _ _ _ _ _ q3)
    · exact hs.elim
  · subst hl
    have hv : (decide ((mO M, idx) ∈ tr_mxl) && Nat.ble 2 dm) = true := hv
    obtain ⟨g1, g2⟩ := Bool.and_eq_true_iff.mp hv
    have hw := tr_mxl_in _ (List.mem_map.mpr ⟨_, of_decide_eq_true g1, rfl⟩)
    have hw : Cond.methodLink (tr_R (mO M)) idx Lib.Math.max.name ∈ tr_LW := hw
    rw [hO] at hw
    obtain ⟨-, -, -, w2, -, w1, w3, -⟩ := tr_lib_in
    split at hs
    · obtain ⟨q2, q3⟩ := tr_ck_of hs
      exact tr_r_max hlc hlz hd hw w1 w2 w3 (hRd.le (Nat.le_of_ble_eq_true g2)) (tr_wds4 q2) (hn _ _ _ _ _ q3)
    · exact hs.elim
  · subst hl
    have hv : (decide ((mO M, idx) ∈ tr_acl) && Nat.ble 2 dm) = true := hv
    obtain ⟨g1, g2⟩ := Bool.and_eq_true_iff.mp hv
    have hw := tr_acl_in _ (List.mem_map.mpr ⟨_, of_decide_eq_true g1, rfl⟩)
    have hw : Cond.methodLink (tr_R (mO M)) idx arraycopyName ∈ tr_LW := hw
    rw [hO] at hw
    obtain ⟨-, -, -, -, -, -, -, w1, w2, w3⟩ := tr_lib_in
    split at hs
    · obtain ⟨q1, q2, q3, q4, q5, q6, q7, q8, q9⟩ := hs
      obtain ⟨q9, q10⟩ := tr_ck_of q9
      exact tr_r_acopy ok hd hw w1 w2 w3 (hRd.le (Nat.le_of_ble_eq_true g2)) (tr_wds4 q9) q1 q2 q3 q4 q5 q6 q7 q8 (hn _ _ _ _ _ (q10 _ rfl))
    · exact hs.elim
  · next n1 n2 n3 =>
    have hv : (Nat.blt a 229 && (decide ((mO M, idx, a) ∈ tr_mt) && (Nat.beq (mK (tr_mi a)) 2 && (Nat.beq b (tr_na a) && (Nat.beq e (mC (tr_mi a)) && (Nat.beq f (mS (tr_mi a)) && dk a)))))) = true := by
      split at hv
      · exact absurd rfl n1
      · exact absurd rfl n2
      · exact absurd rfl n3
      · exact hv
    simp only [Bool.and_eq_true, Nat.blt_eq, Nat.beq_eq, Nat.ble_eq, decide_eq_true_eq] at hv
    obtain ⟨v1, v2, v3, v5, v8, v9, v10⟩ := hv
    obtain ⟨hb, g1, g2, g3, g4, Q', g5, g6, g7⟩ := tr_call_ok hl hn hj hX hH hs
    subst v8; subst v9
    have hst : st = (st.take b).reverse.reverse ++ st.drop b := by rw [List.reverse_reverse, List.take_append_drop]
    have hlen : ((st.take b).reverse).length = tr_na a := by
      rw [List.length_reverse, List.length_take, Nat.min_eq_left hb]
      exact v5
    have hw := tr_mw_in _ (List.mem_map.mpr ⟨_, v2, rfl⟩)
    have hw : Cond.methodLink (tr_R (mO M)) idx (mY (tr_mi a)) ∈ tr_LW := hw
    rw [hO] at hw
    rw [hst]
    exact tr_r_callS ok hlc hlz (hl ▸ hd) (tr_Mok_of v1) v3 (hdk a v10) hw hlen (tr_wds4 g1) g2 g3 g5 g6 g7

theorem tr_step_ok (ok : tr_ok E) (hlc : lc ≤ R.cells) (hlz : lz ≤ R.slots) (hO : tr_R (mO M) = (mY M).cls) (hRd : tr_Rok R dm) (hdk : ∀ a, dk a = true → tr_Rok R (D a + 1)) (hE : tr_Ends E M R lc lz Z Q) {i : Instr} {len a b c d e f : Nat}
    (hn : ∀ lv st h rc rs, nxt lv st h rc rs → tr_W E M R lc lz Z (pc + len) lv st h rc rs) (hj : ∀ t lv st h rc rs, jmp t lv st h rc rs → tr_W E M R lc lz Z t lv st h rc rs)
    (hd : decode (mB M) pc = .ok (i, len)) (hok : tr_eok M dm dk pc i len a b c d e f = true) (hs : tr_step (fun a as h Q => tr_Cd E (D a) (tr_mi a) as h Q) tr_txt (tr_hd (mH M) pc) (tr_X (mH M) Q) jmp nxt Q pc i a b c d e f lv st h rc rs) : tr_W E M R lc lz Z pc lv st h rc rs := by
  cases i with
  | aload k => 
    have hl := tr_bq hok
    subst hl
    unfold tr_step at hs
    dsimp only at hs
    unfold ts_aload at hs
    try dsimp only at hs
    split at hs
    · next r hv => exact tr_r_aload hd hv (hn _ _ _ _ _ hs)
    · exact hs.elim
  | aload_n k => 
    have hl := tr_bq hok
    subst hl
    unfold tr_step at hs
    dsimp only at hs
    unfold ts_aload_n at hs
    try dsimp only at hs
    split at hs
    · next r hv => exact tr_r_aload_n hd hv (hn _ _ _ _ _ hs)
    · exact hs.elim
  | iload k => 
    have hl := tr_bq hok
    subst hl
    unfold tr_step at hs
    dsimp only at hs
    unfold ts_iload at hs
    try dsimp only at hs
    split at hs
    · next r hv => exact tr_r_iload hd hv (hn _ _ _ _ _ hs)
    · exact hs.elim
  | iload_n k => 
    have hl := tr_bq hok
    subst hl
    unfold tr_step at hs
    dsimp only at hs
    unfold ts_iload_n at hs
    try dsimp only at hs
    split at hs
    · next r hv => exact tr_r_iload_n hd hv (hn _ _ _ _ _ hs)
    · exact hs.elim
  | lload k => 
    have hl := tr_bq hok
    subst hl
    unfold tr_step at hs
    dsimp only at hs
    unfold ts_lload at hs
    try dsimp only at hs
    split at hs
    · next r hv => exact tr_r_lload hd hv (hn _ _ _ _ _ hs)
    · exact hs.elim
  | lload_n k => 
    have hl := tr_bq hok
    subst hl
    unfold tr_step at hs
    dsimp only at hs
    unfold ts_lload_n at hs
    try dsimp only at hs
    split at hs
    · next r hv => exact tr_r_lload_n hd hv (hn _ _ _ _ _ hs)
    · exact hs.elim
  | istore k => 
    obtain ⟨hl, hk⟩ := Bool.and_eq_true_iff.mp hok
    have hl := tr_bq hl
    subst hl
    unfold tr_step at hs
    dsimp only at hs
    unfold ts_istore at hs
    try dsimp only at hs
    split at hs
    · rw [lvn_eq] at hs
      exact tr_r_istore hd (Nat.blt_eq.mp hk) (hn _ _ _ _ _ hs)
    · exact hs.elim
  | istore_n k => 
    obtain ⟨hl, hk⟩ := Bool.and_eq_true_iff.mp hok
    have hl := tr_bq hl
    subst hl
    unfold tr_step at hs
    dsimp only at hs
    unfold ts_istore_n at hs
    try dsimp only at hs
    split at hs
    · rw [lvn_eq] at hs
      exact tr_r_istore_n hd (Nat.blt_eq.mp hk) (hn _ _ _ _ _ hs)
    · exact hs.elim
  | astore k => 
    obtain ⟨hl, hk⟩ := Bool.and_eq_true_iff.mp hok
    have hl := tr_bq hl
    subst hl
    unfold tr_step at hs
    dsimp only at hs
    unfold ts_astore at hs
    try dsimp only at hs
    split at hs
    · rw [lvn_eq] at hs
      exact tr_r_astore hd (Nat.blt_eq.mp hk) (hn _ _ _ _ _ hs)
    · exact hs.elim
  | astore_n k => 
    obtain ⟨hl, hk⟩ := Bool.and_eq_true_iff.mp hok
    have hl := tr_bq hl
    subst hl
    unfold tr_step at hs
    dsimp only at hs
    unfold ts_astore_n at hs
    try dsimp only at hs
    split at hs
    · rw [lvn_eq] at hs
      exact tr_r_astore_n hd (Nat.blt_eq.mp hk) (hn _ _ _ _ _ hs)
    · exact hs.elim
  | lstore k => 
    obtain ⟨hl, hk⟩ := Bool.and_eq_true_iff.mp hok
    have hl := tr_bq hl
    subst hl
    unfold tr_step at hs
    dsimp only at hs
    unfold ts_lstore at hs
    try dsimp only at hs
    split at hs
    · rw [lvn_eq] at hs
      exact tr_r_lstore hd (Nat.blt_eq.mp hk) (hn _ _ _ _ _ hs)
    · exact hs.elim
  | lstore_n k => 
    obtain ⟨hl, hk⟩ := Bool.and_eq_true_iff.mp hok
    have hl := tr_bq hl
    subst hl
    unfold tr_step at hs
    dsimp only at hs
    unfold ts_lstore_n at hs
    try dsimp only at hs
    split at hs
    · rw [lvn_eq] at hs
      exact tr_r_lstore_n hd (Nat.blt_eq.mp hk) (hn _ _ _ _ _ hs)
    · exact hs.elim
  | iinc k n => 
    obtain ⟨hl, hk⟩ := Bool.and_eq_true_iff.mp hok
    have hl := tr_bq hl
    subst hl
    unfold tr_step at hs
    dsimp only at hs
    unfold ts_iinc at hs
    try dsimp only at hs
    split at hs
    · next x hv =>
      rw [lvn_eq] at hs
      exact tr_r_iinc hd (Nat.blt_eq.mp hk) hv (hn _ _ _ _ _ hs)
    · exact hs.elim
  | iconst n => 
    have hl := tr_bq hok
    subst hl
    exact tr_r_iconst hd (hn _ _ _ _ _ hs)
  | bipush n => 
    obtain ⟨hl, hv⟩ := Bool.and_eq_true_iff.mp hok
    have hl := tr_bq hl
    subst hl
    exact tr_r_bipush hd (of_decide_eq_true hv) (hn _ _ _ _ _ hs)
  | sipush n => 
    obtain ⟨hl, hv⟩ := Bool.and_eq_true_iff.mp hok
    have hl := tr_bq hl
    subst hl
    exact tr_r_sipush hd (of_decide_eq_true hv) (hn _ _ _ _ _ hs)
  | lconst n => 
    have hl := tr_bq hok
    subst hl
    exact tr_r_lconst hd (hn _ _ _ _ _ hs)
  | ldc idx => 
    obtain ⟨hl, hv⟩ := Bool.and_eq_true_iff.mp hok
    have hl := tr_bq hl
    subst hl
    cases c with
    | zero =>
      have hv : decide ((mO M, idx, b) ∈ tr_l1) = true := hv
      have hw := tr_l1_in _ (List.mem_map.mpr ⟨_, of_decide_eq_true hv, rfl⟩)
      have hw : Cond.constant (tr_R (mO M)) idx (ii (b : Nat)) ∈ tr_LW := hw
      rw [hO] at hw
      exact tr_r_ldc hd hw (hn _ _ _ _ _ hs)
    | succ c =>
      have hv : (Nat.blt b 8 && decide ((mO M, idx, b) ∈ tr_sidx)) = true := hv
      obtain ⟨h1, h2⟩ := Bool.and_eq_true_iff.mp hv
      have hs : ∀ r, tr_tx h r (tr_txt b) → nxt lv (.inr (.inr r) :: st) h rc rs := hs
      exact tr_r_ldcs ok hd hO (Nat.blt_eq.mp h1) (of_decide_eq_true h2) (fun r hr => hn _ _ _ _ _ (hs r hr))
  | ldc2_w idx => 
    obtain ⟨hl, hv⟩ := Bool.and_eq_true_iff.mp hok
    have hl := tr_bq hl
    subst hl
    have hw := tr_l2_in _ (List.mem_map.mpr ⟨_, of_decide_eq_true hv, rfl⟩)
    have hw : Cond.constantLong (tr_R (mO M)) idx (jj (b : Nat)) ∈ tr_LW := hw
    rw [hO] at hw
    exact tr_r_ldc2 hd hw (hn _ _ _ _ _ hs)
  | getfield idx => 
    obtain ⟨hl, hv⟩ := Bool.and_eq_true_iff.mp hok
    have hl := tr_bq hl
    subst hl
    unfold tr_step at hs
    dsimp only at hs
    unfold ts_getfield at hs
    try dsimp only at hs
    split at hs
    · next r st' =>
      refine tr_r_getf ok hd (of_decide_eq_true hv) hO hs.1 (hn _ _ _ _ _ ?_)
      have hs2 := hs.2
      unfold tr_fval
      match c, hs2 with
      | 0, hs2 => exact hs2
      | 1, hs2 => exact hs2
      | c + 2, hs2 => exact hs2
    · exact hs.elim
  | putfield idx => 
    obtain ⟨hl, hv⟩ := Bool.and_eq_true_iff.mp hok
    obtain ⟨hv, hp⟩ := Bool.and_eq_true_iff.mp hv
    have hl := tr_bq hl
    subst hl
    have hf := of_decide_eq_true hv
    have hfin : ∀ q : vw_C, vwCl[a - 1]? = some q → (q.2.1 b).2.2.2 = true → (mY M).name = "<init>" ∧ q.1 = (mY M).cls := by
      intro q hq hfn
      unfold tr_pok at hp
      rw [hq] at hp
      simpa [hfn] using hp
    unfold tr_step at hs
    dsimp only at hs
    unfold ts_putfield at hs
    try dsimp only at hs
    split at hs
    · exact tr_r_putI ok hd hf hO hfin hs.1 (hn _ _ _ _ _ (hs.2 _ rfl))
    · exact tr_r_putJ ok hd hf hO hfin hs.1 (hn _ _ _ _ _ (hs.2 _ rfl))
    · exact tr_r_putR ok hd hf hO hfin hs.1 (hn _ _ _ _ _ (hs.2 _ rfl))
    · exact hs.elim
  | iaload => 
    obtain ⟨hl, hv⟩ := Bool.and_eq_true_iff.mp hok
    have hl := tr_bq hl
    subst hl
    unfold tr_step at hs
    dsimp only at hs
    unfold ts_iaload at hs
    try dsimp only at hs
    split at hs
    · have hv := Bool.or_eq_true_iff.mp hv
      rcases hv with g | g <;> have g := tr_bq g
      · exact tr_r_iald ok hd (hs.1.trans g) hs.2.1 (hn _ _ _ _ _ hs.2.2)
      · exact tr_r_sald ok hd (hs.1.trans g) hs.2.1 (hn _ _ _ _ _ hs.2.2)
    · exact hs.elim
  | baload => 
    obtain ⟨hl, hv⟩ := Bool.and_eq_true_iff.mp hok
    have hl := tr_bq hl
    subst hl
    unfold tr_step at hs
    dsimp only at hs
    unfold ts_baload at hs
    try dsimp only at hs
    split at hs
    · have hv := Bool.or_eq_true_iff.mp hv
      rcases hv with g | g <;> have g := tr_bq g
      · exact tr_r_bald ok hd (hs.1.trans g) hs.2.1 (hn _ _ _ _ _ hs.2.2)
      · exact tr_r_zald ok hd (hs.1.trans g) hs.2.1 (hn _ _ _ _ _ hs.2.2)
    · exact hs.elim
  | laload => 
    obtain ⟨hl, hv⟩ := Bool.and_eq_true_iff.mp hok
    have hl := tr_bq hl
    subst hl
    unfold tr_step at hs
    dsimp only at hs
    unfold ts_laload at hs
    try dsimp only at hs
    split at hs
    · have g := tr_bq hv
      · exact tr_r_lald ok hd (hs.1.trans g) hs.2.1 (hn _ _ _ _ _ hs.2.2)
    · exact hs.elim
  | aaload => 
    obtain ⟨hl, hv⟩ := Bool.and_eq_true_iff.mp hok
    have hl := tr_bq hl
    subst hl
    unfold tr_step at hs
    dsimp only at hs
    unfold ts_aaload at hs
    try dsimp only at hs
    split at hs
    · have hv := Bool.or_eq_true_iff.mp hv
      rcases hv with g | g <;> have g := tr_bq g
      · exact tr_r_aald4 ok hd (hs.1.trans g) hs.2.1 (hn _ _ _ _ _ hs.2.2)
      · exact tr_r_aald5 ok hd (hs.1.trans g) hs.2.1 (hn _ _ _ _ _ hs.2.2)
    · exact hs.elim
  | iastore => 
    obtain ⟨hl, hv⟩ := Bool.and_eq_true_iff.mp hok
    have hl := tr_bq hl
    subst hl
    have g := tr_bq hv
    unfold tr_step at hs
    dsimp only at hs
    unfold ts_iastore at hs
    try dsimp only at hs
    split at hs
    · exact tr_r_iast ok hd (hs.1.trans g) hs.2.1 (hn _ _ _ _ _ (hs.2.2 _ rfl))
    · exact hs.elim
  | lastore => 
    obtain ⟨hl, hv⟩ := Bool.and_eq_true_iff.mp hok
    have hl := tr_bq hl
    subst hl
    have g := tr_bq hv
    unfold tr_step at hs
    dsimp only at hs
    unfold ts_lastore at hs
    try dsimp only at hs
    split at hs
    · exact tr_r_last ok hd (hs.1.trans g) hs.2.1 (hn _ _ _ _ _ (hs.2.2 _ rfl))
    · exact hs.elim
  | bastore => 
    obtain ⟨hl, hv⟩ := Bool.and_eq_true_iff.mp hok
    have hl := tr_bq hl
    subst hl
    unfold tr_step at hs
    dsimp only at hs
    unfold ts_bastore at hs
    try dsimp only at hs
    split at hs
    · rcases Bool.or_eq_true_iff.mp hv with g | g <;> obtain ⟨g1, g2⟩ := Bool.and_eq_true_iff.mp g <;> have g1 := tr_bq g1 <;> have g2 := tr_bq g2 <;> subst g2
      · exact tr_r_bast ok hd (hs.1.trans g1) hs.2.1 (hn _ _ _ _ _ (hs.2.2 _ rfl))
      · exact tr_r_zast ok hd (hs.1.trans g1) hs.2.1 (hn _ _ _ _ _ (hs.2.2 _ rfl))
    · exact hs.elim
  | aastore => 
    obtain ⟨hl, hv⟩ := Bool.and_eq_true_iff.mp hok
    have hl := tr_bq hl
    subst hl
    unfold tr_step at hs
    dsimp only at hs
    unfold ts_aastore at hs
    try dsimp only at hs
    split at hs
    · rcases Bool.or_eq_true_iff.mp hv with g | g <;> obtain ⟨g1, g2⟩ := Bool.and_eq_true_iff.mp g <;> have g1 := tr_bq g1 <;> have g2 := tr_bq g2
      · exact tr_r_aast4 ok hd (hs.1.trans g1) hs.2.1 (hs.2.2.1.trans g2) (hn _ _ _ _ _ (hs.2.2.2 _ rfl))
      · exact tr_r_aast5 ok hd (hs.1.trans g1) hs.2.1 (hs.2.2.1.trans g2) (hn _ _ _ _ _ (hs.2.2.2 _ rfl))
    · exact hs.elim
  | arraylength => 
    obtain ⟨hl, hv⟩ := Bool.and_eq_true_iff.mp hok
    have hl := tr_bq hl
    subst hl
    unfold tr_step at hs
    dsimp only at hs
    unfold ts_arraylength at hs
    try dsimp only at hs
    split at hs
    · rcases Bool.or_eq_true_iff.mp hv with g | hv
      · exact tr_r_alen0 ok hd (hs.1.trans (tr_bq g)) (hn _ _ _ _ _ hs.2)
      rcases Bool.or_eq_true_iff.mp hv with g | hv
      · exact tr_r_alen1 ok hd (hs.1.trans (tr_bq g)) (hn _ _ _ _ _ hs.2)
      rcases Bool.or_eq_true_iff.mp hv with g | hv
      · exact tr_r_alen2 ok hd (hs.1.trans (tr_bq g)) (hn _ _ _ _ _ hs.2)
      rcases Bool.or_eq_true_iff.mp hv with g | hv
      · exact tr_r_alen3 ok hd (hs.1.trans (tr_bq g)) (hn _ _ _ _ _ hs.2)
      · exact tr_r_slen ok hd (hs.1.trans (tr_bq hv)) (hn _ _ _ _ _ hs.2)
    · exact hs.elim
  | new idx => 
    obtain ⟨hl, hv⟩ := Bool.and_eq_true_iff.mp hok
    have hl := tr_bq hl
    subst hl
    cases c with
    | zero =>
      have hv : (Nat.ble 1 a && (decide ((mO M, idx, a) ∈ tr_nl) && (match vwCl[a - 1]? with | some q => Nat.beq q.2.2 b | none => false))) = true := hv
      obtain ⟨g1, hv⟩ := Bool.and_eq_true_iff.mp hv
      obtain ⟨g2, g3⟩ := Bool.and_eq_true_iff.mp hv
      have hs : tr_ck 1 rc (tr_ck b rs (∀ r, r ≠ 0 → ht h r = 0 → ∀ h', h' = hnw h r a 0 → nxt lv (.inr (.inr r) :: st) h' (rc - 1) (rs - b))) := hs
      obtain ⟨k1, hs⟩ := tr_ck_of hs
      obtain ⟨k2, hs⟩ := tr_ck_of hs
      have hw := tr_nl_in _ (List.mem_map.mpr ⟨_, of_decide_eq_true g2, rfl⟩)
      cases hq : vwCl[a - 1]? with
      | none => rw [hq] at g3; cases g3
      | some q =>
        rw [hq] at g3
        have hw2 : Cond.classLink (tr_R (mO M)) idx ((vwCl.getD (a - 1) (RX0, TX0, 0)).1) ∈ tr_LW := hw
        rw [List.getD_eq_getElem?_getD, hq, hO] at hw2
        have ha : a - 1 + 1 = a := by have := Nat.le_of_ble_eq_true g1; omega
        refine tr_r_new ok hlc hlz hd hq (tr_bq g3) hw2 k1 k2 (fun r h1 h2 => ?_)
        rw [ha]
        exact hn _ _ _ _ _ (hs r h1 h2 _ rfl)
    | succ c =>
      have hv : (Nat.blt a 3 && (Nat.beq idx (tr_exi a).1 && (decide ((mY M).cls = RX7) && (decide (mH M = []) && (Nat.ble 8 dm && tr_thr (mB M) pc a))))) = true := hv
      obtain ⟨g1, hv⟩ := Bool.and_eq_true_iff.mp hv
      obtain ⟨g2, hv⟩ := Bool.and_eq_true_iff.mp hv
      obtain ⟨g3, hv⟩ := Bool.and_eq_true_iff.mp hv
      obtain ⟨g4, hv⟩ := Bool.and_eq_true_iff.mp hv
      obtain ⟨g5, g6⟩ := Bool.and_eq_true_iff.mp hv
      have hs : tr_ck st.length 4 (tr_ck 1 rc (tr_ck 6 rs (Q (.inr a) h))) := hs
      obtain ⟨k0, hs1⟩ := tr_ck_of hs
      obtain ⟨k1, hs2⟩ := tr_ck_of hs1
      obtain ⟨k2, hs3⟩ := tr_ck_of hs2
      have g2 := tr_bq g2
      rw [g2] at hd
      exact hE.2.2.2.2.1 pc a lv st h rc rs (Nat.blt_eq.mp g1) (of_decide_eq_true g3) (of_decide_eq_true g4) hd g6 (hRd.le (Nat.le_of_ble_eq_true g5)) (tr_wds4 k0) k1 k2 hs3
  | newarray t => 
    obtain ⟨hl, hv⟩ := Bool.and_eq_true_iff.mp hok
    obtain ⟨hb, hv⟩ := Bool.and_eq_true_iff.mp hv
    have hl := tr_bq hl
    subst hl
    have hb := Nat.le_of_ble_eq_true hb
    unfold tr_step at hs
    dsimp only at hs
    unfold ts_newarray at hs
    try dsimp only at hs
    split at hs
    · next n st' =>
      have key : 0 ≤ n.toInt ∧ n.toInt ≤ 20000 ∧ 1 ≤ rc ∧ ixn n ≤ rs ∧ ∀ r, r ≠ 0 → ht h r = 0 → ∀ h', h' = hnw h r a (ixn n) → nxt lv (.inr (.inr r) :: st') h' (rc - 1) (rs - ixn n) := by
        split at hs
        · obtain ⟨q1, q2, q3⟩ := hs
          obtain ⟨q3, q4, q5⟩ := tr_ck_of q3
          exact ⟨q1, q2, q3, q4, q5⟩
        · obtain ⟨rfl, q3⟩ := hs
          obtain ⟨q3, q4⟩ := tr_ck_of q3
          obtain ⟨q4, q5⟩ := tr_ck_of q4
          have hbb : (ii (b : Nat)).toInt = (b : Int) := by rw [tr_iiN]; exact nI_toInt (by omega)
          have hbx : ixn (ii (b : Nat)) = b := by unfold ixn; rw [tr_iiN]; exact nI_clamp (by omega)
          rw [hbx, hbb]
          exact ⟨by omega, by omega, q3, q4, q5⟩
      obtain ⟨q1, q2, q3, q4, q5⟩ := key
      rcases Bool.or_eq_true_iff.mp hv with g | hv
      · obtain ⟨g1, g2⟩ := Bool.and_eq_true_iff.mp g
        have g1 := of_decide_eq_true g1; subst g1; have g2 := tr_bq g2; subst g2
        exact tr_r_newa0 ok hlc hlz hd (tr_arrc_in _ (Or.inl rfl)) q1 q2 q3 q4 (fun r h1 h2 => hn _ _ _ _ _ (q5 r h1 h2 _ rfl))
      rcases Bool.or_eq_true_iff.mp hv with g | hv
      · obtain ⟨g1, g2⟩ := Bool.and_eq_true_iff.mp g
        have g1 := of_decide_eq_true g1; subst g1; have g2 := tr_bq g2; subst g2
        exact tr_r_newa1 ok hlc hlz hd (tr_arrc_in _ (Or.inr (Or.inl rfl))) q1 q2 q3 q4 (fun r h1 h2 => hn _ _ _ _ _ (q5 r h1 h2 _ rfl))
      rcases Bool.or_eq_true_iff.mp hv with g | g
      · obtain ⟨g1, g2⟩ := Bool.and_eq_true_iff.mp g
        have g1 := of_decide_eq_true g1; subst g1; have g2 := tr_bq g2; subst g2
        exact tr_r_newa2 ok hlc hlz hd (tr_arrc_in _ (Or.inr (Or.inr (Or.inl rfl)))) q1 q2 q3 q4 (fun r h1 h2 => hn _ _ _ _ _ (q5 r h1 h2 _ rfl))
      · obtain ⟨g1, g2⟩ := Bool.and_eq_true_iff.mp g
        have g1 := of_decide_eq_true g1; subst g1; have g2 := tr_bq g2; subst g2
        exact tr_r_newa3 ok hlc hlz hd (tr_arrc_in _ (Or.inr (Or.inr (Or.inr rfl)))) q1 q2 q3 q4 (fun r h1 h2 => hn _ _ _ _ _ (q5 r h1 h2 _ rfl))
    · exact hs.elim
  | anewarray idx => 
    obtain ⟨hl, hv⟩ := Bool.and_eq_true_iff.mp hok
    obtain ⟨hb, hv⟩ := Bool.and_eq_true_iff.mp hv
    obtain ⟨hi, hv⟩ := Bool.and_eq_true_iff.mp hv
    have hl := tr_bq hl
    subst hl
    have hb := Nat.le_of_ble_eq_true hb
    unfold tr_step at hs
    dsimp only at hs
    unfold ts_anewarray at hs
    try dsimp only at hs
    have hw := tr_an_in _ (List.mem_map.mpr ⟨_, of_decide_eq_true hi, rfl⟩)
    have hw : Cond.classLink (tr_R (mO M)) idx (if Nat.beq a 15 then RX6 else RX3) ∈ tr_LW := hw
    rw [hO] at hw
    split at hs
    · obtain ⟨rfl, p3⟩ := hs
      obtain ⟨q3, p4⟩ := tr_ck_of p3
      obtain ⟨q4, q5⟩ := tr_ck_of p4
      have hbb : (ii (b : Nat)).toInt = (b : Int) := by rw [tr_iiN]; exact nI_toInt (by omega)
      have hbx : ixn (ii (b : Nat)) = b := by unfold ixn; rw [tr_iiN]; exact nI_clamp (by omega)
      rcases Bool.or_eq_true_iff.mp hv with g | g <;> have g := tr_bq g <;> subst g
      · exact tr_r_newq4 ok hlc hlz hd hw (fun A U hW => word_over hW (ok.2.2.2.2.2.2.2.1 _ tr_over_in.1)) (by omega) (by omega) q3 (by rw [hbx]; exact q4) (fun r h1 h2 => by rw [hbx]; exact hn _ _ _ _ _ (q5 r h1 h2 _ rfl))
      · exact tr_r_newq5 ok hlc hlz hd hw (fun A U hW => word_over hW (ok.2.2.2.2.2.2.2.1 _ tr_over_in.2)) (by omega) (by omega) q3 (by rw [hbx]; exact q4) (fun r h1 h2 => by rw [hbx]; exact hn _ _ _ _ _ (q5 r h1 h2 _ rfl))
    · exact hs.elim
  | checkcast idx => 
    obtain ⟨hl, hv⟩ := Bool.and_eq_true_iff.mp hok
    obtain ⟨hi, hv⟩ := Bool.and_eq_true_iff.mp hv
    obtain ⟨g1, g2⟩ := Bool.and_eq_true_iff.mp hv
    have hl := tr_bq hl
    subst hl
    have g1 := Nat.le_of_ble_eq_true g1
    have g2 := Nat.blt_eq.mp g2
    have hw := tr_kc_in _ (List.mem_map.mpr ⟨_, of_decide_eq_true hi, rfl⟩)
    have hw : Cond.classLink (tr_R (mO M)) idx ("[" ++ (tr_aty (a - 11)).toString) ∈ tr_LW := hw
    rw [hO] at hw
    unfold tr_step at hs
    dsimp only at hs
    unfold ts_checkcast at hs
    try dsimp only at hs
    split at hs
    · exact tr_r_cast ok (k := a - 11) (by omega) hd hw rfl (by rw [hs.1]; omega) (hn _ _ _ _ _ hs.2)
    · exact hs.elim
  | iadd => 
    have hl := tr_bq hok
    subst hl
    unfold tr_step at hs
    dsimp only at hs
    unfold ts_iadd at hs
    try dsimp only at hs
    split at hs
    · exact tr_r_iadd hd (hn _ _ _ _ _ hs)
    · exact hs.elim
  | isub => 
    have hl := tr_bq hok
    subst hl
    unfold tr_step at hs
    dsimp only at hs
    unfold ts_isub at hs
    try dsimp only at hs
    split at hs
    · exact tr_r_isub hd (hn _ _ _ _ _ hs)
    · exact hs.elim
  | imul => 
    have hl := tr_bq hok
    subst hl
    unfold tr_step at hs
    dsimp only at hs
    unfold ts_imul at hs
    try dsimp only at hs
    split at hs
    · exact tr_r_imul hd (hn _ _ _ _ _ hs)
    · exact hs.elim
  | iand => 
    have hl := tr_bq hok
    subst hl
    unfold tr_step at hs
    dsimp only at hs
    unfold ts_iand at hs
    try dsimp only at hs
    split at hs
    · exact tr_r_iand hd (hn _ _ _ _ _ hs)
    · exact hs.elim
  | ior => 
    have hl := tr_bq hok
    subst hl
    unfold tr_step at hs
    dsimp only at hs
    unfold ts_ior at hs
    try dsimp only at hs
    split at hs
    · exact tr_r_ior hd (hn _ _ _ _ _ hs)
    · exact hs.elim
  | ixor => 
    have hl := tr_bq hok
    subst hl
    unfold tr_step at hs
    dsimp only at hs
    unfold ts_ixor at hs
    try dsimp only at hs
    split at hs
    · exact tr_r_ixor hd (hn _ _ _ _ _ hs)
    · exact hs.elim
  | ishl => 
    have hl := tr_bq hok
    subst hl
    unfold tr_step at hs
    dsimp only at hs
    unfold ts_ishl at hs
    try dsimp only at hs
    split at hs
    · exact tr_r_ishl hd (hn _ _ _ _ _ hs)
    · exact hs.elim
  | ishr => 
    have hl := tr_bq hok
    subst hl
    unfold tr_step at hs
    dsimp only at hs
    unfold ts_ishr at hs
    try dsimp only at hs
    split at hs
    · exact tr_r_ishr hd (hn _ _ _ _ _ hs)
    · exact hs.elim
  | ladd => 
    have hl := tr_bq hok
    subst hl
    unfold tr_step at hs
    dsimp only at hs
    unfold ts_ladd at hs
    try dsimp only at hs
    split at hs
    · exact tr_r_ladd hd (hn _ _ _ _ _ hs)
    · exact hs.elim
  | lsub => 
    have hl := tr_bq hok
    subst hl
    unfold tr_step at hs
    dsimp only at hs
    unfold ts_lsub at hs
    try dsimp only at hs
    split at hs
    · exact tr_r_lsub hd (hn _ _ _ _ _ hs)
    · exact hs.elim
  | lmul => 
    have hl := tr_bq hok
    subst hl
    unfold tr_step at hs
    dsimp only at hs
    unfold ts_lmul at hs
    try dsimp only at hs
    split at hs
    · exact tr_r_lmul hd (hn _ _ _ _ _ hs)
    · exact hs.elim
  | irem => 
    have hl := tr_bq hok
    subst hl
    unfold tr_step at hs
    dsimp only at hs
    unfold ts_irem at hs
    try dsimp only at hs
    split at hs
    · exact tr_r_irem hd hs.1 (hn _ _ _ _ _ hs.2)
    · exact hs.elim
  | ldiv => 
    have hl := tr_bq hok
    subst hl
    unfold tr_step at hs
    dsimp only at hs
    unfold ts_ldiv at hs
    try dsimp only at hs
    split at hs
    · exact tr_r_ldiv hd hs.1 (hn _ _ _ _ _ hs.2)
    · exact hs.elim
  | lrem => 
    have hl := tr_bq hok
    subst hl
    unfold tr_step at hs
    dsimp only at hs
    unfold ts_lrem at hs
    try dsimp only at hs
    split at hs
    · exact tr_r_lrem hd hs.1 (hn _ _ _ _ _ hs.2)
    · exact hs.elim
  | lcmp => 
    have hl := tr_bq hok
    subst hl
    unfold tr_step at hs
    dsimp only at hs
    unfold ts_lcmp at hs
    try dsimp only at hs
    split at hs
    · exact tr_r_lcmp hd (hn _ _ _ _ _ hs)
    · exact hs.elim
  | i2l => 
    have hl := tr_bq hok
    subst hl
    unfold tr_step at hs
    dsimp only at hs
    unfold ts_i2l at hs
    try dsimp only at hs
    split at hs
    · exact tr_r_i2l hd (hn _ _ _ _ _ hs)
    · exact hs.elim
  | i2b => 
    have hl := tr_bq hok
    subst hl
    unfold tr_step at hs
    dsimp only at hs
    unfold ts_i2b at hs
    try dsimp only at hs
    split at hs
    · exact tr_r_i2b hd (hn _ _ _ _ _ hs)
    · exact hs.elim
  | dup2 => 
    have hl := tr_bq hok
    subst hl
    unfold tr_step at hs
    dsimp only at hs
    unfold ts_dup2 at hs
    try dsimp only at hs
    split at hs
    · exact tr_r_dup2 hd (hn _ _ _ _ _ hs)
    · exact hs.elim
  | dup => 
    have hl := tr_bq hok
    subst hl
    unfold tr_step at hs
    dsimp only at hs
    unfold ts_dup at hs
    try dsimp only at hs
    split at hs
    · exact tr_r_dupI hd (hn _ _ _ _ _ hs)
    · exact tr_r_dupR hd (hn _ _ _ _ _ hs)
    · exact hs.elim
  | pop => 
    have hl := tr_bq hok
    subst hl
    unfold tr_step at hs
    dsimp only at hs
    unfold ts_pop at hs
    try dsimp only at hs
    split at hs
    · exact tr_r_popI hd (hn _ _ _ _ _ hs)
    · exact tr_r_popR hd (hn _ _ _ _ _ hs)
    · exact hs.elim
  | ifCond cd off => 
    obtain ⟨hl, ht⟩ := Bool.and_eq_true_iff.mp hok
    have hl := tr_bq hl
    subst hl
    have ht := of_decide_eq_true ht
    unfold tr_step at hs
    dsimp only at hs
    unfold ts_ifCond at hs
    try dsimp only at hs
    split at hs
    · cases cd with
      | eq => exact tr_r_if_eq hd ht (fun q => hj _ _ _ _ _ _ (hs.1 q)) (fun q => hn _ _ _ _ _ (hs.2 q))
      | ne => exact tr_r_if_ne hd ht (fun q => hn _ _ _ _ _ (hs.1 q)) (fun q => hj _ _ _ _ _ _ (hs.2 q))
      | lt => exact tr_r_if_lt hd ht (fun q => hj _ _ _ _ _ _ (hs.1 q)) (fun q => hn _ _ _ _ _ (hs.2 q))
      | ge => exact tr_r_if_ge hd ht (fun q => hn _ _ _ _ _ (hs.1 q)) (fun q => hj _ _ _ _ _ _ (hs.2 q))
      | gt => exact tr_r_if_gt hd ht (fun q => hn _ _ _ _ _ (hs.1 q)) (fun q => hj _ _ _ _ _ _ (hs.2 q))
      | le => exact tr_r_if_le hd ht (fun q => hj _ _ _ _ _ _ (hs.1 q)) (fun q => hn _ _ _ _ _ (hs.2 q))
    · exact hs.elim
  | if_icmp cd off => 
    obtain ⟨hl, ht⟩ := Bool.and_eq_true_iff.mp hok
    have hl := tr_bq hl
    subst hl
    have ht := of_decide_eq_true ht
    unfold tr_step at hs
    dsimp only at hs
    unfold ts_if_icmp at hs
    try dsimp only at hs
    split at hs
    · cases cd with
      | eq => exact tr_r_icmp_eq hd ht (fun q => hj _ _ _ _ _ _ (hs.1 q)) (fun q => hn _ _ _ _ _ (hs.2 q))
      | ne => exact tr_r_icmp_ne hd ht (fun q => hn _ _ _ _ _ (hs.1 q)) (fun q => hj _ _ _ _ _ _ (hs.2 q))
      | lt => exact tr_r_icmp_lt hd ht (fun q => hj _ _ _ _ _ _ (hs.1 q)) (fun q => hn _ _ _ _ _ (hs.2 q))
      | ge => exact tr_r_icmp_ge hd ht (fun q => hn _ _ _ _ _ (hs.1 q)) (fun q => hj _ _ _ _ _ _ (hs.2 q))
      | gt => exact tr_r_icmp_gt hd ht (fun q => hn _ _ _ _ _ (hs.1 q)) (fun q => hj _ _ _ _ _ _ (hs.2 q))
      | le => exact tr_r_icmp_le hd ht (fun q => hj _ _ _ _ _ _ (hs.1 q)) (fun q => hn _ _ _ _ _ (hs.2 q))
    · exact hs.elim
  | goto off => 
    obtain ⟨hl, ht⟩ := Bool.and_eq_true_iff.mp hok
    have hl := tr_bq hl
    subst hl
    exact tr_r_goto hd (of_decide_eq_true ht) (hj _ _ _ _ _ _ hs)
  | tableswitch dflt lo hi offs => 
    obtain ⟨g1, hok⟩ := Bool.and_eq_true_iff.mp hok
    obtain ⟨g2, hok⟩ := Bool.and_eq_true_iff.mp hok
    obtain ⟨g3, hok⟩ := Bool.and_eq_true_iff.mp hok
    obtain ⟨g4, g5⟩ := Bool.and_eq_true_iff.mp hok
    unfold tr_step at hs
    dsimp only at hs
    unfold ts_tableswitch at hs
    try dsimp only at hs
    split at hs
    · exact tr_r_tsw hd (of_decide_eq_true g1) (of_decide_eq_true g2) (of_decide_eq_true g3) (of_decide_eq_true g4) (of_decide_eq_true g5) (tr_tsw_mono (fun t g => hj _ _ _ _ _ _ g) _ _ hs)
    · exact hs.elim
  | lookupswitch dflt ps => 
    obtain ⟨g1, hok⟩ := Bool.and_eq_true_iff.mp hok
    obtain ⟨g2, g3⟩ := Bool.and_eq_true_iff.mp hok
    unfold tr_step at hs
    dsimp only at hs
    unfold ts_lookupswitch at hs
    try dsimp only at hs
    split at hs
    · exact tr_r_lsw hd g2 (of_decide_eq_true g1) (of_decide_eq_true g3) (tr_lsw_mono (fun t g => hj _ _ _ _ _ _ g) _ hs)
    · exact hs.elim
  | ireturn => 
    obtain ⟨hl, hv⟩ := Bool.and_eq_true_iff.mp hok
    have hl := tr_bq hl
    subst hl
    unfold tr_step at hs
    dsimp only at hs
    unfold ts_ireturn at hs
    try dsimp only at hs
    split at hs
    · cases c with
      | zero => exact hE.1 _ _ _ _ _ _ hd (of_decide_eq_true hv) hs
      | succ c => exact hE.2.1 _ _ _ _ _ _ hd (of_decide_eq_true hv) hs
    · exact hs.elim
  | lreturn => 
    obtain ⟨hl, hv⟩ := Bool.and_eq_true_iff.mp hok
    have hl := tr_bq hl
    subst hl
    unfold tr_step at hs
    dsimp only at hs
    unfold ts_lreturn at hs
    try dsimp only at hs
    split at hs
    · exact hE.2.2.1 _ _ _ _ _ _ hd (of_decide_eq_true hv) hs
    · exact hs.elim
  | return_ => 
    obtain ⟨hl, hv⟩ := Bool.and_eq_true_iff.mp hok
    have hl := tr_bq hl
    subst hl
    unfold tr_step at hs
    dsimp only at hs
    unfold ts_return_ at hs
    try dsimp only at hs
    split at hs
    · exact hE.2.2.2.1 _ _ _ _ _ hd (of_decide_eq_true hv) hs
    · exact hs.elim
  | invokevirtual idx => 
    exact tr_inv_v ok hlc hlz hO hRd hdk hE hn hj hd hok hs
  | invokespecial idx => 
    exact tr_inv_i ok hlc hlz hO hRd hdk hE hn hj hd hok hs
  | invokestatic idx => 
    exact tr_inv_s ok hlc hlz hO hRd hdk hE hn hj hd hok hs
  | _ => exact False.elim hs
end TRM
