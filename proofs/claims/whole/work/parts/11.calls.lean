/-! CALLS, ENDS, EXCEPTIONS -/
def tr_room (d mc ms : Nat) : Room := { frames := d, cells := mc, slots := ms, locals := 64 * d }
def tr_Pc (E : tr_Env) (as : List tr_V) (h : tr_H) : Array Value → State → Prop := fun v U => v = (as.map tr_cv).toArray ∧ tr_Rep E h U.heap ∧ (eS E).WarmedH U.vm
def tr_Qc (E : tr_Env) (Q : tr_Q) : Array Value → State → Outcome → State → Prop := fun _ _ o t => ∃ (v : Option tr_V) (h' : tr_H), o = .returned (v.map tr_cv) ∧ tr_Rep E h' t.heap ∧ Q (.inl v) h'
def tr_Xc (E : tr_Env) (Q : tr_Q) : String → State → State → Prop := fun X _ t => ∃ (k : Nat) (h' : tr_H), k < 3 ∧ tr_ex k = X ∧ tr_Rep E h' t.heap ∧ Q (.inr k) h'
/-- the contract of a method, with a room of d frames -/
def tr_Cd (E : tr_Env) (d : Nat) (M : tr_MI) (as : List tr_V) (h : tr_H) (Q : tr_Q) : Prop := vx_Met (eL E) (mY M) tr_LW (tr_room d (mC M) (mS M)) (tr_Pc E as h) (tr_Qc E Q) (tr_Xc E Q) (mC M) (mS M) (eO E)
def tr_C (E : tr_Env) (a : Nat) (as : List tr_V) (h : tr_H) (Q : tr_Q) : Prop := tr_Cd E (mD (tr_mi a)) (tr_mi a) as h Q
/-- thrown over the frame -/
def tr_T (E : tr_Env) (M : tr_MI) (R : Room) (lc lz : Nat) (Z : List Frame → Array Value → State → State → Prop) (pc : Nat) (lv : tr_L) (st : List tr_V) (h : tr_H) (rc rs : Nat) (kx : Nat) : Prop :=
  ∀ (p : Program) (e : Env) (s : State) (m : MethodId) (args : Array Value) (below : List Frame) (meth : Method) (c : Code) (H : Heap) (locs : List Loc) (cells slots : Nat) (ls : Array Slot) (q : Addr) (ce : Cell),
    tr_Cx E M p s m args meth c → tr_Rep E h H → va_S (eO E) s.heap H locs → lv_has ls (mL M) (tr_al lv) → cells + rc ≤ lc → slots + rs ≤ lz → H[q]? = some ce → ce.vm = .none → s.vm.findClass (tr_ex kx) = some ce.cls →
    vx_W p (eL E) e R s m args below meth c H locs cells slots (Z below args s) (F0 m pc ls (st.map tr_cv)) q
theorem tr_Pc_blind {E : tr_Env} {as : List tr_V} {h : tr_H} : FrameBlind (tr_Pc E as h) := fun _ _ _ _ q => q
theorem tr_goodLW : GoodIn tr_LW tr_LW := fun w h => ⟨h, good_of_word (List.mem_filter.mp h).2⟩
section TRC
variable {E : tr_Env} {M : tr_MI} {R : Room} {lc lz : Nat} {Z : List Frame → Array Value → State → State → Prop} {pc : Nat} {lv : tr_L} {st : List tr_V} {h : tr_H} {rc rs : Nat}
/-- behind a call -/
theorem tr_after {p : Program} {e : Env} {s : State} {m : MethodId} {args : Array Value} {below : List Frame} {meth : Method} {c : Code} {H : Heap} {locs : List Loc} {cells slots mc ms : Nat} {ls : Array Slot} {st0 : List Value} {rest : List tr_V} {a : Array Value} {Q : tr_Q}
    (Cx : tr_Cx E M p s m args meth c) (Rp : tr_Rep E h H) (hS : va_S (eO E) s.heap H locs) (hl : lv_has ls (mL M) (tr_al lv)) (hc : cells + rc ≤ lc) (hs : slots + rs ≤ lz) (hmc : mc ≤ rc) (hms : ms ≤ rs)
    (hr : vx_Run p (eL E) e R s m args below meth c H locs cells slots mc ms (F0 m pc ls st0) (rest.map tr_cv) (tr_Qc E Q a) (tr_Xc E Q) (eO E))
    (kr : ∀ v h', Q (.inl v) h' → tr_W E M R lc lz Z (pc + 3) lv (v.toList ++ rest) h' (rc - mc) (rs - ms)) (kx : ∀ k h', k < 3 → Q (.inr k) h' → tr_T E M R lc lz Z pc lv rest h' (rc - mc) (rs - ms) k) :
    W p (eL E) e R s m args below meth c H locs cells slots (Z below args s) (F0 m pc ls st0) := by
  intro T hT X
  have base : ∀ (T' : State) (h' : tr_H) (L : List Loc), tr_Rep E h' T'.heap → Stand p (eL E) e R s m args below meth c T' (locs ++ L) (cells + mc) (slots + ms) → (∀ q ∈ L, eO E q.base) → va_S (eO E) s.heap T'.heap (locs ++ L) := by
    intro T' h' L Rp' X' hL
    refine ⟨(vx_frame X'.same).1, fun q h1 h2 => ?_, fun q hq => ?_⟩
    · have hq : q < elo E := Nat.not_le.mp h2
      rw [Rp'.2.1.2 q hq, ← Rp.2.1.2 q hq]
      exact hS.2.1 q h1 h2
    · rcases List.mem_append.mp hq with g | g
      · exact hS.2.2 q g
      · exact hL q g
  rcases hr T hT X with ⟨v, st₀, t, T', L, h0, X', hL, e1, e2, ⟨v', h', hv, Rp', hq⟩, stp⟩ | ⟨q, st₀, t, T', L, Xn, ce, h0, X', hL, e1, e2, ⟨kx', h', hk3, hkx, Rp', hq⟩, hce, hcv, hcl, stp⟩
  · cases hv
    rw [← e1] at Rp'
    obtain ⟨t2, a1, b1⟩ := kr v' h' hq p e s m args below meth c T'.heap (locs ++ L) (cells + mc) (slots + ms) ls Cx Rp' (base T' h' L Rp' X' hL) hl (by omega) (by omega) T' rfl X'
    refine ⟨t2, stp t2 ?_, b1⟩
    have hst : (v'.toList ++ rest).map tr_cv = (v'.map tr_cv).toList ++ rest.map tr_cv := by cases v' <;> simp
    rw [hst] at a1
    exact a1
  · rw [← e1] at Rp' hce
    subst hkx
    obtain ⟨t2, a1, b1⟩ := kx kx' h' hk3 hq p e s m args below meth c T'.heap (locs ++ L) (cells + mc) (slots + ms) ls q ce Cx Rp' (base T' h' L Rp' X' hL) hl (by omega) (by omega) hce hcv hcl T' rfl X'
    exact ⟨t2, stp.trans a1, b1⟩
/-- what is known of a method that is called -/
def tr_Mok (N : tr_MI) (n : Nat) : Prop := tr_cw N ∈ tr_LW ∧ tr_iw N ∈ tr_LW ∧ tr_kw N ∈ tr_LW ∧ tr_sw N ∈ tr_LW ∧ ((mY N).cls ≠ "java/lang/invoke/MethodHandle" ∧ (mY N).cls ≠ "java/lang/invoke/VarHandle") ∧ (parseMethodDescriptor (mY N).desc).map (fun d => d.parameters.length) = some n ∧ mL N ≤ 45
def tr_Rok (R : Room) (d : Nat) : Prop := d ≤ R.frames ∧ 64 * d ≤ R.locals
theorem tr_callB {d n idx : Nat} {N : tr_MI} {p : Program} {s : State} {m : MethodId} {args : Array Value} {meth : Method} {c : Code} (Cx : tr_Cx E M p s m args meth c) (hN : tr_Mok N n) (hh : mH N = []) (hR : tr_Rok R (d + 1)) (hl : (Cond.methodLink (mY M).cls idx (mY N)).before args s = true) :
    CallB R s args (mY M).cls idx (mY N) (mB N) (mL N) (mR N) tr_LW (tr_room d (mC N) (mS N)) (mC N) (mS N) n := by
  obtain ⟨h1, h2, h3, h4, h5, h6, h7⟩ := hN
  obtain ⟨g1, g2⟩ := hR
  have hts := Cx.2.2.2.2.1
  have hcd : Cond.code (mY N) (mB N) (mL N) (mR N) ∈ tr_LW := by
    unfold tr_cw at h1
    rw [hh] at h1
    exact h1
  refine ⟨rfl, rfl, g1, ?_, pay_in hts tr_goodLW, hcd, hts _ hcd, hts _ h2, h5, fun sig hs => ?_, hl⟩
  · show 8 + (mL N + 11) + 64 * d ≤ R.locals
    omega
  · rw [hs] at h6
    exact (Option.some.inj h6).symm
theorem tr_Pc_of {p : Program} {s : State} {m : MethodId} {args : Array Value} {meth : Method} {c : Code} {as : List tr_V} {H : Heap} {v : List Value} (Cx : tr_Cx E M p s m args meth c) (Rp : tr_Rep E h H) (hv : v = as.map tr_cv) : ∀ U : State, U.heap = H → s.WarmedH U.vm → tr_Pc E as h v.toArray U :=
  fun U hU hW => ⟨by rw [hv], by rw [hU]; exact Rp, State.WarmedH.trans Cx.2.2.2.2.2.1 hW⟩
theorem tr_stk {as rest : List tr_V} : ((as.reverse ++ rest).map tr_cv) = (as.map tr_cv).reverse ++ rest.map tr_cv := by simp
theorem tr_stk1 {r : tr_V} {as rest : List tr_V} : (((r :: as).reverse ++ rest).map tr_cv) = (as.map tr_cv).reverse ++ tr_cv r :: rest.map tr_cv := by simp
def tr_wds (st : List tr_V) : Nat := (st.map fun v => (tr_cv v).category).sum
theorem tr_wds_eq (st : List tr_V) : ((st.map tr_cv).map fun v => v.category).sum = tr_wds st := by unfold tr_wds; rw [List.map_map]; rfl
theorem tr_r_callV (ok : tr_ok E) (hlc : lc ≤ R.cells) (hlz : lz ≤ R.slots) {idx d n r ci : Nat} {q : vw_C} {N : tr_MI} {as rest : List tr_V} {Q : tr_Q} (hd : decode (mB M) pc = .ok (.invokevirtual idx, 3)) (hN : tr_Mok N n) (hh : mH N = []) (hK : mK N = 0) (hR : tr_Rok R (d + 1)) (hw : Cond.methodLink (mY M).cls idx (mY N) ∈ tr_LW)
    (hci : vwCl[ci]? = some q) (hcl : q.1 = (mY N).cls) (htg : ht h r = ci + 1) (hn : as.length = n) (hwd : tr_wds rest ≤ 8) (hmc : mC N ≤ rc) (hms : mS N ≤ rs) (hC : tr_Cd E d N (.inr (.inr r) :: as) h Q)
    (kr : ∀ v h', Q (.inl v) h' → tr_W E M R lc lz Z (pc + 3) lv (v.toList ++ rest) h' (rc - mC N) (rs - mS N)) (kx : ∀ k h', k < 3 → Q (.inr k) h' → tr_T E M R lc lz Z pc lv rest h' (rc - mC N) (rs - mS N) k) :
    tr_W E M R lc lz Z pc lv ((.inr (.inr r) :: as).reverse ++ rest) h rc rs := by
  intro p e s m args below meth c H locs cells slots ls Cx Rp hS hl hc hs
  obtain ⟨hX, hB, hML, hown, hts, hW, -⟩ := id Cx
  obtain ⟨a, rfl⟩ := tr_o_of Rp.1 htg
  obtain ⟨hlo, cell, g1, g2, g3, g4⟩ := (Rp.2.2.1 a).2.1 ci q htg hci
  have hfc := ((Cx.K ok).1 ci q hci).2.1
  have hkw : (Cond.instanceMethod (mY N)).before args s = true := by
    have := hts _ hN.2.2.1
    unfold tr_kw at this
    rw [hK] at this
    exact this
  have hsw : (Cond.selects (mY N).cls (mY N) (mY N)).before args s = true := by
    have := hts _ hN.2.2.2.1
    unfold tr_sw at this
    rw [hK] at this
    exact this
  refine tr_after Cx Rp hS hl hc hs hmc hms (vx_runV (C := (mY N).cls) (b := a) (As := as.map tr_cv) (rest := rest.map tr_cv) (g := F0 m pc ls _) ⟨hX, hB, hML, hown, hts⟩ hC ⟨tr_callB Cx hN hh hR (hts _ hw), hkw, hsw⟩ ⟨tr_Pc_blind, ⟨cell, g1, by rw [g3]; rfl, by rw [← hcl, g2]; exact hfc⟩, tr_Pc_of Cx Rp rfl⟩ rfl (by rw [List.length_map]; exact hn) hl.1 tr_stk1 (lv_room (by rw [tr_wds_eq]; exact hwd)) hd ⟨by omega, by omega⟩) kr kx
theorem tr_r_callI (ok : tr_ok E) (hlc : lc ≤ R.cells) (hlz : lz ≤ R.slots) {idx d n r : Nat} {N : tr_MI} {as rest : List tr_V} {Q : tr_Q} (hd : decode (mB M) pc = .ok (.invokespecial idx, 3)) (hN : tr_Mok N n) (hh : mH N = []) (hK : mK N = 1) (hnm : (mY N).name = "<init>") (hvd : mR N = none) (hR : tr_Rok R (d + 1)) (hw : Cond.methodLink (mY M).cls idx (mY N) ∈ tr_LW)
    (htg : ht h r ≠ 0) (hn : as.length = n) (hwd : tr_wds rest ≤ 8) (hmc : mC N ≤ rc) (hms : mS N ≤ rs) (hC : tr_Cd E d N (.inr (.inr r) :: as) h Q)
    (kr : ∀ v h', Q (.inl v) h' → tr_W E M R lc lz Z (pc + 3) lv (v.toList ++ rest) h' (rc - mC N) (rs - mS N)) (kx : ∀ k h', k < 3 → Q (.inr k) h' → tr_T E M R lc lz Z pc lv rest h' (rc - mC N) (rs - mS N) k) :
    tr_W E M R lc lz Z pc lv ((.inr (.inr r) :: as).reverse ++ rest) h rc rs := by
  intro p e s m args below meth c H locs cells slots ls Cx Rp hS hl hc hs
  obtain ⟨hX, hB, hML, hown, hts, hW, -⟩ := id Cx
  cases r with
  | zero => exact absurd Rp.1 htg
  | succ a =>
    have hkw : (Cond.instanceMethod (mY N)).before args s = true := by
      have := hts _ hN.2.2.1
      unfold tr_kw at this
      rw [hK] at this
      exact this
    have hcb := tr_callB Cx hN hh hR (hts _ hw)
    rw [hvd] at hcb
    exact tr_after Cx Rp hS hl hc hs hmc hms (vx_runI (b := a) (As := as.map tr_cv) (rest := rest.map tr_cv) (g := F0 m pc ls _) ⟨hX, hB, hML, hown, hts⟩ hC ⟨hcb, hnm, hkw⟩ ⟨tr_Pc_blind, tr_Pc_of Cx Rp rfl⟩ rfl (by rw [List.length_map]; exact hn) hl.1 tr_stk1 (lv_room (by rw [tr_wds_eq]; exact hwd)) hd ⟨by omega, by omega⟩) kr kx
theorem tr_r_callIN (ok : tr_ok E) (hlc : lc ≤ R.cells) (hlz : lz ≤ R.slots) {idx d n r : Nat} {host : String} {N : tr_MI} {as rest : List tr_V} {Q : tr_Q} (hd : decode (mB M) pc = .ok (.invokespecial idx, 3)) (hN : tr_Mok N n) (hh : mH N = []) (hK : mK N = 1) (hnm : (mY N).name = "<init>") (hvd : mR N = none) (hR : tr_Rok R (d + 1)) (hw : Cond.methodLinkNest (mY M).cls idx (mY N) host ∈ lw_tbl)
    (htg : ht h r ≠ 0) (hn : as.length = n) (hwd : tr_wds rest ≤ 8) (hmc : mC N ≤ rc) (hms : mS N ≤ rs) (hC : tr_Cd E d N (.inr (.inr r) :: as) h Q)
    (kr : ∀ v h', Q (.inl v) h' → tr_W E M R lc lz Z (pc + 3) lv (v.toList ++ rest) h' (rc - mC N) (rs - mS N)) (kx : ∀ k h', k < 3 → Q (.inr k) h' → tr_T E M R lc lz Z pc lv rest h' (rc - mC N) (rs - mS N) k) :
    tr_W E M R lc lz Z pc lv ((.inr (.inr r) :: as).reverse ++ rest) h rc rs := by
  intro p e s m args below meth c H locs cells slots ls Cx Rp hS hl hc hs
  obtain ⟨hX, hB, hML, hown, hts, hW, -⟩ := id Cx
  cases r with
  | zero => exact absurd Rp.1 htg
  | succ a =>
    have hkw : (Cond.instanceMethod (mY N)).before args s = true := by
      have := hts _ hN.2.2.1
      unfold tr_kw at this
      rw [hK] at this
      exact this
    have hlk : va_Nw (.methodLinkNest (mY M).cls idx (mY N) host) s := va_Nw.warmM hW (va_Nw.of rfl (ok.2.2.2.2.2.2.2.1 _ hw))
    obtain ⟨h1, h2, h3, h4, h5, h6, h7⟩ := id hN
    obtain ⟨g1, g2⟩ := id hR
    have hcd : Cond.code (mY N) (mB N) (mL N) none ∈ tr_LW := by
      unfold tr_cw at h1
      rw [hh, hvd] at h1
      exact h1
    exact tr_after Cx Rp hS hl hc hs hmc hms (vx_runIN (b := a) (bytes := mB N) (maxL := mL N) (As := as.map tr_cv) (rest := rest.map tr_cv) (g := F0 m pc ls _) ⟨hX, hB, hML, hown, hts⟩ hC ⟨⟨⟨rfl, rfl, g1, by show 8 + (mL N + 11) + 64 * d ≤ R.locals; omega, pay_in hts tr_goodLW, hcd⟩, hts _ hcd, hts _ h2, h5, fun sig hs => by rw [hs] at h6; exact (Option.some.inj h6).symm, va_Nw.use rfl hlk⟩, hnm, hkw⟩ ⟨tr_Pc_blind, tr_Pc_of Cx Rp rfl⟩ rfl (by rw [List.length_map]; exact hn) hl.1 tr_stk1 (lv_room (by rw [tr_wds_eq]; exact hwd)) hd ⟨by omega, by omega⟩) kr kx
theorem tr_r_callS (ok : tr_ok E) (hlc : lc ≤ R.cells) (hlz : lz ≤ R.slots) {idx d n : Nat} {N : tr_MI} {as rest : List tr_V} {Q : tr_Q} (hd : decode (mB M) pc = .ok (.invokestatic idx, 3)) (hN : tr_Mok N n) (hK : mK N = 2) (hR : tr_Rok R (d + 1)) (hw : Cond.methodLink (mY M).cls idx (mY N) ∈ tr_LW)
    (hn : as.length = n) (hwd : tr_wds rest ≤ 8) (hmc : mC N ≤ rc) (hms : mS N ≤ rs) (hC : tr_Cd E d N as h Q)
    (kr : ∀ v h', Q (.inl v) h' → tr_W E M R lc lz Z (pc + 3) lv (v.toList ++ rest) h' (rc - mC N) (rs - mS N)) (kx : ∀ k h', k < 3 → Q (.inr k) h' → tr_T E M R lc lz Z pc lv rest h' (rc - mC N) (rs - mS N) k) :
    tr_W E M R lc lz Z pc lv (as.reverse ++ rest) h rc rs := by
  intro p e s m args below meth c H locs cells slots ls Cx Rp hS hl hc hs
  obtain ⟨hX, hB, hML, hown, hts, hW, -⟩ := id Cx
  have hkw : (Cond.static (mY N)).before args s = true := by
    have := hts _ hN.2.2.1
    unfold tr_kw at this
    rw [hK] at this
    exact this
  by_cases hh : mH N = []
  · exact tr_after Cx Rp hS hl hc hs hmc hms (vx_runS (As := as.map tr_cv) (rest := rest.map tr_cv) (g := F0 m pc ls _) ⟨hX, hB, hML, hown, hts⟩ hC ⟨tr_callB Cx hN hh hR (hts _ hw), hkw⟩ ⟨tr_Pc_blind, tr_Pc_of Cx Rp rfl⟩ rfl (by rw [List.length_map]; exact hn) hl.1 tr_stk (lv_room (by rw [tr_wds_eq]; exact hwd)) hd ⟨by omega, by omega⟩) kr kx
  · obtain ⟨h1, h2, h3, h4, h5, h6, h7⟩ := id hN
    obtain ⟨g1, g2⟩ := id hR
    have hcd : Cond.codeWith (mY N) (mB N) (mL N) (mR N) (mH N) ∈ tr_LW := by
      unfold tr_cw at h1
      cases hh2 : mH N with
      | nil => exact absurd hh2 hh
      | cons a b => rw [hh2] at h1; exact h1
    exact tr_after Cx Rp hS hl hc hs hmc hms (vx_runSX (hh := mH N) (bytes := mB N) (maxL := mL N) (ret := mR N) (As := as.map tr_cv) (rest := rest.map tr_cv) (g := F0 m pc ls _) ⟨hX, hB, hML, hown, hts⟩ hC ⟨⟨rfl, rfl, g1, by show 8 + (mL N + 11) + 64 * d ≤ R.locals; omega, pay_in hts tr_goodLW, hcd⟩, hts _ hcd, hts _ h2, h5, (fun sig hs => by rw [hs] at h6; exact (Option.some.inj h6).symm), hts _ hw, hkw⟩ ⟨tr_Pc_blind, tr_Pc_of Cx Rp rfl⟩ rfl (by rw [List.length_map]; exact hn) hl.1 tr_stk (lv_room (by rw [tr_wds_eq]; exact hwd)) hd ⟨by omega, by omega⟩) kr kx
end TRC
