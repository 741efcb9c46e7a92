/-! THE START: a heap that stands for it, and what holds of the surroundings -/
def tr_xw (ad : Nat → Nat) (r : Nat) : Nat := ((List.range 8).find? (fun i => Nat.beq (ad i + 1) r)).getD 8
theorem tr_xw_lt {ad : Nat → Nat} {r : Nat} (h : tr_xw ad r < 8) : r = ad (tr_xw ad r) + 1 := by
  cases hf : (List.range 8).find? (fun i => Nat.beq (ad i + 1) r) with
  | none =>
    have e : tr_xw ad r = 8 := by unfold tr_xw; rw [hf]; rfl
    omega
  | some i =>
    have e : tr_xw ad r = i := by unfold tr_xw; rw [hf]; rfl
    rw [e]
    have h1 := List.find?_some hf
    exact (Nat.eq_of_beq_eq_true h1).symm
theorem tr_xw_eq {ad : Nat → Nat} (hi : ∀ i j : Nat, i < 8 → j < 8 → ad i = ad j → i = j) {i : Nat} (h8 : i < 8) : tr_xw ad (ad i + 1) = i := by
  cases hf : (List.range 8).find? (fun k => Nat.beq (ad k + 1) (ad i + 1)) with
  | none =>
    have h1 := List.find?_eq_none.mp hf i (List.mem_range.mpr h8)
    exact absurd (Nat.beq_refl _) h1
  | some k =>
    have e : tr_xw ad (ad i + 1) = k := by unfold tr_xw; rw [hf]; rfl
    rw [e]
    have h0 := List.find?_some hf
    have h1 : ad k + 1 = ad i + 1 := Nat.eq_of_beq_eq_true h0
    have h2 := List.mem_range.mp (List.mem_of_find?_eq_some hf)
    exact hi k i h2 h8 (by omega)
def tr_h0 (b L : Nat) (xs : Nat → Int32) (ad : Nat → Nat) : tr_H := (fun r => if r = b + 1 then 17 else if tr_xw ad r < 8 then 18 else 0, fun r => if r = b + 1 then L else (tr_txt (tr_xw ad r)).length, fun r j => if r = b + 1 then xs j else ii ((tr_txt (tr_xw ad r)).getD j 0 : Nat), fun _ _ => 0, fun _ _ => 0)
theorem tr_qok : ∀ i : Fin 8, tr_qln.getD i.val 0 = (tr_txt i.val).length ∧ (tr_txt i.val).length ≤ 6 ∧ ∀ j : Fin 6, (tr_txt i.val).getD j.val 0 < 128 ∧ (j.val < (tr_txt i.val).length → (tr_qby.getD i.val []).getD j.val 0 = ii ((tr_txt i.val).getD j.val 0 : Nat)) := by decide +kernel
theorem tr_rep0 {E : tr_Env} {ad adV : Nat → Nat} (hb : eb E < elo E) (hX : va_X (eb E) (eN E) (eX E) (eS E) (eS E).heap) (hS : vk_S 8 tr_qln tr_qby ad adV (eO E) (eS E) (eS E).heap) (hT : ∀ j, j < 8 → eT E j = ad j + 1) : tr_Rep E (tr_h0 (eb E) (eN E) (eX E) ad) (eS E).heap := by
  have hne : ∀ i, i < 8 → ¬ (ad i + 1 = eb E + 1) := by
    intro i hi e
    obtain ⟨scr, g1, g2, g3, g4, g5⟩ := hX
    obtain ⟨cf, k, ix, f, cell, f1, f2, f3, f4, f5, -⟩ := (hS.1 i hi).2.2.1
    rw [show ad i = eb E by omega] at f3
    cases Option.some.inj (g1.symm.trans f3)
    have hl : f.slot < scr.slots.size := (Array.getElem?_eq_some_iff.mp f5).1
    rw [g4] at hl
    rw [g5 _ hl] at f5
    cases f5
  have t18 : ∀ r, ¬ (r = eb E + 1) → tr_xw ad r < 8 → ht (tr_h0 (eb E) (eN E) (eX E) ad) r = 18 := fun r h1 h2 => (if_neg h1).trans (if_pos h2)
  have t0 : ∀ r, ¬ (r = eb E + 1) → ¬ (tr_xw ad r < 8) → ht (tr_h0 (eb E) (eN E) (eX E) ad) r = 0 := fun r h1 h2 => (if_neg h1).trans (if_neg h2)
  have tn : ∀ r, ¬ (r = eb E + 1) → hn (tr_h0 (eb E) (eN E) (eX E) ad) r = (tr_txt (tr_xw ad r)).length := fun r h1 => if_neg h1
  have ti : ∀ r j, ¬ (r = eb E + 1) → hI (tr_h0 (eb E) (eN E) (eX E) ad) r j = ii ((tr_txt (tr_xw ad r)).getD j 0 : Nat) := fun r j h1 => if_neg h1
  refine ⟨t0 0 (by omega) (fun g => by have := tr_xw_lt g; omega), ⟨Nat.le_refl _, fun q _ => rfl⟩, fun r => ?_, fun j hj => ?_⟩
  · by_cases e : r + 1 = eb E + 1
    · have t17 : ht (tr_h0 (eb E) (eN E) (eX E) ad) (r + 1) = 17 := if_pos e
      refine ⟨fun _ => by rw [show r = eb E by omega]; exact hb, fun c q g hq => ?_, fun k hk g => ?_, fun _ => ⟨by omega, if_pos e, fun j _ => if_pos e⟩, fun g => ?_⟩
      · rw [t17] at g
        have hc : c = 16 := by omega
        subst hc
        cases hq
      · rw [t17] at g; omega
      · rw [t17] at g; cases g
    · by_cases w : tr_xw ad (r + 1) < 8
      · have t := t18 _ e w
        have hr : r = ad (tr_xw ad (r + 1)) := by have := tr_xw_lt w; omega
        obtain ⟨s1, s2, s3, s4⟩ := hS.1 _ w
        rw [← hr] at s1 s2 s3
        have hq := tr_qok ⟨tr_xw ad (r + 1), w⟩
        dsimp only at hq
        obtain ⟨q1, q2, q3⟩ := hq
        refine ⟨fun _ => ?_, fun c q g hq => ?_, fun k hk g => ?_, fun g => ?_, fun _ => ⟨adV (tr_xw ad (r + 1)), s1, s2, s3, ?_, ?_, fun j hj => ?_⟩⟩
        · obtain ⟨cell, c1, -⟩ := s1
          exact (Array.getElem?_eq_some_iff.mp c1).1
        · rw [t] at g
          have hc : c = 17 := by omega
          subst hc
          cases hq
        · rw [t] at g; omega
        · rw [t] at g; cases g
        · rw [tn _ e]
          obtain ⟨cell, c1, c2, c3, c4, c5, c6, c7⟩ := s4
          rw [q1] at c4 c5 c6
          refine ⟨cell, c1, c2, c3, c4, c5, fun j hj => ?_, c7⟩
          rw [c6 j hj]
          show some (Value.int ((tr_qby.getD (tr_xw ad (r + 1)) []).getD j 0)) = some (Value.int (hI (tr_h0 (eb E) (eN E) (eX E) ad) (r + 1) j))
          rw [ti _ _ e]
          exact congrArg (fun z => some (Value.int z)) ((q3 ⟨j, by omega⟩).2 hj)
        · rw [tn _ e]; omega
        · rw [tn _ e] at hj
          rw [ti _ _ e]
          exact ⟨⟨_, (q3 ⟨j, by omega⟩).1⟩, rfl⟩
      · have t := t0 _ e w
        refine ⟨fun g => absurd t g, fun c q g hq => ?_, fun k hk g => ?_, fun g => ?_, fun g => ?_⟩ <;> (rw [t] at g; first | omega | cases g)
  · rw [hT j hj]
    have e := tr_xw_eq hS.2 hj
    refine ⟨t18 _ (hne j hj) (by rw [e]; exact hj), ?_, fun k hk => ?_⟩
    · rw [tn _ (hne j hj), e]
    · rw [ti _ _ (hne j hj), e]
set_option maxRecDepth 100000 in
theorem tr_q5 : ∀ q ∈ tr_sidx, q.2.2 < 8 ∧ Cond.stringRef (tr_R q.1) q.2.1 (tr_ts q.2.2) ∈ lw_tbl ∧ ((tr_R q.1 = RX4 ∧ q.2.1 = tr_q4.getD q.2.2 0) ∨ tr_has (Cond.eq (tr_qtm q.2.2) (.string (tr_R q.1) q.2.1)) = true) := by decide +kernel
set_option maxRecDepth 100000 in
theorem tr_q6 : ∀ k : Fin 3, Cond.stringRef RX7 (tr_exi k.val).2.1 (tr_exm k.val) ∈ lw_tbl ∧ tr_has (Cond.exactly (.string RX7 (tr_exi k.val).2.1) "java/lang/String") = true := by decide +kernel
set_option maxRecDepth 100000 in
theorem tr_q7 : tr_has (Cond.not (.castable (tr_ex 1) (tr_ex 0))) = true ∧ tr_has (Cond.not (.castable (tr_ex 2) (tr_ex 1))) = true := by decide +kernel
set_option maxRecDepth 100000 in
theorem tr_q8 : tr_has (Cond.isRef (.static Bundle.tN "UNASSIGNED_STACK" Bundle.steD)) = true ∧ tr_has (Cond.isRef (.static Bundle.tN "SUPPRESSED_SENTINEL" Bundle.listD)) = true ∧ tr_has (Cond.eq (.static "java/lang/String" "COMPACT_STRINGS" "Z") (.int 1)) = true ∧ tr_has (Cond.isRef (.static "jdk/internal/util/Preconditions" "SIOOBE_FORMATTER" "Ljava/util/function/BiFunction;")) = true := by decide +kernel
set_option maxRecDepth 100000 in
theorem tr_q9 : Cond.laysStatic Bundle.tN "UNASSIGNED_STACK" Bundle.steD ∈ lw_tbl ∧ Cond.laysStatic Bundle.tN "SUPPRESSED_SENTINEL" Bundle.listD ∈ lw_tbl ∧ Cond.initialized Bundle.tN ∈ lw_tbl ∧ Cond.laysStatic "java/lang/String" "COMPACT_STRINGS" "Z" ∈ lw_tbl ∧ Cond.initialized "java/lang/String" ∈ lw_tbl ∧ Cond.laysStatic "jdk/internal/util/Preconditions" "SIOOBE_FORMATTER" "Ljava/util/function/BiFunction;" ∈ lw_tbl ∧ Cond.initialized "jdk/internal/util/Preconditions" ∈ lw_tbl := by decide +kernel
set_option maxRecDepth 100000 in
theorem tr_qa : Cond.arrayClass .int ∈ lw_tbl ∧ Cond.arrayClass .byte ∈ lw_tbl ∧ Cond.arrayClass .boolean ∈ lw_tbl ∧ Cond.arrayClass .long ∈ lw_tbl := by decide +kernel
theorem tr_arr0 {s : State} {args : Array Value} {ty : FieldType} (h : (Cond.arrayClass ty).before args s = true) (hty : ∀ C, ty ≠ .object C) : ∃ cA : ClassId, ArrOfT s cA ty ∧ va_RA s cA ty := by
  obtain ⟨c, k, comp, h1, h2, h3⟩ := Cond.arrayClass_spec h
  refine ⟨c, fun N z => ⟨fun k h => (by cases h), k, h2, comp, h3⟩, ?_⟩
  unfold va_RA
  split
  · next C => exact absurd rfl (hty C)
  · exact h1
theorem tr_arr1 {s : State} {args : Array Value} {C : String} (h : (Cond.arrayOver (.object C)).before args s = true) : ∃ cA : ClassId, ArrOfT s cA (.object C) ∧ va_RA s cA (.object C) := by
  obtain ⟨comp, c, k, h1, -, h2, h3, h4⟩ := Cond.arrayOver_spec h
  exact ⟨c, fun N z => ⟨fun k h => (by cases h), k, h2, comp, h3⟩, k, comp, h2, h3, h1, h4⟩
set_option maxHeartbeats 1000000 in
/-- the law's walk, out of the abstract one -/
theorem tr_begin {p : Program} {e : Env} {s : State} {m : MethodId} {below : List Frame} {meth : Method} {c : Code} (l : Launch) (hflags : l.flags = flags0) {b L : Nat} {xs : Nat → Int32} (hL : L ≤ 3072) (C0 : lw_At p s m meth c b L xs)
    (HG : ∀ (E : tr_Env) (h : tr_H), tr_ok E → eN E ≤ 3072 → ht h (eb E + 1) = 17 → hn h (eb E + 1) = eN E → (∀ j, hI h (eb E + 1) j = eX E j) → tr_W E mi_L_law room_1 100 20000 (tr_lZ E) 0 [some (.inr (.inr (eb E + 1))), none, none, none, none, none, none, none] [] h 100 20000) :
    W p l e room_1 s m #[Value.ref b] below meth c s.heap [] 0 0 (lw_Z below #[Value.ref b] s) (entryFrame m ([Value.ref b] : List Value).toArray 8) := by
  obtain ⟨hx, hb, hr, hml, hown, hts, hX, hbl, hlocks, hgv, hnm, htb⟩ := C0
  have hs : ∀ w : Cond, tr_has w = true → w.before #[Value.ref b] s = true := fun w hw => flat_of_before _ hgv w (of_decide_eq_true hw)
  have hA : ∀ a : Nat, a < s.heap.size → ¬ (fun q : Nat => s.heap.size ≤ q) a := fun a ha g => absurd ha (Nat.not_lt.mpr g)
  obtain ⟨ad, adV, hS, hR⟩ := tr_texts hgv
  have hk : ∀ c : Nat, ∃ D : ClassId × (Nat → Nat), ∀ q, vwCl[c]? = some q → u_Kn s q.1 q.2.1 q.2.2 D.1 D.2 := by
    intro c
    cases hq : vwCl[c]? with
    | none => exact ⟨(0, fun _ => 0), fun q h => by cases h⟩
    | some q =>
      obtain ⟨cC, iS, h⟩ := u_known (ws := lw_tbl) (N := q.2.2) (n := q.2.2) hts (fun w hw => (List.mem_filter.mp (tr_cls_in hq w hw)).1) (hts _ (List.mem_filter.mp (tr_inst_in _ (List.mem_map.mpr ⟨q, List.mem_of_getElem? hq, rfl⟩))).1)
      exact ⟨(cC, iS), fun q' h' => by cases h'; exact h⟩
  obtain ⟨D, hD⟩ := Classical.axiomOfChoice hk
  have ha : ∀ k : Nat, ∃ cA : ClassId, k < 6 → ArrOfT s cA (tr_aty k) ∧ va_RA s cA (tr_aty k) := by
    intro k
    match k with
    | 0 => obtain ⟨cA, h⟩ := tr_arr0 (hts _ tr_qa.1) (fun C h => by cases h); exact ⟨cA, fun _ => h⟩
    | 1 => obtain ⟨cA, h⟩ := tr_arr0 (hts _ tr_qa.2.1) (fun C h => by cases h); exact ⟨cA, fun _ => h⟩
    | 2 => obtain ⟨cA, h⟩ := tr_arr0 (hts _ tr_qa.2.2.1) (fun C h => by cases h); exact ⟨cA, fun _ => h⟩
    | 3 => obtain ⟨cA, h⟩ := tr_arr0 (hts _ tr_qa.2.2.2) (fun C h => by cases h); exact ⟨cA, fun _ => h⟩
    | 4 => obtain ⟨cA, h⟩ := tr_arr1 (hts _ tr_over_in.1); exact ⟨cA, fun _ => h⟩
    | 5 => obtain ⟨cA, h⟩ := tr_arr1 (hts _ tr_over_in.2); exact ⟨cA, fun _ => h⟩
    | k + 6 => exact ⟨0, fun h => absurd h (by omega)⟩
  obtain ⟨A, hAr⟩ := Classical.axiomOfChoice ha
  have hst : l.stackTraces = false := by
    show (!l.flags.contains noTraceFlag) = false
    rw [hflags]
    decide +kernel
  obtain ⟨E, hE⟩ : ∃ E : tr_Env, E = (l, s, (fun c => (D c).1, fun c => (D c).2), A, b, L, xs, fun j => ad j + 1) := ⟨_, rfl⟩
  have eL1 : eL E = l := by rw [hE]; rfl
  have eS1 : eS E = s := by rw [hE]; rfl
  have eD1 : eD E = (fun c => (D c).1, fun c => (D c).2) := by rw [hE]; rfl
  have eA1 : eA E = A := by rw [hE]; rfl
  have eb1 : eb E = b := by rw [hE]; rfl
  have eN1 : eN E = L := by rw [hE]; rfl
  have eX1 : eX E = xs := by rw [hE]; rfl
  have eT1 : eT E = fun j => ad j + 1 := by rw [hE]; rfl
  have eO1 : eO E = fun q : Nat => s.heap.size ≤ q := by unfold eO elo; rw [eS1]
  have elo1 : elo E = s.heap.size := by unfold elo; rw [eS1]
  have ok : tr_ok E := by
    refine ⟨by rw [eL1]; exact hst, ?_, by rw [eb1, eN1, eX1, eS1]; exact hX, by rw [eb1, elo1]; exact hbl, by rw [eN1]; omega, ?_, ?_, by rw [eb1, eS1]; exact hts, fun k hk => ?_, fun q hq => ?_, fun k x hkx => ?_, ?_, ?_⟩
    · rw [eD1, eS1]
      refine ⟨fun c q hq => hD c q hq, fun k q hq => ?_⟩
      unfold tr_tys at hq
      rw [eA1] at hq
      match k, hq with
      | 0, hq => cases hq; exact hAr 0 (by decide)
      | 1, hq => cases hq; exact hAr 1 (by decide)
      | 2, hq => cases hq; exact hAr 2 (by decide)
      | 3, hq => cases hq; exact hAr 3 (by decide)
      | 4, hq => cases hq; exact hAr 4 (by decide)
      | 5, hq => cases hq; exact hAr 5 (by decide)
      | k + 6, hq => cases hq
    · rw [eO1, eS1]; exact vx_Zqof (hts _ tr_q9.1) (hts _ tr_q9.2.2.1) (hs _ tr_q8.1) hA
    · rw [eO1, eS1]; exact vx_Zqof (hts _ tr_q9.2.1) (hts _ tr_q9.2.2.1) (hs _ tr_q8.2.1) hA
    · rw [eS1]
      obtain ⟨h1, h2⟩ := tr_q6 ⟨k, hk⟩
      obtain ⟨a, c9, cell, k9, g1, -⟩ := Cond.exactly_spec (hs _ h2)
      exact ⟨a, vk_R.of (hts _ h1) g1⟩
    · rw [eS1, eT1]
      obtain ⟨h1, h2, h3⟩ := tr_q5 q hq
      refine ⟨ad q.2.2, rfl, vk_R.of (hts _ h2) ?_⟩
      rcases h3 with ⟨e1, e2⟩ | h3
      · rw [e1, e2]
        exact hR _ h1
      · exact va_eqR (hs _ h3) (hR _ h1)
    · rw [eS1]
      unfold tr_np at hkx
      simp only [Bool.or_eq_true, Bool.and_eq_true] at hkx
      rcases hkx with ⟨h1, h2⟩ | ⟨h1, h2⟩
      · rw [Nat.eq_of_beq_eq_true h1, Nat.eq_of_beq_eq_true h2]
        exact va_Nc.of (hs _ tr_q7.1)
      · rw [Nat.eq_of_beq_eq_true h1, Nat.eq_of_beq_eq_true h2]
        exact va_Nc.of (hs _ tr_q7.2)
    · rw [eO1, eS1]; exact va_Zof (hts _ tr_q9.2.2.2.1) (hts _ tr_q9.2.2.2.2.1) (va_eqt (hs _ tr_q8.2.2.1)) hA
    · rw [eO1, eS1]; exact va_Zqof (hts _ tr_q9.2.2.2.2.2.1) (hts _ tr_q9.2.2.2.2.2.2) (hs _ tr_q8.2.2.2) hA
  have Rp : tr_Rep E (tr_h0 (eb E) (eN E) (eX E) ad) (eS E).heap := tr_rep0 (adV := adV) (by rw [eb1, elo1]; exact hbl) (by rw [eb1, eN1, eX1, eS1]; exact hX) (by rw [eO1, eS1]; exact hS) (fun j _ => by rw [eT1])
  have G := HG E (tr_h0 (eb E) (eN E) (eX E) ad) ok (by rw [eN1]; exact hL) (if_pos rfl) (if_pos rfl) (fun j => if_pos rfl)
  rw [eS1] at Rp
  have hl := lv_entry ([.ref b]) (n := 8) (Nat.le_of_ble_eq_true rfl)
  rw [lg_entry_eq]
  generalize (lg_sl ([.ref b]) ++ List.replicate (8 - (lg_sl ([.ref b])).length) Slot.unset).toArray = ls at hl ⊢
  have hl2 : lv_has ls 8 (tr_al (tr_ent 8 [.inr (.inr (eb E + 1))])) := tr_ent_ok (by rw [eb1]; exact hl)
  have hLW : ∀ w ∈ tr_LW, w.before #[Value.ref b] s = true := fun w hw => hts w (List.mem_filter.mp hw).1
  have hWm : (eS E).WarmedH s.vm := by rw [eS1]; exact State.WarmedH.refl s
  have Cx : tr_Cx E mi_L_law p s m #[Value.ref b] meth c := ⟨hx, hb, hml, hown, hLW, hWm, hr, hlocks, hnm, htb, by rw [elo1, eS1]; exact ⟨Nat.le_refl _, fun _ _ => rfl⟩⟩
  have hSv : va_S (eO E) s.heap s.heap [] := va_S.rf
  have K := G p e s m #[Value.ref b] below meth c s.heap [] 0 0 ls Cx Rp hSv hl2 (by decide) (by decide)
  rw [eL1] at K
  intro T hT X
  obtain ⟨t, a1, b1⟩ := K T hT X
  exact ⟨t, a1, b1 (by rw [elo1]; exact Nat.le_refl _)⟩
