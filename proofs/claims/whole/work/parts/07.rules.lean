/-! THE RUN'S SURROUNDINGS, what a heap stands for, and a row for each instruction -/
/-- launch, first state, class numbers and slots, array classes, the script's cell, length, ints, the texts -/
abbrev tr_Env : Type := Launch × State × va_G × (Nat → ClassId) × Nat × Nat × (Nat → Int32) × (Nat → Nat)
def eL (E : tr_Env) : Launch := E.1
def eS (E : tr_Env) : State := E.2.1
def eD (E : tr_Env) : va_G := E.2.2.1
def eA (E : tr_Env) : Nat → ClassId := E.2.2.2.1
def eb (E : tr_Env) : Nat := E.2.2.2.2.1
def eN (E : tr_Env) : Nat := E.2.2.2.2.2.1
def eX (E : tr_Env) : Nat → Int32 := E.2.2.2.2.2.2.1
def eT (E : tr_Env) : Nat → Nat := E.2.2.2.2.2.2.2
def elo (E : tr_Env) : Nat := (eS E).heap.size
def eO (E : tr_Env) : Nat → Prop := fun q => elo E ≤ q
/-- the texts: as constants, and as numbers -/
def tr_ts (j : Nat) : String := match j with
  | 0 => "hops"
  | 1 => "link"
  | 2 => "cut"
  | 3 => "route"
  | 4 => "base"
  | 5 => "key"
  | 6 => "mask"
  | _ => "labels"
def tr_txt (j : Nat) : List Nat := match j with
  | 0 => [104, 111, 112, 115]
  | 1 => [108, 105, 110, 107]
  | 2 => [99, 117, 116]
  | 3 => [114, 111, 117, 116, 101]
  | 4 => [98, 97, 115, 101]
  | 5 => [107, 101, 121]
  | 6 => [109, 97, 115, 107]
  | _ => [108, 97, 98, 101, 108, 115]
/-- what is thrown: name, its text, the entries of the class, of the text, of the constructor -/
def tr_ex (k : Nat) : String := match k with
  | 0 => "java/util/NoSuchElementException"
  | 1 => "java/lang/IllegalArgumentException"
  | _ => "java/lang/IllegalStateException"
def tr_exm (k : Nat) : String := match k with
  | 0 => "no such hop, link, packet or place"
  | 1 => "an argument is not as told"
  | _ => "there are 40 packets"
def tr_exi (k : Nat) : Nat × Nat × Nat := match k with
  | 0 => (296, 298, 300)
  | 1 => (303, 305, 307)
  | _ => (308, 310, 312)
def tr_sidx : List (Nat × Nat × Nat) := [(4, 51, 0), (4, 70, 1), (4, 76, 2), (4, 81, 3), (4, 86, 4), (4, 91, 5), (4, 93, 6), (4, 95, 7), (8, 178, 1), (8, 187, 2), (8, 192, 3), (8, 197, 4), (8, 202, 5), (8, 204, 6), (8, 206, 7), (8, 215, 0)]
def tr_tys (E : tr_Env) : List (ClassId × FieldType) := [(eA E 0, .int), (eA E 1, .byte), (eA E 2, .boolean), (eA E 3, .long), (eA E 4, .object RX6), (eA E 5, .object RX3)]
def tr_aty (k : Nat) : FieldType := match k with
  | 0 => .int
  | 1 => .byte
  | 2 => .boolean
  | 3 => .long
  | 4 => .object RX6
  | _ => .object RX3
def tr_ty (c : Nat) : Nat → FieldType := match c with
  | 0 => tyX0
  | 1 => tyX1
  | 2 => tyX2
  | 3 => tyX3
  | 4 => tyX4
  | 5 => tyX5
  | 6 => tyX6
  | 7 => tyX7
  | _ => tyX8
def tr_fv (ty : FieldType) (x : Int32) (y : Int64) (r : Nat) : Value := match ty with
  | .long => .long y
  | .object _ => va_rf (tr_o r)
  | .array _ => va_rf (tr_o r)
  | _ => .int x
def tr_ev (k : Nat) (x : Int32) (y : Int64) (r : Nat) : Value := match k with
  | 3 => .long y
  | 4 => va_rf (tr_o r)
  | 5 => va_rf (tr_o r)
  | _ => .int x
def tr_Str (E : tr_Env) (r n : Nat) (f : Nat → Int32) : Prop := ∃ v, va_O "java/lang/String" r (eO E) (eS E) (eS E).heap ∧ va_OF "java/lang/String" "coder" "B" (.int 0) r (eO E) (eS E) (eS E).heap ∧ va_OF "java/lang/String" "value" "[B" (.ref v) r (eO E) (eS E) (eS E).heap ∧ va_T .byte v n (fun j => .int (f j)) (eO E) (eS E) (eS E).heap ∧ n ≤ 1000 ∧ ∀ j, j < n → ∃ k : Fin 128, f j = ii (k.val : Nat)
def tr_cell (E : tr_Env) (h : tr_H) (H : Heap) (r : Nat) : Prop :=
  (ht h (r + 1) ≠ 0 → r < H.size) ∧
  (∀ (c : Nat) (q : vw_C), ht h (r + 1) = c + 1 → vwCl[c]? = some q → elo E ≤ r ∧ t_OB r ((eD E).1 c) q.2.2 ((eD E).2 c) H (fun k => tr_fv (tr_ty c k) (hI h (r + 1) k) (hJ h (r + 1) k) (hR h (r + 1) k))) ∧
  (∀ k, k < 6 → ht h (r + 1) = k + 11 → elo E ≤ r ∧ H[r]? = some (arrV (eA E k) (hn h (r + 1)) (fun j => tr_ev k (hI h (r + 1) j) (hJ h (r + 1) j) (hR h (r + 1) j)))) ∧
  (ht h (r + 1) = 17 → r = eb E ∧ hn h (r + 1) = eN E ∧ ∀ j, j < eN E → hI h (r + 1) j = eX E j) ∧
  (ht h (r + 1) = 18 → tr_Str E r (hn h (r + 1)) (hI h (r + 1)))
def tr_Rep (E : tr_Env) (h : tr_H) (H : Heap) : Prop := ht h 0 = 0 ∧ (elo E ≤ H.size ∧ ∀ q, q < elo E → H[q]? = (eS E).heap[q]?) ∧ (∀ r, tr_cell E h H r) ∧ ∀ j, j < 8 → tr_tx h (eT E j) (tr_txt j)
/-- the statics that the texts' own methods read -/
def tr_sok (E : tr_Env) : Prop := va_Z "java/lang/String" "COMPACT_STRINGS" "Z" (.int 1) (eO E) (eS E) (eS E).heap ∧ va_Zq "jdk/internal/util/Preconditions" "SIOOBE_FORMATTER" "Ljava/util/function/BiFunction;" (eO E) (eS E) (eS E).heap
/-- what holds of the surroundings -/
def tr_ok (E : tr_Env) : Prop := (eL E).stackTraces = false ∧ va_K (eD E) vwCl (tr_tys E) (eS E) ∧ va_X (eb E) (eN E) (eX E) (eS E) (eS E).heap ∧ eb E < elo E ∧ eN E < 2 ^ 31 ∧
  vx_Zq Bundle.tN "UNASSIGNED_STACK" Bundle.steD (eO E) (eS E) (eS E).heap ∧ vx_Zq Bundle.tN "SUPPRESSED_SENTINEL" Bundle.listD (eO E) (eS E) (eS E).heap ∧ (∀ w ∈ lw_tbl, w.before #[Value.ref (eb E)] (eS E) = true) ∧
  (∀ k, k < 3 → ∃ a, vk_R RX7 (tr_exi k).2.1 (tr_exm k) a (eS E)) ∧ (∀ q ∈ tr_sidx, ∃ a, eT E q.2.2 = a + 1 ∧ vk_R (tr_R q.1) q.2.1 (tr_ts q.2.2) a (eS E)) ∧ (∀ k x, tr_np k x = true → va_Nc (tr_ex k) (tr_ex x) (eS E)) ∧ tr_sok E
def tr_Cx (E : tr_Env) (M : tr_MI) (p : Program) (s : State) (m : MethodId) (args : Array Value) (meth : Method) (c : Code) : Prop :=
  p.tables.exec = Jvm.exec ∧ c.code = mB M ∧ c.maxLocals = mL M ∧ s.vm.findClass (mY M).cls = some m.cls ∧ (∀ w ∈ tr_LW, w.before args s = true) ∧ (eS E).WarmedH s.vm ∧ meth.sig.returnType = mR M ∧ meth.locks = false ∧ meth.name = (mY M).name ∧ c.exceptionTable.toList = tableOf (mH M) ∧ (elo E ≤ s.heap.size ∧ ∀ q, q < elo E → s.heap[q]? = (eS E).heap[q]?)
def tr_al (lv : tr_L) : List (Nat × Value) := (List.range lv.length).filterMap (fun i => (lvg lv i).map (fun v => (i, tr_cv v)))
theorem tr_al_mem {lv : tr_L} {i : Nat} {w : Value} : (i, w) ∈ tr_al lv ↔ ∃ v, lvg lv i = some v ∧ tr_cv v = w := by
  unfold tr_al
  rw [List.mem_filterMap]
  constructor
  · rintro ⟨j, -, hj⟩
    cases hv : lvg lv j with
    | none => rw [hv] at hj; cases hj
    | some v =>
      rw [hv] at hj
      simp only [Option.map_some, Option.some.injEq, Prod.mk.injEq] at hj
      obtain ⟨rfl, rfl⟩ := hj
      exact ⟨v, hv, rfl⟩
  · rintro ⟨v, hv, rfl⟩
    refine ⟨i, ?_, by rw [hv]; rfl⟩
    rw [List.mem_range]
    rcases Nat.lt_or_ge i lv.length with h | h
    · exact h
    · unfold lvg at hv
      rw [List.getD_eq_getElem?_getD, List.getElem?_eq_none h] at hv
      cases hv
theorem tr_al_at {ls : Array Slot} {n : Nat} {lv : tr_L} (hl : lv_has ls n (tr_al lv)) {i : Nat} {v : tr_V} (hv : lvg lv i = some v) : ls[i]? = some (.val (tr_cv v)) :=
  hl.2.2 (i, tr_cv v) (tr_al_mem.mpr ⟨v, hv, rfl⟩)
theorem tr_lv_mono {ls : Array Slot} {n : Nat} {l l' : List (Nat × Value)} (h : lv_has ls n l) (hs : ∀ q ∈ l', q ∈ l) : lv_has ls n l' := ⟨h.1, h.2.1, fun q hq => h.2.2 q (hs q hq)⟩
theorem tr_cat (v : tr_V) : (tr_cv v).category = 2 ↔ isJ (some v) = true := by
  rcases v with x | x | x
  · simp [tr_cv, isJ, Value.category]
  · simp [tr_cv, isJ, Value.category]
  · cases x <;> simp [tr_cv, tr_o, va_rf, isJ, Value.category]
theorem tr_cat1 (x : Nat) : (tr_cv (.inr (.inr x))).category = 1 := by cases x <;> rfl
theorem lvg_set {lv : tr_L} {k j : Nat} {v : Option tr_V} {u : tr_V} (h : lvg (lv.set k v) j = some u) : (j = k ∧ v = some u) ∨ (j ≠ k ∧ lvg lv j = some u) := by
  unfold lvg at h ⊢
  rw [List.getD_eq_getElem?_getD] at h ⊢
  by_cases hj : j = k
  · subst hj
    rcases Nat.lt_or_ge j lv.length with hl | hl
    · rw [List.getElem?_set_self hl] at h
      exact Or.inl ⟨rfl, h⟩
    · rw [List.getElem?_eq_none (by simpa using hl)] at h
      cases h
  · rw [List.getElem?_set_ne (Ne.symm hj)] at h
    exact Or.inr ⟨hj, h⟩
theorem lvs1_get {lv : tr_L} {k j : Nat} {v u : tr_V} (h : lvg (lvs1 lv k v) j = some u) : (j = k ∧ v = u) ∨ (j ≠ k ∧ lvg lv j = some u ∧ ¬ (j + 1 = k ∧ isJ (some u) = true)) := by
  cases k with
  | zero =>
    rcases lvg_set h with ⟨rfl, h1⟩ | ⟨h1, h2⟩
    · exact Or.inl ⟨rfl, Option.some.inj h1⟩
    · exact Or.inr ⟨h1, h2, fun q => by omega⟩
  | succ k =>
    rcases lvg_set h with ⟨rfl, h1⟩ | ⟨h1, h2⟩
    · exact Or.inl ⟨rfl, Option.some.inj h1⟩
    · refine Or.inr ⟨h1, ?_⟩
      by_cases hJ : isJ (lvg lv k) = true
      · rw [if_pos hJ] at h2
        rcases lvg_set h2 with ⟨-, h3⟩ | ⟨h3, h4⟩
        · cases h3
        · exact ⟨h4, fun q => h3 (by omega)⟩
      · rw [if_neg hJ] at h2
        refine ⟨h2, fun q => hJ ?_⟩
        have : j = k := by omega
        subst this
        rw [h2]
        exact q.2
theorem tr_al_st1 {lv : tr_L} {k : Nat} {v : tr_V} : ∀ q ∈ tr_al (lvs1 lv k v), q ∈ (k, tr_cv v) :: (tr_al lv).filter (fun q => !(q.1 == k) && !(q.1 + 1 == k && q.2.category == 2)) := by
  rintro ⟨j, w⟩ hq
  obtain ⟨u, hu, rfl⟩ := tr_al_mem.mp hq
  rcases lvs1_get hu with ⟨rfl, rfl⟩ | ⟨h1, h2, h3⟩
  · exact List.mem_cons_self
  · refine List.mem_cons_of_mem _ (List.mem_filter.mpr ⟨tr_al_mem.mpr ⟨u, h2, rfl⟩, ?_⟩)
    simp only [Bool.and_eq_true, Bool.not_eq_true', beq_eq_false_iff_ne, ne_eq, Bool.and_eq_false_iff]
    refine ⟨h1, ?_⟩
    by_cases h4 : j + 1 = k
    · right
      intro h5
      exact h3 ⟨h4, (tr_cat u).mp h5⟩
    · exact Or.inl h4
theorem tr_al_st2 {lv : tr_L} {k : Nat} {v : tr_V} : ∀ q ∈ tr_al (lvs2 lv k v), q ∈ (k, tr_cv v) :: (tr_al lv).filter (fun q => !(q.1 == k) && (!(q.1 == k + 1) && !(q.1 + 1 == k && q.2.category == 2))) := by
  rintro ⟨j, w⟩ hq
  obtain ⟨u, hu, rfl⟩ := tr_al_mem.mp hq
  rcases lvg_set hu with ⟨-, h0⟩ | ⟨h0, hu⟩
  · cases h0
  · rcases lvs1_get hu with ⟨rfl, rfl⟩ | ⟨h1, h2, h3⟩
    · exact List.mem_cons_self
    · refine List.mem_cons_of_mem _ (List.mem_filter.mpr ⟨tr_al_mem.mpr ⟨u, h2, rfl⟩, ?_⟩)
      simp only [Bool.and_eq_true, Bool.not_eq_true', beq_eq_false_iff_ne, ne_eq, Bool.and_eq_false_iff]
      refine ⟨h1, h0, ?_⟩
      by_cases h4 : j + 1 = k
      · right
        intro h5
        exact h3 ⟨h4, (tr_cat u).mp h5⟩
      · exact Or.inl h4
theorem lvp_get : ∀ (bs : List Bool) (lv : tr_L) (j : Nat) (u : tr_V), lvg (lvp bs lv) j = some u → lvg lv j = some u
  | [], _, _, _, h => by simp [lvp, lvg] at h
  | true :: bs, [], _, _, h => by simp [lvp, lvg] at h
  | false :: bs, [], _, _, h => by simp [lvp, lvg] at h
  | true :: bs, v :: lv, 0, u, h => h
  | true :: bs, v :: lv, j + 1, u, h => lvp_get bs lv j u h
  | false :: bs, v :: lv, 0, u, h => by simp [lvp, lvg] at h
  | false :: bs, v :: lv, j + 1, u, h => lvp_get bs lv j u h
theorem tr_al_lvp {bs : List Bool} {lv : tr_L} : ∀ q ∈ tr_al (lvp bs lv), q ∈ tr_al lv := by
  rintro ⟨j, w⟩ hq
  obtain ⟨u, hu, rfl⟩ := tr_al_mem.mp hq
  exact tr_al_mem.mpr ⟨u, lvp_get bs lv j u hu, rfl⟩
/-- the machine, at a place of the method M, with limits of cells and slots, comes to the end Z -/
def tr_W (E : tr_Env) (M : tr_MI) (R : Room) (lc lz : Nat) (Z : List Frame → Array Value → State → State → Prop) (pc : Nat) (lv : tr_L) (st : List tr_V) (h : tr_H) (rc rs : Nat) : Prop :=
  ∀ (p : Program) (e : Env) (s : State) (m : MethodId) (args : Array Value) (below : List Frame) (meth : Method) (c : Code) (H : Heap) (locs : List Loc) (cells slots : Nat) (ls : Array Slot),
    tr_Cx E M p s m args meth c → tr_Rep E h H → va_S (eO E) s.heap H locs → lv_has ls (mL M) (tr_al lv) → cells + rc ≤ lc → slots + rs ≤ lz →
    W p (eL E) e R s m args below meth c H locs cells slots (Z below args s) (F0 m pc ls (st.map tr_cv))
section TRR
variable {E : tr_Env} {M : tr_MI} {R : Room} {lc lz : Nat} {Z : List Frame → Array Value → State → State → Prop} {pc : Nat} {lv : tr_L} {st : List tr_V} {h : tr_H} {rc rs : Nat}
theorem tr_weak {bs : List Bool} (k : tr_W E M R lc lz Z pc (lvp bs lv) st h rc rs) : tr_W E M R lc lz Z pc lv st h rc rs := by
  intro p e s m args below meth c H locs cells slots ls Cx Rp hS hl hc hs
  exact k p e s m args below meth c H locs cells slots ls Cx Rp hS (tr_lv_mono hl tr_al_lvp) hc hs
theorem tr_ii0 : ii 0 = 0 := by unfold ii; first | rfl | decide
theorem tr_jj0 : jj 0 = 0 := by unfold jj; first | rfl | decide
theorem tr_jjN (n : Nat) : jj (n : Nat) = Int64.ofNat n := by unfold jj; first | rfl | exact Int64.ofInt_eq_ofNat | simp
theorem tr_iiN (n : Nat) : ii (n : Nat) = Int32.ofNat n := by unfold ii; first | rfl | exact Int32.ofInt_eq_ofNat | simp
theorem tr_nlt {a b : Int32} (h : b ≤ a) : ¬ a < b := by rw [Int32.lt_iff_toInt_lt]; rw [Int32.le_iff_toInt_le] at h; omega
theorem tr_nle {a b : Int32} (h : b < a) : ¬ a ≤ b := by rw [Int32.le_iff_toInt_le]; rw [Int32.lt_iff_toInt_lt] at h; omega
theorem tr_ltn {a b : Int32} (h : ¬ b ≤ a) : a < b := by rw [Int32.lt_iff_toInt_lt]; rw [Int32.le_iff_toInt_le] at h; omega
theorem tr_len {a b : Int32} (h : ¬ b < a) : a ≤ b := by rw [Int32.le_iff_toInt_le]; rw [Int32.lt_iff_toInt_lt] at h; omega
theorem tr_r_iadd {x y : Int32} (hd : decode (mB M) pc = .ok (.iadd, 1)) (k : tr_W E M R lc lz Z (pc + 1) lv (.inl (x + y) :: st) h rc rs) : tr_W E M R lc lz Z pc lv (.inl y :: .inl x :: st) h rc rs := by
  intro p e s m args below meth c H locs cells slots ls Cx Rp hS hl hc hs
  exact lv_iadd Cx.1 Cx.2.1 hd (k p e s m args below meth c H locs cells slots ls Cx Rp hS hl hc hs)
theorem tr_r_isub {x y : Int32} (hd : decode (mB M) pc = .ok (.isub, 1)) (k : tr_W E M R lc lz Z (pc + 1) lv (.inl (x - y) :: st) h rc rs) : tr_W E M R lc lz Z pc lv (.inl y :: .inl x :: st) h rc rs := by
  intro p e s m args below meth c H locs cells slots ls Cx Rp hS hl hc hs
  exact lv_isub Cx.1 Cx.2.1 hd (k p e s m args below meth c H locs cells slots ls Cx Rp hS hl hc hs)
theorem tr_r_imul {x y : Int32} (hd : decode (mB M) pc = .ok (.imul, 1)) (k : tr_W E M R lc lz Z (pc + 1) lv (.inl (x * y) :: st) h rc rs) : tr_W E M R lc lz Z pc lv (.inl y :: .inl x :: st) h rc rs := by
  intro p e s m args below meth c H locs cells slots ls Cx Rp hS hl hc hs
  exact lv_imul Cx.1 Cx.2.1 hd (k p e s m args below meth c H locs cells slots ls Cx Rp hS hl hc hs)
theorem tr_r_iand {x y : Int32} (hd : decode (mB M) pc = .ok (.iand, 1)) (k : tr_W E M R lc lz Z (pc + 1) lv (.inl (x &&& y) :: st) h rc rs) : tr_W E M R lc lz Z pc lv (.inl y :: .inl x :: st) h rc rs := by
  intro p e s m args below meth c H locs cells slots ls Cx Rp hS hl hc hs
  exact lv_iand Cx.1 Cx.2.1 hd (k p e s m args below meth c H locs cells slots ls Cx Rp hS hl hc hs)
theorem tr_r_ior {x y : Int32} (hd : decode (mB M) pc = .ok (.ior, 1)) (k : tr_W E M R lc lz Z (pc + 1) lv (.inl (x ||| y) :: st) h rc rs) : tr_W E M R lc lz Z pc lv (.inl y :: .inl x :: st) h rc rs := by
  intro p e s m args below meth c H locs cells slots ls Cx Rp hS hl hc hs
  exact lv_ior Cx.1 Cx.2.1 hd (k p e s m args below meth c H locs cells slots ls Cx Rp hS hl hc hs)
theorem tr_r_ixor {x y : Int32} (hd : decode (mB M) pc = .ok (.ixor, 1)) (k : tr_W E M R lc lz Z (pc + 1) lv (.inl (x ^^^ y) :: st) h rc rs) : tr_W E M R lc lz Z pc lv (.inl y :: .inl x :: st) h rc rs := by
  intro p e s m args below meth c H locs cells slots ls Cx Rp hS hl hc hs
  exact lv_ixor Cx.1 Cx.2.1 hd (k p e s m args below meth c H locs cells slots ls Cx Rp hS hl hc hs)
theorem tr_r_ishl {x y : Int32} (hd : decode (mB M) pc = .ok (.ishl, 1)) (k : tr_W E M R lc lz Z (pc + 1) lv (.inl (x <<< (y &&& 31)) :: st) h rc rs) : tr_W E M R lc lz Z pc lv (.inl y :: .inl x :: st) h rc rs := by
  intro p e s m args below meth c H locs cells slots ls Cx Rp hS hl hc hs
  exact lv_ishl Cx.1 Cx.2.1 hd (k p e s m args below meth c H locs cells slots ls Cx Rp hS hl hc hs)
theorem tr_r_ishr {x y : Int32} (hd : decode (mB M) pc = .ok (.ishr, 1)) (k : tr_W E M R lc lz Z (pc + 1) lv (.inl (x >>> (y &&& 31)) :: st) h rc rs) : tr_W E M R lc lz Z pc lv (.inl y :: .inl x :: st) h rc rs := by
  intro p e s m args below meth c H locs cells slots ls Cx Rp hS hl hc hs
  exact lv_ishr Cx.1 Cx.2.1 hd (k p e s m args below meth c H locs cells slots ls Cx Rp hS hl hc hs)
theorem tr_r_ladd {x y : Int64} (hd : decode (mB M) pc = .ok (.ladd, 1)) (k : tr_W E M R lc lz Z (pc + 1) lv (.inr (.inl (x + y)) :: st) h rc rs) : tr_W E M R lc lz Z pc lv (.inr (.inl y) :: .inr (.inl x) :: st) h rc rs := by
  intro p e s m args below meth c H locs cells slots ls Cx Rp hS hl hc hs
  exact lv_ladd Cx.1 Cx.2.1 hd (k p e s m args below meth c H locs cells slots ls Cx Rp hS hl hc hs)
theorem tr_r_lsub {x y : Int64} (hd : decode (mB M) pc = .ok (.lsub, 1)) (k : tr_W E M R lc lz Z (pc + 1) lv (.inr (.inl (x - y)) :: st) h rc rs) : tr_W E M R lc lz Z pc lv (.inr (.inl y) :: .inr (.inl x) :: st) h rc rs := by
  intro p e s m args below meth c H locs cells slots ls Cx Rp hS hl hc hs
  exact lv_lsub Cx.1 Cx.2.1 hd (k p e s m args below meth c H locs cells slots ls Cx Rp hS hl hc hs)
theorem tr_r_lmul {x y : Int64} (hd : decode (mB M) pc = .ok (.lmul, 1)) (k : tr_W E M R lc lz Z (pc + 1) lv (.inr (.inl (x * y)) :: st) h rc rs) : tr_W E M R lc lz Z pc lv (.inr (.inl y) :: .inr (.inl x) :: st) h rc rs := by
  intro p e s m args below meth c H locs cells slots ls Cx Rp hS hl hc hs
  exact lv_lmul Cx.1 Cx.2.1 hd (k p e s m args below meth c H locs cells slots ls Cx Rp hS hl hc hs)
theorem tr_r_irem {x y : Int32} (hd : decode (mB M) pc = .ok (.irem, 1)) (hy : ¬ y = ii 0) (k : tr_W E M R lc lz Z (pc + 1) lv (.inl (tr_rem x y) :: st) h rc rs) : tr_W E M R lc lz Z pc lv (.inl y :: .inl x :: st) h rc rs := by
  intro p e s m args below meth c H locs cells slots ls Cx Rp hS hl hc hs
  exact lv_irem Cx.1 Cx.2.1 hd (fun q => hy (q.trans tr_ii0.symm)) (k p e s m args below meth c H locs cells slots ls Cx Rp hS hl hc hs)
theorem tr_r_ldiv {x y : Int64} (hd : decode (mB M) pc = .ok (.ldiv, 1)) (hy : ¬ y = jj 0) (k : tr_W E M R lc lz Z (pc + 1) lv (.inr (.inl (x / y)) :: st) h rc rs) : tr_W E M R lc lz Z pc lv (.inr (.inl y) :: .inr (.inl x) :: st) h rc rs := by
  intro p e s m args below meth c H locs cells slots ls Cx Rp hS hl hc hs
  exact lv_ldiv Cx.1 Cx.2.1 hd (fun q => hy (q.trans tr_jj0.symm)) (k p e s m args below meth c H locs cells slots ls Cx Rp hS hl hc hs)
theorem tr_r_lrem {x y : Int64} (hd : decode (mB M) pc = .ok (.lrem, 1)) (hy : ¬ y = jj 0) (k : tr_W E M R lc lz Z (pc + 1) lv (.inr (.inl (tr_lrem x y)) :: st) h rc rs) : tr_W E M R lc lz Z pc lv (.inr (.inl y) :: .inr (.inl x) :: st) h rc rs := by
  intro p e s m args below meth c H locs cells slots ls Cx Rp hS hl hc hs
  exact lv_lrem Cx.1 Cx.2.1 hd (fun q => hy (q.trans tr_jj0.symm)) (k p e s m args below meth c H locs cells slots ls Cx Rp hS hl hc hs)
theorem tr_r_lcmp {x y : Int64} (hd : decode (mB M) pc = .ok (.lcmp, 1)) (k : tr_W E M R lc lz Z (pc + 1) lv (.inl (lg_cmp x y) :: st) h rc rs) : tr_W E M R lc lz Z pc lv (.inr (.inl y) :: .inr (.inl x) :: st) h rc rs := by
  intro p e s m args below meth c H locs cells slots ls Cx Rp hS hl hc hs
  exact W.lcmp Cx.1 Cx.2.1 hd (k p e s m args below meth c H locs cells slots ls Cx Rp hS hl hc hs)
theorem tr_r_i2l {x : Int32} (hd : decode (mB M) pc = .ok (.i2l, 1)) (k : tr_W E M R lc lz Z (pc + 1) lv (.inr (.inl x.toInt64) :: st) h rc rs) : tr_W E M R lc lz Z pc lv (.inl x :: st) h rc rs := by
  intro p e s m args below meth c H locs cells slots ls Cx Rp hS hl hc hs
  exact lv_i2l Cx.1 Cx.2.1 hd rfl (k p e s m args below meth c H locs cells slots ls Cx Rp hS hl hc hs)
theorem tr_r_i2b {x : Int32} (hd : decode (mB M) pc = .ok (.i2b, 1)) (k : tr_W E M R lc lz Z (pc + 1) lv (.inl (tr_by x) :: st) h rc rs) : tr_W E M R lc lz Z pc lv (.inl x :: st) h rc rs := by
  intro p e s m args below meth c H locs cells slots ls Cx Rp hS hl hc hs
  exact lv_i2b Cx.1 Cx.2.1 hd (vp_nar_byte x).symm (k p e s m args below meth c H locs cells slots ls Cx Rp hS hl hc hs)
theorem tr_r_iconst {n : Int} (hd : decode (mB M) pc = .ok (.iconst n, 1)) (k : tr_W E M R lc lz Z (pc + 1) lv (.inl (ii n) :: st) h rc rs) : tr_W E M R lc lz Z pc lv st h rc rs := by
  intro p e s m args below meth c H locs cells slots ls Cx Rp hS hl hc hs
  exact lv_iconst Cx.1 Cx.2.1 hd rfl (k p e s m args below meth c H locs cells slots ls Cx Rp hS hl hc hs)
theorem tr_r_bipush {n : Int} (hd : decode (mB M) pc = .ok (.bipush n, 2)) (hv : (Int8.ofInt n).toInt32 = ii n) (k : tr_W E M R lc lz Z (pc + 2) lv (.inl (ii n) :: st) h rc rs) : tr_W E M R lc lz Z pc lv st h rc rs := by
  intro p e s m args below meth c H locs cells slots ls Cx Rp hS hl hc hs
  exact lv_bipush Cx.1 Cx.2.1 hd hv (k p e s m args below meth c H locs cells slots ls Cx Rp hS hl hc hs)
theorem tr_r_sipush {n : Int} (hd : decode (mB M) pc = .ok (.sipush n, 3)) (hv : (Int16.ofInt n).toInt32 = ii n) (k : tr_W E M R lc lz Z (pc + 3) lv (.inl (ii n) :: st) h rc rs) : tr_W E M R lc lz Z pc lv st h rc rs := by
  intro p e s m args below meth c H locs cells slots ls Cx Rp hS hl hc hs
  exact lv_sipush Cx.1 Cx.2.1 hd hv (k p e s m args below meth c H locs cells slots ls Cx Rp hS hl hc hs)
theorem tr_r_lconst {n : Fin 2} (hd : decode (mB M) pc = .ok (.lconst n, 1)) (k : tr_W E M R lc lz Z (pc + 1) lv (.inr (.inl (jj (n.val : Nat))) :: st) h rc rs) : tr_W E M R lc lz Z pc lv st h rc rs := by
  intro p e s m args below meth c H locs cells slots ls Cx Rp hS hl hc hs
  exact lv_lconst Cx.1 Cx.2.1 hd (tr_jjN n.val).symm (k p e s m args below meth c H locs cells slots ls Cx Rp hS hl hc hs)
theorem tr_r_dupI {x : Int32} (hd : decode (mB M) pc = .ok (.dup, 1)) (k : tr_W E M R lc lz Z (pc + 1) lv (.inl x :: .inl x :: st) h rc rs) : tr_W E M R lc lz Z pc lv (.inl x :: st) h rc rs := by
  intro p e s m args below meth c H locs cells slots ls Cx Rp hS hl hc hs
  exact lv_dup Cx.1 Cx.2.1 hd rfl (k p e s m args below meth c H locs cells slots ls Cx Rp hS hl hc hs)
theorem tr_r_dupR {x : Nat} (hd : decode (mB M) pc = .ok (.dup, 1)) (k : tr_W E M R lc lz Z (pc + 1) lv (.inr (.inr x) :: .inr (.inr x) :: st) h rc rs) : tr_W E M R lc lz Z pc lv (.inr (.inr x) :: st) h rc rs := by
  intro p e s m args below meth c H locs cells slots ls Cx Rp hS hl hc hs
  exact lv_dup Cx.1 Cx.2.1 hd (tr_cat1 x) (k p e s m args below meth c H locs cells slots ls Cx Rp hS hl hc hs)
theorem tr_r_dup2 {x : Int32} {y : Nat} (hd : decode (mB M) pc = .ok (.dup2, 1)) (k : tr_W E M R lc lz Z (pc + 1) lv (.inl x :: .inr (.inr y) :: .inl x :: .inr (.inr y) :: st) h rc rs) : tr_W E M R lc lz Z pc lv (.inl x :: .inr (.inr y) :: st) h rc rs := by
  intro p e s m args below meth c H locs cells slots ls Cx Rp hS hl hc hs
  exact lv_dup2_11 Cx.1 Cx.2.1 hd rfl (tr_cat1 y) (k p e s m args below meth c H locs cells slots ls Cx Rp hS hl hc hs)
theorem tr_r_popI {x : Int32} (hd : decode (mB M) pc = .ok (.pop, 1)) (k : tr_W E M R lc lz Z (pc + 1) lv st h rc rs) : tr_W E M R lc lz Z pc lv (.inl x :: st) h rc rs := by
  intro p e s m args below meth c H locs cells slots ls Cx Rp hS hl hc hs
  exact lv_pop (va := tr_cv (.inl x)) Cx.1 Cx.2.1 hd rfl (k p e s m args below meth c H locs cells slots ls Cx Rp hS hl hc hs)
theorem tr_r_popR {x : Nat} (hd : decode (mB M) pc = .ok (.pop, 1)) (k : tr_W E M R lc lz Z (pc + 1) lv st h rc rs) : tr_W E M R lc lz Z pc lv (.inr (.inr x) :: st) h rc rs := by
  intro p e s m args below meth c H locs cells slots ls Cx Rp hS hl hc hs
  exact lv_pop (va := tr_cv (.inr (.inr x))) Cx.1 Cx.2.1 hd (tr_cat1 x) (k p e s m args below meth c H locs cells slots ls Cx Rp hS hl hc hs)
theorem tr_r_iload {k : Nat} {x : Int32} (hd : decode (mB M) pc = .ok (.iload k, 2)) (hv : lvg lv k = some (.inl x)) (k : tr_W E M R lc lz Z (pc + 2) lv (.inl x :: st) h rc rs) : tr_W E M R lc lz Z pc lv st h rc rs := by
  intro p e s m args below meth c H locs cells slots ls Cx Rp hS hl hc hs
  exact lv_iload Cx.1 Cx.2.1 hd (tr_al_at hl hv) (k p e s m args below meth c H locs cells slots ls Cx Rp hS hl hc hs)
theorem tr_r_iload_n {k : Fin 4} {x : Int32} (hd : decode (mB M) pc = .ok (.iload_n k, 1)) (hv : lvg lv k.val = some (.inl x)) (k : tr_W E M R lc lz Z (pc + 1) lv (.inl x :: st) h rc rs) : tr_W E M R lc lz Z pc lv st h rc rs := by
  intro p e s m args below meth c H locs cells slots ls Cx Rp hS hl hc hs
  exact lv_iload_n Cx.1 Cx.2.1 hd rfl (tr_al_at hl hv) (k p e s m args below meth c H locs cells slots ls Cx Rp hS hl hc hs)
theorem tr_r_lload {k : Nat} {x : Int64} (hd : decode (mB M) pc = .ok (.lload k, 2)) (hv : lvg lv k = some (.inr (.inl x))) (k : tr_W E M R lc lz Z (pc + 2) lv (.inr (.inl x) :: st) h rc rs) : tr_W E M R lc lz Z pc lv st h rc rs := by
  intro p e s m args below meth c H locs cells slots ls Cx Rp hS hl hc hs
  exact lv_lload Cx.1 Cx.2.1 hd (tr_al_at hl hv) (k p e s m args below meth c H locs cells slots ls Cx Rp hS hl hc hs)
theorem tr_r_lload_n {k : Fin 4} {x : Int64} (hd : decode (mB M) pc = .ok (.lload_n k, 1)) (hv : lvg lv k.val = some (.inr (.inl x))) (k : tr_W E M R lc lz Z (pc + 1) lv (.inr (.inl x) :: st) h rc rs) : tr_W E M R lc lz Z pc lv st h rc rs := by
  intro p e s m args below meth c H locs cells slots ls Cx Rp hS hl hc hs
  exact lv_lload_n Cx.1 Cx.2.1 hd rfl (tr_al_at hl hv) (k p e s m args below meth c H locs cells slots ls Cx Rp hS hl hc hs)
theorem tr_r_aload {k : Nat} {r : Nat} (hd : decode (mB M) pc = .ok (.aload k, 2)) (hv : lvg lv k = some (.inr (.inr r))) (k : tr_W E M R lc lz Z (pc + 2) lv (.inr (.inr r) :: st) h rc rs) : tr_W E M R lc lz Z pc lv st h rc rs := by
  intro p e s m args below meth c H locs cells slots ls Cx Rp hS hl hc hs
  have hq := tr_al_at hl hv
  cases r with
  | zero => exact lv_aloadN Cx.1 Cx.2.1 hd hq (k p e s m args below meth c H locs cells slots ls Cx Rp hS hl hc hs)
  | succ a => exact lv_aload Cx.1 Cx.2.1 hd hq (k p e s m args below meth c H locs cells slots ls Cx Rp hS hl hc hs)
theorem tr_r_aload_n {k : Fin 4} {r : Nat} (hd : decode (mB M) pc = .ok (.aload_n k, 1)) (hv : lvg lv k.val = some (.inr (.inr r))) (k : tr_W E M R lc lz Z (pc + 1) lv (.inr (.inr r) :: st) h rc rs) : tr_W E M R lc lz Z pc lv st h rc rs := by
  intro p e s m args below meth c H locs cells slots ls Cx Rp hS hl hc hs
  have hq := tr_al_at hl hv
  cases r with
  | zero => exact lv_aload_nN Cx.1 Cx.2.1 hd rfl hq (k p e s m args below meth c H locs cells slots ls Cx Rp hS hl hc hs)
  | succ a => exact lv_aload_n Cx.1 Cx.2.1 hd rfl hq (k p e s m args below meth c H locs cells slots ls Cx Rp hS hl hc hs)
theorem tr_r_istore {k : Nat} {x : Int32} (hd : decode (mB M) pc = .ok (.istore k, 2)) (hk : k < mL M) (k : tr_W E M R lc lz Z (pc + 2) (lvs1 lv k (.inl x)) st h rc rs) : tr_W E M R lc lz Z pc lv (.inl x :: st) h rc rs := by
  intro p e s m args below meth c H locs cells slots ls Cx Rp hS hl hc hs
  exact lv_istore Cx.1 Cx.2.1 hd hl hk rfl (fun ls2 hl2 => k p e s m args below meth c H locs cells slots ls2 Cx Rp hS (tr_lv_mono hl2 tr_al_st1) hc hs)
theorem tr_r_istore_n {k : Fin 4} {x : Int32} (hd : decode (mB M) pc = .ok (.istore_n k, 1)) (hk : k.val < mL M) (k : tr_W E M R lc lz Z (pc + 1) (lvs1 lv k.val (.inl x)) st h rc rs) : tr_W E M R lc lz Z pc lv (.inl x :: st) h rc rs := by
  intro p e s m args below meth c H locs cells slots ls Cx Rp hS hl hc hs
  exact lv_istore_n Cx.1 Cx.2.1 hd rfl hl hk rfl (fun ls2 hl2 => k p e s m args below meth c H locs cells slots ls2 Cx Rp hS (tr_lv_mono hl2 tr_al_st1) hc hs)
theorem tr_r_lstore {k : Nat} {x : Int64} (hd : decode (mB M) pc = .ok (.lstore k, 2)) (hk : k + 1 < mL M) (k : tr_W E M R lc lz Z (pc + 2) (lvs2 lv k (.inr (.inl x))) st h rc rs) : tr_W E M R lc lz Z pc lv (.inr (.inl x) :: st) h rc rs := by
  intro p e s m args below meth c H locs cells slots ls Cx Rp hS hl hc hs
  exact lv_lstore Cx.1 Cx.2.1 hd hl hk rfl (fun ls2 hl2 => k p e s m args below meth c H locs cells slots ls2 Cx Rp hS (tr_lv_mono hl2 tr_al_st2) hc hs)
theorem tr_r_lstore_n {k : Fin 4} {x : Int64} (hd : decode (mB M) pc = .ok (.lstore_n k, 1)) (hk : k.val + 1 < mL M) (k : tr_W E M R lc lz Z (pc + 1) (lvs2 lv k.val (.inr (.inl x))) st h rc rs) : tr_W E M R lc lz Z pc lv (.inr (.inl x) :: st) h rc rs := by
  intro p e s m args below meth c H locs cells slots ls Cx Rp hS hl hc hs
  exact lv_lstore_n Cx.1 Cx.2.1 hd rfl hl hk rfl (fun ls2 hl2 => k p e s m args below meth c H locs cells slots ls2 Cx Rp hS (tr_lv_mono hl2 tr_al_st2) hc hs)
theorem tr_r_astore {k : Nat} {r : Nat} (hd : decode (mB M) pc = .ok (.astore k, 2)) (hk : k < mL M) (k : tr_W E M R lc lz Z (pc + 2) (lvs1 lv k (.inr (.inr r))) st h rc rs) : tr_W E M R lc lz Z pc lv (.inr (.inr r) :: st) h rc rs := by
  intro p e s m args below meth c H locs cells slots ls Cx Rp hS hl hc hs
  cases r with
  | zero => exact lv_astoreN Cx.1 Cx.2.1 hd hl hk rfl (fun ls2 hl2 => k p e s m args below meth c H locs cells slots ls2 Cx Rp hS (tr_lv_mono hl2 (tr_al_st1 (v := .inr (.inr 0)))) hc hs)
  | succ a => exact lv_astore Cx.1 Cx.2.1 hd hl hk rfl (fun ls2 hl2 => k p e s m args below meth c H locs cells slots ls2 Cx Rp hS (tr_lv_mono hl2 (tr_al_st1 (v := .inr (.inr (a + 1))))) hc hs)
theorem tr_r_astore_n {k : Fin 4} {r : Nat} (hd : decode (mB M) pc = .ok (.astore_n k, 1)) (hk : k.val < mL M) (k : tr_W E M R lc lz Z (pc + 1) (lvs1 lv k.val (.inr (.inr r))) st h rc rs) : tr_W E M R lc lz Z pc lv (.inr (.inr r) :: st) h rc rs := by
  intro p e s m args below meth c H locs cells slots ls Cx Rp hS hl hc hs
  cases r with
  | zero => exact lv_astore_nN Cx.1 Cx.2.1 hd rfl hl hk rfl (fun ls2 hl2 => k p e s m args below meth c H locs cells slots ls2 Cx Rp hS (tr_lv_mono hl2 (tr_al_st1 (v := .inr (.inr 0)))) hc hs)
  | succ a => exact lv_astore_n Cx.1 Cx.2.1 hd rfl hl hk rfl (fun ls2 hl2 => k p e s m args below meth c H locs cells slots ls2 Cx Rp hS (tr_lv_mono hl2 (tr_al_st1 (v := .inr (.inr (a + 1))))) hc hs)
theorem tr_r_iinc {k : Nat} {n : Int} {x : Int32} (hd : decode (mB M) pc = .ok (.iinc k n, 3)) (hk : k < mL M) (hv : lvg lv k = some (.inl x)) (kk : tr_W E M R lc lz Z (pc + 3) (lvs1 lv k (.inl (x + ii n))) st h rc rs) : tr_W E M R lc lz Z pc lv st h rc rs := by
  intro p e s m args below meth c H locs cells slots ls Cx Rp hS hl hc hs
  have hm : (k, Value.int x) ∈ tr_al lv := tr_al_mem.mpr ⟨_, hv, rfl⟩
  obtain ⟨j, hj⟩ := List.getElem?_of_mem hm
  exact lv_iinc (k := j) (v := x + ii n) Cx.1 Cx.2.1 hd hl hj rfl hk rfl (fun ls2 hl2 => kk p e s m args below meth c H locs cells slots ls2 Cx Rp hS (tr_lv_mono hl2 (tr_al_st1 (v := .inl (x + ii n)))) hc hs)
theorem tr_r_icmp_eq {x y : Int32} {off : Int} {tgt : Nat} (hd : decode (mB M) pc = .ok (.if_icmp .eq off, 3)) (ht : (pc : Int) + off = (tgt : Int)) (k1 : x = y → tr_W E M R lc lz Z tgt lv st h rc rs) (k2 : ¬ x = y → tr_W E M R lc lz Z (pc + 3) lv st h rc rs) : tr_W E M R lc lz Z pc lv (.inl y :: .inl x :: st) h rc rs := by
  intro p e s m args below meth c H locs cells slots ls Cx Rp hS hl hc hs
  refine lv_icmp_eq Cx.1 Cx.2.1 hd ht (fun q => ?_) (fun q => ?_)
  · first | exact (k1 q p e s m args below meth c H locs cells slots ls Cx Rp hS hl hc hs) | exact (k2 q p e s m args below meth c H locs cells slots ls Cx Rp hS hl hc hs) | exact (k2 (tr_nlt q) p e s m args below meth c H locs cells slots ls Cx Rp hS hl hc hs) | exact (k2 (tr_nle q) p e s m args below meth c H locs cells slots ls Cx Rp hS hl hc hs)
  · first | exact (k2 q p e s m args below meth c H locs cells slots ls Cx Rp hS hl hc hs) | exact (k1 (Decidable.not_not.mp q) p e s m args below meth c H locs cells slots ls Cx Rp hS hl hc hs) | exact (k1 q p e s m args below meth c H locs cells slots ls Cx Rp hS hl hc hs) | exact (k1 (tr_ltn q) p e s m args below meth c H locs cells slots ls Cx Rp hS hl hc hs) | exact (k1 (tr_len q) p e s m args below meth c H locs cells slots ls Cx Rp hS hl hc hs)
theorem tr_r_if_eq {x : Int32} {off : Int} {tgt : Nat} (hd : decode (mB M) pc = .ok (.ifCond .eq off, 3)) (ht : (pc : Int) + off = (tgt : Int)) (k1 : x = ii 0 → tr_W E M R lc lz Z tgt lv st h rc rs) (k2 : ¬ x = ii 0 → tr_W E M R lc lz Z (pc + 3) lv st h rc rs) : tr_W E M R lc lz Z pc lv (.inl x :: st) h rc rs := by
  intro p e s m args below meth c H locs cells slots ls Cx Rp hS hl hc hs
  rw [tr_ii0] at k1 k2
  refine lv_if_eq Cx.1 Cx.2.1 hd ht (fun q => ?_) (fun q => ?_)
  · first | exact (k1 q p e s m args below meth c H locs cells slots ls Cx Rp hS hl hc hs) | exact (k2 q p e s m args below meth c H locs cells slots ls Cx Rp hS hl hc hs) | exact (k2 (tr_nlt q) p e s m args below meth c H locs cells slots ls Cx Rp hS hl hc hs) | exact (k2 (tr_nle q) p e s m args below meth c H locs cells slots ls Cx Rp hS hl hc hs)
  · first | exact (k2 q p e s m args below meth c H locs cells slots ls Cx Rp hS hl hc hs) | exact (k1 (Decidable.not_not.mp q) p e s m args below meth c H locs cells slots ls Cx Rp hS hl hc hs) | exact (k1 q p e s m args below meth c H locs cells slots ls Cx Rp hS hl hc hs) | exact (k1 (tr_ltn q) p e s m args below meth c H locs cells slots ls Cx Rp hS hl hc hs) | exact (k1 (tr_len q) p e s m args below meth c H locs cells slots ls Cx Rp hS hl hc hs)
theorem tr_r_icmp_ne {x y : Int32} {off : Int} {tgt : Nat} (hd : decode (mB M) pc = .ok (.if_icmp .ne off, 3)) (ht : (pc : Int) + off = (tgt : Int)) (k1 : x = y → tr_W E M R lc lz Z (pc + 3) lv st h rc rs) (k2 : ¬ x = y → tr_W E M R lc lz Z tgt lv st h rc rs) : tr_W E M R lc lz Z pc lv (.inl y :: .inl x :: st) h rc rs := by
  intro p e s m args below meth c H locs cells slots ls Cx Rp hS hl hc hs
  refine lv_icmp_ne Cx.1 Cx.2.1 hd ht (fun q => ?_) (fun q => ?_)
  · first | exact (k1 q p e s m args below meth c H locs cells slots ls Cx Rp hS hl hc hs) | exact (k2 q p e s m args below meth c H locs cells slots ls Cx Rp hS hl hc hs) | exact (k2 (tr_nlt q) p e s m args below meth c H locs cells slots ls Cx Rp hS hl hc hs) | exact (k2 (tr_nle q) p e s m args below meth c H locs cells slots ls Cx Rp hS hl hc hs)
  · first | exact (k2 q p e s m args below meth c H locs cells slots ls Cx Rp hS hl hc hs) | exact (k1 (Decidable.not_not.mp q) p e s m args below meth c H locs cells slots ls Cx Rp hS hl hc hs) | exact (k1 q p e s m args below meth c H locs cells slots ls Cx Rp hS hl hc hs) | exact (k1 (tr_ltn q) p e s m args below meth c H locs cells slots ls Cx Rp hS hl hc hs) | exact (k1 (tr_len q) p e s m args below meth c H locs cells slots ls Cx Rp hS hl hc hs)
theorem tr_r_if_ne {x : Int32} {off : Int} {tgt : Nat} (hd : decode (mB M) pc = .ok (.ifCond .ne off, 3)) (ht : (pc : Int) + off = (tgt : Int)) (k1 : x = ii 0 → tr_W E M R lc lz Z (pc + 3) lv st h rc rs) (k2 : ¬ x = ii 0 → tr_W E M R lc lz Z tgt lv st h rc rs) : tr_W E M R lc lz Z pc lv (.inl x :: st) h rc rs := by
  intro p e s m args below meth c H locs cells slots ls Cx Rp hS hl hc hs
  rw [tr_ii0] at k1 k2
  refine lv_if_ne Cx.1 Cx.2.1 hd ht (fun q => ?_) (fun q => ?_)
  · first | exact (k1 q p e s m args below meth c H locs cells slots ls Cx Rp hS hl hc hs) | exact (k2 q p e s m args below meth c H locs cells slots ls Cx Rp hS hl hc hs) | exact (k2 (tr_nlt q) p e s m args below meth c H locs cells slots ls Cx Rp hS hl hc hs) | exact (k2 (tr_nle q) p e s m args below meth c H locs cells slots ls Cx Rp hS hl hc hs)
  · first | exact (k2 q p e s m args below meth c H locs cells slots ls Cx Rp hS hl hc hs) | exact (k1 (Decidable.not_not.mp q) p e s m args below meth c H locs cells slots ls Cx Rp hS hl hc hs) | exact (k1 q p e s m args below meth c H locs cells slots ls Cx Rp hS hl hc hs) | exact (k1 (tr_ltn q) p e s m args below meth c H locs cells slots ls Cx Rp hS hl hc hs) | exact (k1 (tr_len q) p e s m args below meth c H locs cells slots ls Cx Rp hS hl hc hs)
theorem tr_r_icmp_lt {x y : Int32} {off : Int} {tgt : Nat} (hd : decode (mB M) pc = .ok (.if_icmp .lt off, 3)) (ht : (pc : Int) + off = (tgt : Int)) (k1 : x < y → tr_W E M R lc lz Z tgt lv st h rc rs) (k2 : ¬ x < y → tr_W E M R lc lz Z (pc + 3) lv st h rc rs) : tr_W E M R lc lz Z pc lv (.inl y :: .inl x :: st) h rc rs := by
  intro p e s m args below meth c H locs cells slots ls Cx Rp hS hl hc hs
  refine lv_icmp_lt Cx.1 Cx.2.1 hd ht (fun q => ?_) (fun q => ?_)
  · first | exact (k1 q p e s m args below meth c H locs cells slots ls Cx Rp hS hl hc hs) | exact (k2 q p e s m args below meth c H locs cells slots ls Cx Rp hS hl hc hs) | exact (k2 (tr_nlt q) p e s m args below meth c H locs cells slots ls Cx Rp hS hl hc hs) | exact (k2 (tr_nle q) p e s m args below meth c H locs cells slots ls Cx Rp hS hl hc hs)
  · first | exact (k2 q p e s m args below meth c H locs cells slots ls Cx Rp hS hl hc hs) | exact (k1 (Decidable.not_not.mp q) p e s m args below meth c H locs cells slots ls Cx Rp hS hl hc hs) | exact (k1 q p e s m args below meth c H locs cells slots ls Cx Rp hS hl hc hs) | exact (k1 (tr_ltn q) p e s m args below meth c H locs cells slots ls Cx Rp hS hl hc hs) | exact (k1 (tr_len q) p e s m args below meth c H locs cells slots ls Cx Rp hS hl hc hs)
theorem tr_r_if_lt {x : Int32} {off : Int} {tgt : Nat} (hd : decode (mB M) pc = .ok (.ifCond .lt off, 3)) (ht : (pc : Int) + off = (tgt : Int)) (k1 : x < ii 0 → tr_W E M R lc lz Z tgt lv st h rc rs) (k2 : ¬ x < ii 0 → tr_W E M R lc lz Z (pc + 3) lv st h rc rs) : tr_W E M R lc lz Z pc lv (.inl x :: st) h rc rs := by
  intro p e s m args below meth c H locs cells slots ls Cx Rp hS hl hc hs
  rw [tr_ii0] at k1 k2
  refine lv_if_lt Cx.1 Cx.2.1 hd ht (fun q => ?_) (fun q => ?_)
  · first | exact (k1 q p e s m args below meth c H locs cells slots ls Cx Rp hS hl hc hs) | exact (k2 q p e s m args below meth c H locs cells slots ls Cx Rp hS hl hc hs) | exact (k2 (tr_nlt q) p e s m args below meth c H locs cells slots ls Cx Rp hS hl hc hs) | exact (k2 (tr_nle q) p e s m args below meth c H locs cells slots ls Cx Rp hS hl hc hs)
  · first | exact (k2 q p e s m args below meth c H locs cells slots ls Cx Rp hS hl hc hs) | exact (k1 (Decidable.not_not.mp q) p e s m args below meth c H locs cells slots ls Cx Rp hS hl hc hs) | exact (k1 q p e s m args below meth c H locs cells slots ls Cx Rp hS hl hc hs) | exact (k1 (tr_ltn q) p e s m args below meth c H locs cells slots ls Cx Rp hS hl hc hs) | exact (k1 (tr_len q) p e s m args below meth c H locs cells slots ls Cx Rp hS hl hc hs)
theorem tr_r_icmp_ge {x y : Int32} {off : Int} {tgt : Nat} (hd : decode (mB M) pc = .ok (.if_icmp .ge off, 3)) (ht : (pc : Int) + off = (tgt : Int)) (k1 : x < y → tr_W E M R lc lz Z (pc + 3) lv st h rc rs) (k2 : ¬ x < y → tr_W E M R lc lz Z tgt lv st h rc rs) : tr_W E M R lc lz Z pc lv (.inl y :: .inl x :: st) h rc rs := by
  intro p e s m args below meth c H locs cells slots ls Cx Rp hS hl hc hs
  refine lv_icmp_ge Cx.1 Cx.2.1 hd ht (fun q => ?_) (fun q => ?_)
  · first | exact (k1 q p e s m args below meth c H locs cells slots ls Cx Rp hS hl hc hs) | exact (k2 q p e s m args below meth c H locs cells slots ls Cx Rp hS hl hc hs) | exact (k2 (tr_nlt q) p e s m args below meth c H locs cells slots ls Cx Rp hS hl hc hs) | exact (k2 (tr_nle q) p e s m args below meth c H locs cells slots ls Cx Rp hS hl hc hs)
  · first | exact (k2 q p e s m args below meth c H locs cells slots ls Cx Rp hS hl hc hs) | exact (k1 (Decidable.not_not.mp q) p e s m args below meth c H locs cells slots ls Cx Rp hS hl hc hs) | exact (k1 q p e s m args below meth c H locs cells slots ls Cx Rp hS hl hc hs) | exact (k1 (tr_ltn q) p e s m args below meth c H locs cells slots ls Cx Rp hS hl hc hs) | exact (k1 (tr_len q) p e s m args below meth c H locs cells slots ls Cx Rp hS hl hc hs)
theorem tr_r_if_ge {x : Int32} {off : Int} {tgt : Nat} (hd : decode (mB M) pc = .ok (.ifCond .ge off, 3)) (ht : (pc : Int) + off = (tgt : Int)) (k1 : x < ii 0 → tr_W E M R lc lz Z (pc + 3) lv st h rc rs) (k2 : ¬ x < ii 0 → tr_W E M R lc lz Z tgt lv st h rc rs) : tr_W E M R lc lz Z pc lv (.inl x :: st) h rc rs := by
  intro p e s m args below meth c H locs cells slots ls Cx Rp hS hl hc hs
  rw [tr_ii0] at k1 k2
  refine lv_if_ge Cx.1 Cx.2.1 hd ht (fun q => ?_) (fun q => ?_)
  · first | exact (k1 q p e s m args below meth c H locs cells slots ls Cx Rp hS hl hc hs) | exact (k2 q p e s m args below meth c H locs cells slots ls Cx Rp hS hl hc hs) | exact (k2 (tr_nlt q) p e s m args below meth c H locs cells slots ls Cx Rp hS hl hc hs) | exact (k2 (tr_nle q) p e s m args below meth c H locs cells slots ls Cx Rp hS hl hc hs)
  · first | exact (k2 q p e s m args below meth c H locs cells slots ls Cx Rp hS hl hc hs) | exact (k1 (Decidable.not_not.mp q) p e s m args below meth c H locs cells slots ls Cx Rp hS hl hc hs) | exact (k1 q p e s m args below meth c H locs cells slots ls Cx Rp hS hl hc hs) | exact (k1 (tr_ltn q) p e s m args below meth c H locs cells slots ls Cx Rp hS hl hc hs) | exact (k1 (tr_len q) p e s m args below meth c H locs cells slots ls Cx Rp hS hl hc hs)
theorem tr_r_icmp_gt {x y : Int32} {off : Int} {tgt : Nat} (hd : decode (mB M) pc = .ok (.if_icmp .gt off, 3)) (ht : (pc : Int) + off = (tgt : Int)) (k1 : x ≤ y → tr_W E M R lc lz Z (pc + 3) lv st h rc rs) (k2 : ¬ x ≤ y → tr_W E M R lc lz Z tgt lv st h rc rs) : tr_W E M R lc lz Z pc lv (.inl y :: .inl x :: st) h rc rs := by
  intro p e s m args below meth c H locs cells slots ls Cx Rp hS hl hc hs
  refine lv_icmp_gt Cx.1 Cx.2.1 hd ht (fun q => ?_) (fun q => ?_)
  · first | exact (k1 q p e s m args below meth c H locs cells slots ls Cx Rp hS hl hc hs) | exact (k2 q p e s m args below meth c H locs cells slots ls Cx Rp hS hl hc hs) | exact (k2 (tr_nlt q) p e s m args below meth c H locs cells slots ls Cx Rp hS hl hc hs) | exact (k2 (tr_nle q) p e s m args below meth c H locs cells slots ls Cx Rp hS hl hc hs)
  · first | exact (k2 q p e s m args below meth c H locs cells slots ls Cx Rp hS hl hc hs) | exact (k1 (Decidable.not_not.mp q) p e s m args below meth c H locs cells slots ls Cx Rp hS hl hc hs) | exact (k1 q p e s m args below meth c H locs cells slots ls Cx Rp hS hl hc hs) | exact (k1 (tr_ltn q) p e s m args below meth c H locs cells slots ls Cx Rp hS hl hc hs) | exact (k1 (tr_len q) p e s m args below meth c H locs cells slots ls Cx Rp hS hl hc hs)
theorem tr_r_if_gt {x : Int32} {off : Int} {tgt : Nat} (hd : decode (mB M) pc = .ok (.ifCond .gt off, 3)) (ht : (pc : Int) + off = (tgt : Int)) (k1 : x ≤ ii 0 → tr_W E M R lc lz Z (pc + 3) lv st h rc rs) (k2 : ¬ x ≤ ii 0 → tr_W E M R lc lz Z tgt lv st h rc rs) : tr_W E M R lc lz Z pc lv (.inl x :: st) h rc rs := by
  intro p e s m args below meth c H locs cells slots ls Cx Rp hS hl hc hs
  rw [tr_ii0] at k1 k2
  refine lv_if_gt Cx.1 Cx.2.1 hd ht (fun q => ?_) (fun q => ?_)
  · first | exact (k1 q p e s m args below meth c H locs cells slots ls Cx Rp hS hl hc hs) | exact (k2 q p e s m args below meth c H locs cells slots ls Cx Rp hS hl hc hs) | exact (k2 (tr_nlt q) p e s m args below meth c H locs cells slots ls Cx Rp hS hl hc hs) | exact (k2 (tr_nle q) p e s m args below meth c H locs cells slots ls Cx Rp hS hl hc hs)
  · first | exact (k2 q p e s m args below meth c H locs cells slots ls Cx Rp hS hl hc hs) | exact (k1 (Decidable.not_not.mp q) p e s m args below meth c H locs cells slots ls Cx Rp hS hl hc hs) | exact (k1 q p e s m args below meth c H locs cells slots ls Cx Rp hS hl hc hs) | exact (k1 (tr_ltn q) p e s m args below meth c H locs cells slots ls Cx Rp hS hl hc hs) | exact (k1 (tr_len q) p e s m args below meth c H locs cells slots ls Cx Rp hS hl hc hs)
theorem tr_r_icmp_le {x y : Int32} {off : Int} {tgt : Nat} (hd : decode (mB M) pc = .ok (.if_icmp .le off, 3)) (ht : (pc : Int) + off = (tgt : Int)) (k1 : x ≤ y → tr_W E M R lc lz Z tgt lv st h rc rs) (k2 : ¬ x ≤ y → tr_W E M R lc lz Z (pc + 3) lv st h rc rs) : tr_W E M R lc lz Z pc lv (.inl y :: .inl x :: st) h rc rs := by
  intro p e s m args below meth c H locs cells slots ls Cx Rp hS hl hc hs
  refine lv_icmp_le Cx.1 Cx.2.1 hd ht (fun q => ?_) (fun q => ?_)
  · first | exact (k1 q p e s m args below meth c H locs cells slots ls Cx Rp hS hl hc hs) | exact (k2 q p e s m args below meth c H locs cells slots ls Cx Rp hS hl hc hs) | exact (k2 (tr_nlt q) p e s m args below meth c H locs cells slots ls Cx Rp hS hl hc hs) | exact (k2 (tr_nle q) p e s m args below meth c H locs cells slots ls Cx Rp hS hl hc hs)
  · first | exact (k2 q p e s m args below meth c H locs cells slots ls Cx Rp hS hl hc hs) | exact (k1 (Decidable.not_not.mp q) p e s m args below meth c H locs cells slots ls Cx Rp hS hl hc hs) | exact (k1 q p e s m args below meth c H locs cells slots ls Cx Rp hS hl hc hs) | exact (k1 (tr_ltn q) p e s m args below meth c H locs cells slots ls Cx Rp hS hl hc hs) | exact (k1 (tr_len q) p e s m args below meth c H locs cells slots ls Cx Rp hS hl hc hs)
theorem tr_r_if_le {x : Int32} {off : Int} {tgt : Nat} (hd : decode (mB M) pc = .ok (.ifCond .le off, 3)) (ht : (pc : Int) + off = (tgt : Int)) (k1 : x ≤ ii 0 → tr_W E M R lc lz Z tgt lv st h rc rs) (k2 : ¬ x ≤ ii 0 → tr_W E M R lc lz Z (pc + 3) lv st h rc rs) : tr_W E M R lc lz Z pc lv (.inl x :: st) h rc rs := by
  intro p e s m args below meth c H locs cells slots ls Cx Rp hS hl hc hs
  rw [tr_ii0] at k1 k2
  refine lv_if_le Cx.1 Cx.2.1 hd ht (fun q => ?_) (fun q => ?_)
  · first | exact (k1 q p e s m args below meth c H locs cells slots ls Cx Rp hS hl hc hs) | exact (k2 q p e s m args below meth c H locs cells slots ls Cx Rp hS hl hc hs) | exact (k2 (tr_nlt q) p e s m args below meth c H locs cells slots ls Cx Rp hS hl hc hs) | exact (k2 (tr_nle q) p e s m args below meth c H locs cells slots ls Cx Rp hS hl hc hs)
  · first | exact (k2 q p e s m args below meth c H locs cells slots ls Cx Rp hS hl hc hs) | exact (k1 (Decidable.not_not.mp q) p e s m args below meth c H locs cells slots ls Cx Rp hS hl hc hs) | exact (k1 q p e s m args below meth c H locs cells slots ls Cx Rp hS hl hc hs) | exact (k1 (tr_ltn q) p e s m args below meth c H locs cells slots ls Cx Rp hS hl hc hs) | exact (k1 (tr_len q) p e s m args below meth c H locs cells slots ls Cx Rp hS hl hc hs)
theorem tr_r_goto {off : Int} {tgt : Nat} (hd : decode (mB M) pc = .ok (.goto off, 3)) (ht : (pc : Int) + off = (tgt : Int)) (k : tr_W E M R lc lz Z tgt lv st h rc rs) : tr_W E M R lc lz Z pc lv st h rc rs := by
  intro p e s m args below meth c H locs cells slots ls Cx Rp hS hl hc hs
  exact lv_goto Cx.1 Cx.2.1 hd ht (k p e s m args below meth c H locs cells slots ls Cx Rp hS hl hc hs)
end TRR
