/-! THE LAW'S OWN END, AND WHAT HOLDS AT ITS START -/
def R_law : String := "PacketTrailLaw"
def lw_P (b : Addr) (xs : List Int32) (args : Array Value) (s : State) : Prop := args = #[.ref b] ∧ s.IntsAt b xs ∧ xs.length ≤ 3072 ∧ (Jvm.Cond.and given_1 narrow_1).before args s = true
def lw_Q (_ : Array Value) (s : State) (o : Outcome) (t : State) : Prop := o = .returned (some (.int 1)) ∧ Framed s o t [] 601024 7293034
def lw_Z (below : List Frame) (a : Array Value) (s : State) : State → Prop := fun t => ∃ o, t.status = .running ∧ Ended t below o ∧ lw_Q a s o t
/-- .. as seen from the surroundings: nothing that was there before has been written -/
def tr_lZ (E : tr_Env) : List Frame → Array Value → State → State → Prop := fun below args s t => s.heap.size ≤ elo E → lw_Z below args s t
def tr_lQ : tr_Q := fun o _ => o = .inl (some (.inl (ii 1)))
section TRLF
variable {p : Program} {l : Launch} {e : Env} {R : Room} {s : State} {m : MethodId} {args : Array Value} {below : List Frame} {meth : Method} {c : Code} {H : Heap} {locs : List Loc} {cells slots : Nat}
theorem tr_l_ret {cc : ByteArray} {v : Int32} {ty : FieldType} {n0 : Nat} (hexec : p.tables.exec = Jvm.exec) (hb : c.code = cc) (hr : meth.sig.returnType = some ty) (hn : narrow ty (.int v) = .int 1) (hf : ∀ q ∈ locs, n0 ≤ q.base) (hc : cells ≤ 601024) (hs : slots ≤ 7293034)
    {pc : Nat} {ls : Array Slot} (hdg : decode cc pc = .ok (.ireturn, 1)) (hlocks : meth.locks = false) : W p l e R s m args below meth c H locs cells slots (fun t => s.heap.size ≤ n0 → lw_Z below args s t) (F0 m pc ls [.int v]) := by
  intro T hT X
  obtain ⟨fs, hret, hrun, hended, hW, hframe⟩ := X.leave (v := some (.int 1)) (fun h => by rw [hr] at h; cases h)
  have hmeth' : T.vm.method? m = some meth := X.method'
  refine ⟨T.setFrames fs, ?_, fun hz => ⟨.returned (some (.int 1)), hrun, hended, rfl, ⟨_, rfl⟩, hW, ?_⟩⟩
  · jvm_step X.here [X.here.top, hexec, hb, hdg, hmeth', hr, hn]
    (try refine ⟨rfl, ?_⟩); (try refine ⟨rfl, ?_⟩)
    first | (intro acts; rw [hret _ acts rfl rfl rfl]) | rw [hret _ _ rfl rfl rfl]
    exact Steps.refl _
  · refine hframe.weaken (fun y hy hlt => ?_) hc hs
    have g := hf y hy
    exact absurd hlt (Nat.not_lt.mpr (Nat.le_trans hz g))
end TRLF
section TRLE
variable {E : tr_Env} {lc lz : Nat} {pc : Nat} {lv : tr_L} {h : tr_H} {rc rs : Nat}
theorem tr_l_zret (hlc : lc ≤ room_1.cells) (hlz : lz ≤ room_1.slots) {x : Int32} (hd : decode (mB mi_L_law) pc = .ok (.ireturn, 1)) (hx : tr_nb x = ii 1) : tr_W E mi_L_law room_1 lc lz (tr_lZ E) pc lv [.inl x] h rc rs := by
  intro p e s m args below meth c H locs cells slots ls Cx Rp hS hl hc hs
  obtain ⟨hX, hB, hML, hown, hts, hW, hrt, hlk, -⟩ := id Cx
  have hn : narrow .boolean (.int x) = .int 1 := by
    have e1 : narrow .boolean (.int x) = .int (tr_nb x) := rfl
    rw [e1, hx]
    rfl
  have c1 : lc ≤ 601024 := hlc
  have c2 : lz ≤ 7293034 := hlz
  exact tr_l_ret hX hB hrt hn (fun q hq => hS.2.2 q hq) (by omega) (by omega) hd hlk
theorem tr_lEnds (hlc : lc ≤ room_1.cells) (hlz : lz ≤ room_1.slots) : tr_Ends E mi_L_law room_1 lc lz (tr_lZ E) tr_lQ := by
  refine ⟨?_, ?_, ?_, ?_, ?_, ?_, ?_⟩
  · intro pc x lv h rc rs h1 h2 h3
    cases h2
  · intro pc x lv h rc rs h1 h2 h3
    have h4 : (.inl (some (.inl (tr_nb x))) : tr_Rs) = .inl (some (.inl (ii 1))) := h3
    exact tr_l_zret hlc hlz h1 (Sum.inl.inj (Option.some.inj (Sum.inl.inj h4)))
  · intro pc x lv h rc rs h1 h2 h3
    cases h2
  · intro pc lv h rc rs h1 h2 h3
    cases h2
  · intro pc k lv st h rc rs hk h1 h2 h3 h4 h5 h6 h7 h8 h9
    have h10 : (.inr k : tr_Rs) = .inl (some (.inl (ii 1))) := h9
    cases h10
  · intro pc k lv st h rc rs hk hx
    have h4 : (.inr k : tr_Rs) = .inl (some (.inl (ii 1))) := hx
    cases h4
  · intro pc k hp lv st h rc rs hk h1 h2
    cases h1
end TRLE
/-- what holds at the law's entry -/
def lw_At (p : Program) (s : State) (m : MethodId) (meth : Method) (c : Code) (b L : Nat) (xs : Nat → Int32) : Prop :=
  p.tables.exec = Jvm.exec ∧ c.code = code ∧ meth.sig.returnType = ret ∧ c.maxLocals = 8 ∧ s.vm.findClass R_law = some m.cls ∧ (∀ w ∈ lw_tbl, w.before #[Value.ref b] s = true) ∧ va_X b L xs s s.heap ∧ b < s.heap.size ∧ meth.locks = false ∧ (Jvm.Cond.and given_1 narrow_1).before #[Value.ref b] s = true ∧ meth.name = "law" ∧ c.exceptionTable.toList = []
/-- the texts' places: entries of the class's constants, lengths, bytes -/
def tr_q4 : List Nat := [51, 70, 76, 81, 86, 91, 93, 95]
def tr_qln : List Nat := [4, 4, 3, 5, 4, 3, 4, 6]
def tr_qby : List (List Int32) := [[104, 111, 112, 115], [108, 105, 110, 107], [99, 117, 116], [114, 111, 117, 116, 101], [98, 97, 115, 101], [107, 101, 121], [109, 97, 115, 107], [108, 97, 98, 101, 108, 115]]
def tr_qtm (i : Nat) : Term := .string RX4 (tr_q4.getD i 0)
def tr_qfl : List Cond := flatC (Jvm.Cond.and given_1 narrow_1)
def tr_has (w : Cond) : Bool := decide (w ∈ tr_qfl)
def tr_qw1 (i : Nat) : List Cond := [Cond.exactly (tr_qtm i) "java/lang/String", Cond.eq (.field (tr_qtm i) "java/lang/String" "coder" "B") (.int 0), Cond.arrayOf (.field (tr_qtm i) "java/lang/String" "value" "[B") .byte, Cond.eq (.length (.field (tr_qtm i) "java/lang/String" "value" "[B")) (.int (Int32.ofNat (tr_qln.getD i 0)))]
def tr_qw2 (i j : Nat) : Cond := Cond.eq (.elem (.field (tr_qtm i) "java/lang/String" "value" "[B") (.int (Int32.ofNat j))) (.int ((tr_qby.getD i []).getD j 0))
def tr_qw3 (i j : Nat) : Cond := Cond.not (Cond.eq (tr_qtm i) (tr_qtm j))
set_option maxRecDepth 100000 in
theorem tr_q1 : ((List.range 8).all fun i => (tr_qw1 i).all tr_has) = true := by decide +kernel
set_option maxRecDepth 100000 in
theorem tr_q2 : ((List.range 8).all fun i => (List.range (tr_qln.getD i 0)).all fun j => tr_has (tr_qw2 i j)) = true := by decide +kernel
set_option maxRecDepth 100000 in
theorem tr_q3 : ((List.range 8).all fun i => (List.range 8).all fun j => Nat.beq i j || (tr_has (tr_qw3 i j) || tr_has (tr_qw3 j i))) = true := by decide +kernel
theorem tr_all8 {P : Nat → Bool} (h : (List.range 8).all P = true) {i : Nat} (hi : i < 8) : P i = true := List.all_eq_true.mp h i (List.mem_range.mpr hi)
/-- the texts, as the start has them -/
theorem tr_texts {b : Nat} {s : State} (hgv : (Jvm.Cond.and given_1 narrow_1).before #[Value.ref b] s = true) : ∃ adK adV : Nat → Nat, vk_S 8 tr_qln tr_qby adK adV (fun q => s.heap.size ≤ q) s s.heap ∧ ∀ i : Nat, i < 8 → (tr_qtm i).eval #[Value.ref b] s none [] s = some (.ref (adK i)) := by
  have hs : ∀ w : Cond, tr_has w = true → w.before #[Value.ref b] s = true := fun w hw => flat_of_before _ hgv w (of_decide_eq_true hw)
  have h1 : ∀ i, i < 8 → ∀ w ∈ tr_qw1 i, w.before #[Value.ref b] s = true := fun i hi w hw => hs w (List.all_eq_true.mp (tr_all8 tr_q1 hi) w hw)
  refine vk_Sof (fun i hi => ?_) (fun i hi => h1 i hi _ (by simp [tr_qw1])) (fun i hi => h1 i hi _ (by simp [tr_qw1])) (fun i hi => h1 i hi _ (by simp [tr_qw1])) (fun i hi => h1 i hi _ (by simp [tr_qw1])) (fun i hi j hj => hs _ (List.all_eq_true.mp (tr_all8 tr_q2 hi) j (List.mem_range.mpr hj))) (fun i j hi hj hij => ?_) (fun a ha g => absurd ha (Nat.not_lt.mpr g))
  · have : ∀ i : Fin 8, tr_qln.getD i.val 0 < 2 ^ 31 := by decide
    exact this ⟨i, hi⟩
  · have h3 := tr_all8 (tr_all8 tr_q3 hi) hj
    simp only [Bool.or_eq_true] at h3
    rcases h3 with h3 | h3 | h3
    · exact absurd (Nat.eq_of_beq_eq_true h3) hij
    · exact Or.inl (hs _ h3)
    · exact Or.inr (hs _ h3)
