/-! THE ABSTRACT MACHINE. Values: an int, a long, a reference (0 is null, r + 1 is the cell r). Heaps: total typed functions; tag 0: nothing known. -/
abbrev tr_V : Type := Int32 ⊕ (Int64 ⊕ Nat)
def tr_o : Nat → Option Nat
  | 0 => none
  | a + 1 => some a
def tr_cv : tr_V → Value
  | .inl x => .int x
  | .inr (.inl x) => .long x
  | .inr (.inr r) => va_rf (tr_o r)
/-- tag, length, ints, longs, references -/
abbrev tr_H : Type := (Nat → Nat) × (Nat → Nat) × (Nat → Nat → Int32) × (Nat → Nat → Int64) × (Nat → Nat → Nat)
def ht (h : tr_H) : Nat → Nat := h.1
def hn (h : tr_H) : Nat → Nat := h.2.1
def hI (h : tr_H) : Nat → Nat → Int32 := h.2.2.1
def hJ (h : tr_H) : Nat → Nat → Int64 := h.2.2.2.1
def hR (h : tr_H) : Nat → Nat → Nat := h.2.2.2.2
def up1 {α : Type} (f : Nat → α) (a : Nat) (v : α) : Nat → α := fun x => if x = a then v else f x
def up2 {α : Type} (f : Nat → Nat → α) (a k : Nat) (v : α) : Nat → Nat → α := fun x j => if x = a then (if j = k then v else f x j) else f x j
def hsI (h : tr_H) (r k : Nat) (v : Int32) : tr_H := (ht h, hn h, up2 (hI h) r k v, hJ h, hR h)
def hsJ (h : tr_H) (r k : Nat) (v : Int64) : tr_H := (ht h, hn h, hI h, up2 (hJ h) r k v, hR h)
def hsR (h : tr_H) (r k : Nat) (v : Nat) : tr_H := (ht h, hn h, hI h, hJ h, up2 (hR h) r k v)
/-- a new cell of a tag and a length -/
def hnw (h : tr_H) (r t n : Nat) : tr_H := (up1 (ht h) r t, up1 (hn h) r n, up1 (hI h) r (fun _ => 0), up1 (hJ h) r (fun _ => 0), up1 (hR h) r (fun _ => 0))
/-- a copy of a cell -/
def hcl (h : tr_H) (r q : Nat) : tr_H := (up1 (ht h) r (ht h q), up1 (hn h) r (hn h q), up1 (hI h) r (hI h q), up1 (hJ h) r (hJ h q), up1 (hR h) r (hR h q))
/-- references copied from one row to another -/
def hcp (h : tr_H) (q sp r dp n : Nat) : tr_H := (ht h, hn h, hI h, hJ h, up1 (hR h) r (va_cpy (hR h q) (hR h r) sp dp n))
def ii (z : Int) : Int32 := Int32.ofInt z
def jj (z : Int) : Int64 := Int64.ofInt z
def ixn (i : Int32) : Nat := i.toNatClampNeg
def ixo (i : Int32) (n : Nat) : Prop := 0 ≤ i.toInt ∧ i.toInt < n
def tr_rem (x y : Int32) : Int32 := x - x / y * y
def tr_lrem (x y : Int64) : Int64 := x - x / y * y
def tr_nb (x : Int32) : Int32 := vp_nar .boolean x
def tr_by (x : Int32) : Int32 := vp_nar .byte x
/-- results: an answer, or the number of what was thrown -/
abbrev tr_Rs : Type := Option tr_V ⊕ Nat
abbrev tr_Q : Type := tr_Rs → tr_H → Prop
def kV (f : tr_H → Prop) (x : Nat → tr_H → Prop) : tr_Q := fun r h => match r with
  | .inl none => f h
  | .inr E => x E h
  | _ => False
def kI (f : Int32 → tr_H → Prop) (x : Nat → tr_H → Prop) : tr_Q := fun r h => match r with
  | .inl (some (.inl v)) => f v h
  | .inr E => x E h
  | _ => False
def kJ (f : Int64 → tr_H → Prop) (x : Nat → tr_H → Prop) : tr_Q := fun r h => match r with
  | .inl (some (.inr (.inl v))) => f v h
  | .inr E => x E h
  | _ => False
/-- pc, instruction, length, what Python has resolved -/
abbrev tr_En : Type := Nat × Instr × Nat × Nat × Nat × Nat × Nat × Nat × Nat
abbrev tr_L : Type := List (Option tr_V)
abbrev tr_K : Type := tr_L → List tr_V → tr_H → Nat → Nat → Prop
def lvg (lv : tr_L) (k : Nat) : Option tr_V := lv.getD k none
def isJ : Option tr_V → Bool
  | some (.inr (.inl _)) => true
  | _ => false
/-- a store: what lay there and a long that reached into it are gone -/
def lvs1 (lv : tr_L) (k : Nat) (v : tr_V) : tr_L := match k with
  | 0 => lv.set 0 (some v)
  | k + 1 => (if isJ (lvg lv k) then lv.set k none else lv).set (k + 1) (some v)
def lvs2 (lv : tr_L) (k : Nat) (v : tr_V) : tr_L := (lvs1 lv k v).set (k + 1) none
/-- the same, laid out -/
def lvn : tr_L → (tr_L → Prop) → Prop
  | [], k => k []
  | v :: lv, k => lvn lv (fun l => k (v :: l))
theorem lvn_eq : ∀ (lv : tr_L) (k : tr_L → Prop), lvn lv k = k lv
  | [], _ => rfl
  | v :: lv, k => lvn_eq lv (fun l => k (v :: l))
/-- only some are kept -/
def lvp : List Bool → tr_L → tr_L
  | true :: bs, v :: lv => v :: lvp bs lv
  | false :: bs, _ :: lv => none :: lvp bs lv
  | _, _ => []
def tr_tsw (jmp : Nat → Prop) (dflt : Nat) (pc : Nat) (x : Int32) : Int → List Int → Prop
  | _, [] => jmp dflt
  | k, o :: os => (x = ii k → jmp ((pc : Int) + o).toNat) ∧ (¬ x = ii k → tr_tsw jmp dflt pc x (k + 1) os)
def tr_lsw (jmp : Nat → Prop) (dflt : Nat) (pc : Nat) (x : Int32) : List (Int × Int) → Prop
  | [] => jmp dflt
  | (k, o) :: os => (x = ii k → jmp ((pc : Int) + o).toNat) ∧ (¬ x = ii k → tr_lsw jmp dflt pc x os)
def tr_if (c : ClassFile.Cond) (x y : Int32) (a b : Prop) : Prop := match c with
  | .eq => (x = y → a) ∧ (¬ x = y → b)
  | .ne => (x = y → b) ∧ (¬ x = y → a)
  | .lt => (x < y → a) ∧ (¬ x < y → b)
  | .ge => (x < y → b) ∧ (¬ x < y → a)
  | .gt => (x ≤ y → b) ∧ (¬ x ≤ y → a)
  | .le => (x ≤ y → a) ∧ (¬ x ≤ y → b)
/-- texts of the constants, by number -/
def tr_tx (h : tr_H) (r : Nat) (cs : List Nat) : Prop := ht h r = 18 ∧ hn h r = cs.length ∧ ∀ k, k < cs.length → hI h r k = ii (cs.getD k 0 : Nat)
def tr_ck (b r : Nat) (P : Prop) : Prop := match Nat.ble b r with
  | true => P
  | false => False
section TRS
variable (C : Nat → List tr_V → tr_H → tr_Q → Prop) (txt : Nat → List Nat) (hdl : Nat → Option Nat) (X : Nat → tr_H → Prop) (jmp : Nat → tr_K) (nxt : tr_K) (Q : tr_Q)
/-- a call of the method a with b things on the stack, its answer's kind c, the tag d of what it is called upon, room for e cells and f slots -/
def tr_call (a b c d e f : Nat) (lv : tr_L) (st : List tr_V) (h : tr_H) (rc rs : Nat) : Prop :=
  let rest := st.drop b
  let thr := fun (E : Nat) (h' : tr_H) => match hdl E with
    | none => X E h'
    | some p => ∀ r, jmp p lv [.inr (.inr r)] h' (rc - e) (rs - f)
  let k : tr_Q := match c with
    | 0 => kV (fun h' => nxt lv rest h' (rc - e) (rs - f)) thr
    | 1 => kI (fun v h' => nxt lv (.inl v :: rest) h' (rc - e) (rs - f)) thr
    | _ => kJ (fun v h' => nxt lv (.inr (.inl v) :: rest) h' (rc - e) (rs - f)) thr
  let args := (st.take b).reverse
  match d with
  | 0 => tr_ck b st.length (tr_ck rest.length 4 (tr_ck e rc (tr_ck f rs (C a args h k))))
  | d => (match args with
    | .inr (.inr r) :: _ => ht h r = d ∧ tr_ck b st.length (tr_ck rest.length 4 (tr_ck e rc (tr_ck f rs (C a args h k))))
    | _ => False)
def tr_step (pc : Nat) (i : Instr) (a b c d e f : Nat) (lv : tr_L) (st : List tr_V) (h : tr_H) (rc rs : Nat) : Prop :=
  match i with
  | .aload k => (match lvg lv k with | some (.inr (.inr r)) => nxt lv (.inr (.inr r) :: st) h rc rs | _ => False)
  | .aload_n k => (match lvg lv k.val with | some (.inr (.inr r)) => nxt lv (.inr (.inr r) :: st) h rc rs | _ => False)
  | .iload k => (match lvg lv k with | some (.inl x) => nxt lv (.inl x :: st) h rc rs | _ => False)
  | .iload_n k => (match lvg lv k.val with | some (.inl x) => nxt lv (.inl x :: st) h rc rs | _ => False)
  | .lload k => (match lvg lv k with | some (.inr (.inl x)) => nxt lv (.inr (.inl x) :: st) h rc rs | _ => False)
  | .lload_n k => (match lvg lv k.val with | some (.inr (.inl x)) => nxt lv (.inr (.inl x) :: st) h rc rs | _ => False)
  | .istore k => (match st with | .inl x :: st' => lvn (lvs1 lv k (.inl x)) (fun lv' => nxt lv' st' h rc rs) | _ => False)
  | .istore_n k => (match st with | .inl x :: st' => lvn (lvs1 lv k.val (.inl x)) (fun lv' => nxt lv' st' h rc rs) | _ => False)
  | .astore k => (match st with | .inr (.inr x) :: st' => lvn (lvs1 lv k (.inr (.inr x))) (fun lv' => nxt lv' st' h rc rs) | _ => False)
  | .astore_n k => (match st with | .inr (.inr x) :: st' => lvn (lvs1 lv k.val (.inr (.inr x))) (fun lv' => nxt lv' st' h rc rs) | _ => False)
  | .lstore k => (match st with | .inr (.inl x) :: st' => lvn (lvs2 lv k (.inr (.inl x))) (fun lv' => nxt lv' st' h rc rs) | _ => False)
  | .lstore_n k => (match st with | .inr (.inl x) :: st' => lvn (lvs2 lv k.val (.inr (.inl x))) (fun lv' => nxt lv' st' h rc rs) | _ => False)
  | .iinc k n => (match lvg lv k with | some (.inl x) => lvn (lvs1 lv k (.inl (x + ii n))) (fun lv' => nxt lv' st h rc rs) | _ => False)
  | .iconst n => nxt lv (.inl (ii n) :: st) h rc rs
  | .bipush n => nxt lv (.inl (ii n) :: st) h rc rs
  | .sipush n => nxt lv (.inl (ii n) :: st) h rc rs
  | .lconst n => nxt lv (.inr (.inl (jj (n.val : Nat))) :: st) h rc rs
  | .ldc _ => (match c with
    | 0 => nxt lv (.inl (ii (b : Nat)) :: st) h rc rs
    | _ => ∀ r, tr_tx h r (txt b) → nxt lv (.inr (.inr r) :: st) h rc rs)
  | .ldc2_w _ => nxt lv (.inr (.inl (jj (b : Nat))) :: st) h rc rs
  | .getfield _ => (match st with
    | .inr (.inr r) :: st' => ht h r = a ∧ (match c with
      | 0 => nxt lv (.inl (hI h r b) :: st') h rc rs
      | 1 => nxt lv (.inr (.inl (hJ h r b)) :: st') h rc rs
      | _ => nxt lv (.inr (.inr (hR h r b)) :: st') h rc rs)
    | _ => False)
  | .putfield _ => (match c, st with
    | 0, .inl v :: .inr (.inr r) :: st' => ht h r = a ∧ ∀ h', h' = hsI h r b v → nxt lv st' h' rc rs
    | 1, .inr (.inl v) :: .inr (.inr r) :: st' => ht h r = a ∧ ∀ h', h' = hsJ h r b v → nxt lv st' h' rc rs
    | 2, .inr (.inr v) :: .inr (.inr r) :: st' => ht h r = a ∧ ∀ h', h' = hsR h r b v → nxt lv st' h' rc rs
    | _, _ => False)
  | .iaload => (match st with | .inl x :: .inr (.inr r) :: st' => ht h r = a ∧ ixo x (hn h r) ∧ nxt lv (.inl (hI h r (ixn x)) :: st') h rc rs | _ => False)
  | .baload => (match st with | .inl x :: .inr (.inr r) :: st' => ht h r = a ∧ ixo x (hn h r) ∧ nxt lv (.inl (hI h r (ixn x)) :: st') h rc rs | _ => False)
  | .laload => (match st with | .inl x :: .inr (.inr r) :: st' => ht h r = a ∧ ixo x (hn h r) ∧ nxt lv (.inr (.inl (hJ h r (ixn x))) :: st') h rc rs | _ => False)
  | .aaload => (match st with | .inl x :: .inr (.inr r) :: st' => ht h r = a ∧ ixo x (hn h r) ∧ nxt lv (.inr (.inr (hR h r (ixn x))) :: st') h rc rs | _ => False)
  | .iastore => (match st with | .inl v :: .inl x :: .inr (.inr r) :: st' => ht h r = a ∧ ixo x (hn h r) ∧ ∀ h', h' = hsI h r (ixn x) v → nxt lv st' h' rc rs | _ => False)
  | .bastore => (match st with
    | .inl v :: .inl x :: .inr (.inr r) :: st' => ht h r = a ∧ ixo x (hn h r) ∧ (match c with
      | 0 => ∀ h', h' = hsI h r (ixn x) (tr_by v) → nxt lv st' h' rc rs
      | _ => ∀ h', h' = hsI h r (ixn x) (tr_nb v) → nxt lv st' h' rc rs)
    | _ => False)
  | .lastore => (match st with | .inr (.inl v) :: .inl x :: .inr (.inr r) :: st' => ht h r = a ∧ ixo x (hn h r) ∧ ∀ h', h' = hsJ h r (ixn x) v → nxt lv st' h' rc rs | _ => False)
  | .aastore => (match st with | .inr (.inr v) :: .inl x :: .inr (.inr r) :: st' => ht h r = a ∧ ixo x (hn h r) ∧ ht h v = b ∧ ∀ h', h' = hsR h r (ixn x) v → nxt lv st' h' rc rs | _ => False)
  | .arraylength => (match st with | .inr (.inr r) :: st' => ht h r = a ∧ nxt lv (.inl (ii (hn h r : Nat)) :: st') h rc rs | _ => False)
  | .new _ => (match c with
    | 0 => tr_ck 1 rc (tr_ck b rs (∀ r, r ≠ 0 → ht h r = 0 → ∀ h', h' = hnw h r a 0 → nxt lv (.inr (.inr r) :: st) h' (rc - 1) (rs - b)))
    | _ => tr_ck st.length 4 (tr_ck 1 rc (tr_ck 6 rs (Q (.inr a) h))))
  | .newarray _ => (match st with
    | .inl n :: st' => (match c with
      | 0 => 0 ≤ n.toInt ∧ n.toInt ≤ 20000 ∧ tr_ck 1 rc (ixn n ≤ rs ∧ ∀ r, r ≠ 0 → ht h r = 0 → ∀ h', h' = hnw h r a (ixn n) → nxt lv (.inr (.inr r) :: st') h' (rc - 1) (rs - ixn n))
      | _ => n = ii (b : Nat) ∧ tr_ck 1 rc (tr_ck b rs (∀ r, r ≠ 0 → ht h r = 0 → ∀ h', h' = hnw h r a b → nxt lv (.inr (.inr r) :: st') h' (rc - 1) (rs - b))))
    | _ => False)
  | .anewarray _ => (match st with
    | .inl n :: st' => n = ii (b : Nat) ∧ tr_ck 1 rc (tr_ck b rs (∀ r, r ≠ 0 → ht h r = 0 → ∀ h', h' = hnw h r a b → nxt lv (.inr (.inr r) :: st') h' (rc - 1) (rs - b)))
    | _ => False)
  | .checkcast _ => (match st with | .inr (.inr r) :: _ => ht h r = a ∧ nxt lv st h rc rs | _ => False)
  | .iadd => (match st with | .inl y :: .inl x :: st' => nxt lv (.inl (x + y) :: st') h rc rs | _ => False)
  | .isub => (match st with | .inl y :: .inl x :: st' => nxt lv (.inl (x - y) :: st') h rc rs | _ => False)
  | .imul => (match st with | .inl y :: .inl x :: st' => nxt lv (.inl (x * y) :: st') h rc rs | _ => False)
  | .irem => (match st with | .inl y :: .inl x :: st' => ¬ y = ii 0 ∧ nxt lv (.inl (tr_rem x y) :: st') h rc rs | _ => False)
  | .iand => (match st with | .inl y :: .inl x :: st' => nxt lv (.inl (x &&& y) :: st') h rc rs | _ => False)
  | .ior => (match st with | .inl y :: .inl x :: st' => nxt lv (.inl (x ||| y) :: st') h rc rs | _ => False)
  | .ixor => (match st with | .inl y :: .inl x :: st' => nxt lv (.inl (x ^^^ y) :: st') h rc rs | _ => False)
  | .ishl => (match st with | .inl y :: .inl x :: st' => nxt lv (.inl (x <<< (y &&& 31)) :: st') h rc rs | _ => False)
  | .ishr => (match st with | .inl y :: .inl x :: st' => nxt lv (.inl (x >>> (y &&& 31)) :: st') h rc rs | _ => False)
  | .ladd => (match st with | .inr (.inl y) :: .inr (.inl x) :: st' => nxt lv (.inr (.inl (x + y)) :: st') h rc rs | _ => False)
  | .lsub => (match st with | .inr (.inl y) :: .inr (.inl x) :: st' => nxt lv (.inr (.inl (x - y)) :: st') h rc rs | _ => False)
  | .lmul => (match st with | .inr (.inl y) :: .inr (.inl x) :: st' => nxt lv (.inr (.inl (x * y)) :: st') h rc rs | _ => False)
  | .ldiv => (match st with | .inr (.inl y) :: .inr (.inl x) :: st' => ¬ y = jj 0 ∧ nxt lv (.inr (.inl (x / y)) :: st') h rc rs | _ => False)
  | .lrem => (match st with | .inr (.inl y) :: .inr (.inl x) :: st' => ¬ y = jj 0 ∧ nxt lv (.inr (.inl (tr_lrem x y)) :: st') h rc rs | _ => False)
  | .lcmp => (match st with | .inr (.inl y) :: .inr (.inl x) :: st' => nxt lv (.inl (lg_cmp x y) :: st') h rc rs | _ => False)
  | .i2l => (match st with | .inl x :: st' => nxt lv (.inr (.inl x.toInt64) :: st') h rc rs | _ => False)
  | .i2b => (match st with | .inl x :: st' => nxt lv (.inl (tr_by x) :: st') h rc rs | _ => False)
  | .dup => (match st with
    | .inl x :: st' => nxt lv (.inl x :: .inl x :: st') h rc rs
    | .inr (.inr x) :: st' => nxt lv (.inr (.inr x) :: .inr (.inr x) :: st') h rc rs
    | _ => False)
  | .dup2 => (match st with
    | .inl x :: .inr (.inr y) :: st' => nxt lv (.inl x :: .inr (.inr y) :: .inl x :: .inr (.inr y) :: st') h rc rs
    | _ => False)
  | .pop => (match st with
    | .inl _ :: st' => nxt lv st' h rc rs
    | .inr (.inr _) :: st' => nxt lv st' h rc rs
    | _ => False)
  | .ifCond cd _ => (match st with | .inl x :: st' => tr_if cd x (ii 0) (jmp a lv st' h rc rs) (nxt lv st' h rc rs) | _ => False)
  | .if_icmp cd _ => (match st with | .inl y :: .inl x :: st' => tr_if cd x y (jmp a lv st' h rc rs) (nxt lv st' h rc rs) | _ => False)
  | .goto _ => jmp a lv st h rc rs
  | .tableswitch _ lo _ offs => (match st with | .inl x :: st' => tr_tsw (fun t => jmp t lv st' h rc rs) a pc x lo offs.toList | _ => False)
  | .lookupswitch _ ps => (match st with | .inl x :: st' => tr_lsw (fun t => jmp t lv st' h rc rs) a pc x ps.toList | _ => False)
  | .invokevirtual _ => (match a with
    | 1004 => (match st with | .inr (.inr q) :: st' => ht h q = b ∧ hn h q = c ∧ tr_ck st'.length 4 (tr_ck 1 rc (tr_ck c rs (∀ r, r ≠ 0 → ht h r = 0 → ∀ h', h' = hcl h r q → nxt lv (.inr (.inr r) :: st') h' (rc - 1) (rs - c)))) | _ => False)
    | 1005 => (match st with | .inr (.inr q) :: st' => ht h q = 18 ∧ tr_ck st'.length 4 (nxt lv (.inl (ii (hn h q : Nat)) :: st') h rc rs) | _ => False)
    | 1006 => (match st with | .inl x :: .inr (.inr q) :: st' => ht h q = 18 ∧ ixo x (hn h q) ∧ tr_ck st'.length 4 (nxt lv (.inl (hI h q (ixn x)) :: st') h rc rs) | _ => False)
    | a => tr_call C hdl X jmp nxt a b c d e f lv st h rc rs)
  | .invokespecial _ => (match a with
    | 9999 => False
    | 1000 => (match st with | .inr (.inr r) :: st' => ¬ ht h r = 0 ∧ tr_ck st'.length 4 (nxt lv st' h rc rs) | _ => False)
    | a => tr_call C hdl X jmp nxt a b c d e f lv st h rc rs)
  | .invokestatic _ => (match a with
    | 1001 => (match st with | .inl y :: .inl x :: st' => tr_ck st'.length 4 (nxt lv (.inl (if y < x then y else x) :: st') h rc rs) | _ => False)
    | 1002 => (match st with | .inl y :: .inl x :: st' => tr_ck st'.length 4 (nxt lv (.inl (if x < y then y else x) :: st') h rc rs) | _ => False)
    | 1003 => (match st with
      | .inl n :: .inl dp :: .inr (.inr r) :: .inl sp :: .inr (.inr q) :: st' => ht h q = 15 ∧ ht h r = 15 ∧ 0 ≤ sp.toInt ∧ 0 ≤ dp.toInt ∧ 0 ≤ n.toInt ∧ ixn sp + ixn n ≤ hn h q ∧ ixn dp + ixn n ≤ hn h r ∧ (∀ i, i < ixn n → hR h q (ixn sp + i) = 0 ∨ ht h (hR h q (ixn sp + i)) = 7) ∧ tr_ck st'.length 4 (∀ h', h' = hcp h q (ixn sp) r (ixn dp) (ixn n) → nxt lv st' h' rc rs)
      | _ => False)
    | a => tr_call C hdl X jmp nxt a b c 0 e f lv st h rc rs)
  | .ireturn => (match st with
    | [.inl x] => (match c with
      | 0 => Q (.inl (some (.inl x))) h
      | _ => Q (.inl (some (.inl (tr_nb x)))) h)
    | _ => False)
  | .lreturn => (match st with | [.inr (.inl x)] => Q (.inl (some (.inr (.inl x)))) h | _ => False)
  | .return_ => (match st with | [] => Q (.inl none) h | _ => False)
  | _ => False
end TRS
def tr_sfx (t : Nat) : List tr_En → List tr_En
  | [] => []
  | e :: es => if Nat.beq e.1 t then e :: es else tr_sfx t es
def tr_lk {α : Type} (k : Nat) : List (Nat × α) → Option α
  | [] => none
  | q :: qs => if Nat.beq q.1 k then some q.2 else tr_lk k qs
/-- the number of what the law's handlers take, by the entry -/
def tr_hx (ct : Nat) : Nat := match ct with
  | 13 => 1
  | 19 => 2
  | 25 => 0
  | _ => 9
/-- what is known not to be taken by a handler of another -/
def tr_np (E X : Nat) : Bool := (Nat.beq E 1 && Nat.beq X 0) || (Nat.beq E 2 && Nat.beq X 1)
def tr_hd (hs : List (Nat × Nat × Nat × Nat)) (pc E : Nat) : Option Nat := match hs with
  | [] => none
  | (f, t, p, ct) :: hs' => if Nat.ble f pc && Nat.blt pc t then (if Nat.beq (tr_hx ct) E then some p else if tr_np E (tr_hx ct) then tr_hd hs' pc E else none) else tr_hd hs' pc E
def tr_X (hs : List (Nat × Nat × Nat × Nat)) (Q : tr_Q) : Nat → tr_H → Prop := fun E h => match hs with
  | [] => Q (.inr E) h
  | _ => False
section TRW
variable (C : Nat → List tr_V → tr_H → tr_Q → Prop) (txt : Nat → List Nat) (tbl : List tr_En) (hs : List (Nat × Nat × Nat × Nat)) (cuts : List (Nat × List Bool)) (K : Nat → tr_K) (Q : tr_Q)
def tr_at (w : List tr_En → tr_K) (es : List tr_En) : tr_K := fun lv st h rc rs => match es with
  | [] => False
  | e :: _ => (match tr_lk e.1 cuts with
    | some bs => K e.1 (lvp bs lv) st h rc rs
    | none => w es lv st h rc rs)
/-- the weakest start from which the code comes to its cuts or to its end -/
def tr_wp : Nat → List tr_En → tr_K := fun n => Nat.rec (motive := fun _ => List tr_En → tr_K) (fun _ _ _ _ _ _ => False)
  (fun _ w es lv st h rc rs => match es with
    | [] => False
    | e :: es' => tr_step C txt (tr_hd hs e.1) (tr_X hs Q) (fun t => tr_at cuts K w (tr_sfx t tbl)) (tr_at cuts K w es') Q e.1 e.2.1 e.2.2.2.1 e.2.2.2.2.1 e.2.2.2.2.2.1 e.2.2.2.2.2.2.1 e.2.2.2.2.2.2.2.1 e.2.2.2.2.2.2.2.2 lv st h rc rs) n
theorem tr_wp_succ (n : Nat) (e : tr_En) (es : List tr_En) (lv : tr_L) (st : List tr_V) (h : tr_H) (rc rs : Nat) : tr_wp C txt tbl hs cuts K Q (n + 1) (e :: es) lv st h rc rs = tr_step C txt (tr_hd hs e.1) (tr_X hs Q) (fun t => tr_at cuts K (tr_wp C txt tbl hs cuts K Q n) (tr_sfx t tbl)) (tr_at cuts K (tr_wp C txt tbl hs cuts K Q n) es) Q e.1 e.2.1 e.2.2.2.1 e.2.2.2.2.1 e.2.2.2.2.2.1 e.2.2.2.2.2.2.1 e.2.2.2.2.2.2.2.1 e.2.2.2.2.2.2.2.2 lv st h rc rs := rfl
end TRW
