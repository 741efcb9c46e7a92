/-! THE ABSTRACT MACHINE. Values: an int, a long, a reference (0 is null, r + 1 is the cell r). Heaps: total typed functions; tag 0: nothing known. -/
abbrev tr_V : Type := Int32 ⊕ (Int64 ⊕ Nat)
def tr_o : Nat → Option Nat
  | 0 => none
  | a + 1 => some a
def tr_cv : tr_V → Value
  | .inl x => .int x
  | .inr (.inl x) => .long x
  | .inr (.inr r) => va_rf (tr_o r)
/-- tag, length, ints, longs, references -/
abbrev tr_H : Type := (Nat → Nat) × (Nat → Nat) × (Nat → Nat → Int32) × (Nat → Nat → Int64) × (Nat → Nat → Nat)
def ht (h : tr_H) : Nat → Nat := h.1
def hn (h : tr_H) : Nat → Nat := h.2.1
def hI (h : tr_H) : Nat → Nat → Int32 := h.2.2.1
def hJ (h : tr_H) : Nat → Nat → Int64 := h.2.2.2.1
def hR (h : tr_H) : Nat → Nat → Nat := h.2.2.2.2
def up1 {α : Type} (f : Nat → α) (a : Nat) (v : α) : Nat → α := fun x => if x = a then v else f x
def up2 {α : Type} (f : Nat → Nat → α) (a k : Nat) (v : α) : Nat → Nat → α := fun x j => if x = a then (if j = k then v else f x j) else f x j
def hsI (h : tr_H) (r k : Nat) (v : Int32) : tr_H := (ht h, hn h, up2 (hI h) r k v, hJ h, hR h)
def hsJ (h : tr_H) (r k : Nat) (v : Int64) : tr_H := (ht h, hn h, hI h, up2 (hJ h) r k v, hR h)
def hsR (h : tr_H) (r k : Nat) (v : Nat) : tr_H := (ht h, hn h, hI h, hJ h, up2 (hR h) r k v)
/-- a new cell of a tag and a length -/
def hnw (h : tr_H) (r t n : Nat) : tr_H := (up1 (ht h) r t, up1 (hn h) r n, up1 (hI h) r (fun _ => 0), up1 (hJ h) r (fun _ => 0), up1 (hR h) r (fun _ => 0))
/-- a copy of a cell -/
def hcl (h : tr_H) (r q : Nat) : tr_H := (up1 (ht h) r (ht h q), up1 (hn h) r (hn h q), up1 (hI h) r (hI h q), up1 (hJ h) r (hJ h q), up1 (hR h) r (hR h q))
/-- references copied from one row to another -/
def hcp (h : tr_H) (q sp r dp n : Nat) : tr_H := (ht h, hn h, hI h, hJ h, up1 (hR h) r (va_cpy (hR h q) (hR h r) sp dp n))
def ii (z : Int) : Int32 := Int32.ofInt z
def jj (z : Int) : Int64 := Int64.ofInt z
def ixn (i : Int32) : Nat := i.toNatClampNeg
def ixo (i : Int32) (n : Nat) : Prop := 0 ≤ i.toInt ∧ i.toInt < n
def tr_rem (x y : Int32) : Int32 := x - x / y * y
def tr_lrem (x y : Int64) : Int64 := x - x / y * y
def tr_nb (x : Int32) : Int32 := vp_nar .boolean x
def tr_by (x : Int32) : Int32 := vp_nar .byte x
/-- results: an answer, or the number of what was thrown -/
abbrev tr_Rs : Type := Option tr_V ⊕ Nat
abbrev tr_Q : Type := tr_Rs → tr_H → Prop
def kV (f : tr_H → Prop) (x : Nat → tr_H → Prop) : tr_Q := fun r h => match r with
  | .inl none => f h
  | .inr E => x E h
  | _ => False
def kI (f : Int32 → tr_H → Prop) (x : Nat → tr_H → Prop) : tr_Q := fun r h => match r with
  | .inl (some (.inl v)) => f v h
  | .inr E => x E h
  | _ => False
def kJ (f : Int64 → tr_H → Prop) (x : Nat → tr_H → Prop) : tr_Q := fun r h => match r with
  | .inl (some (.inr (.inl v))) => f v h
  | .inr E => x E h
  | _ => False
/-- pc, instruction, length, what Python has resolved -/
abbrev tr_En : Type := Nat × Instr × Nat × Nat × Nat × Nat × Nat × Nat × Nat
abbrev tr_L : Type := List (Option tr_V)
abbrev tr_K : Type := tr_L → List tr_V → tr_H → Nat → Nat → Prop
def lvg (lv : tr_L) (k : Nat) : Option tr_V := lv.getD k none
def isJ : Option tr_V → Bool
  | some (.inr (.inl _)) => true
  | _ => false
/-- a store: what lay there and a long that reached into it are gone -/
def lvs1 (lv : tr_L) (k : Nat) (v : tr_V) : tr_L := match k with
  | 0 => lv.set 0 (some v)
  | k + 1 => (if isJ (lvg lv k) then lv.set k none else lv).set (k + 1) (some v)
def lvs2 (lv : tr_L) (k : Nat) (v : tr_V) : tr_L := (lvs1 lv k v).set (k + 1) none
/-- the same, laid out -/
def lvn : tr_L → (tr_L → Prop) → Prop
  | [], k => k []
  | v :: lv, k => lvn lv (fun l => k (v :: l))
theorem lvn_eq : ∀ (lv : tr_L) (k : tr_L → Prop), lvn lv k = k lv
  | [], _ => rfl
  | v :: lv, k => lvn_eq lv (fun l => k (v :: l))
/-- only some are kept -/
def lvp : List Bool → tr_L → tr_L
  | true :: bs, v :: lv => v :: lvp bs lv
  | false :: bs, _ :: lv => none :: lvp bs lv
  | _, _ => []
def tr_tsw (jmp : Nat → Prop) (dflt : Nat) (pc : Nat) (x : Int32) : Int → List Int → Prop
  | _, [] => jmp dflt
  | k, o :: os => (x = ii k → jmp ((pc : Int) + o).toNat) ∧ (¬ x = ii k → tr_tsw jmp dflt pc x (k + 1) os)
def tr_lsw (jmp : Nat → Prop) (dflt : Nat) (pc : Nat) (x : Int32) : List (Int × Int) → Prop
  | [] => jmp dflt
  | (k, o) :: os => (x = ii k → jmp ((pc : Int) + o).toNat) ∧ (¬ x = ii k → tr_lsw jmp dflt pc x os)
def tr_if (c : ClassFile.Cond) (x y : Int32) (a b : Prop) : Prop := match c with
  | .eq => (x = y → a) ∧ (¬ x = y → b)
  | .ne => (x = y → b) ∧ (¬ x = y → a)
  | .lt => (x < y → a) ∧ (¬ x < y → b)
  | .ge => (x < y → b) ∧ (¬ x < y → a)
  | .gt => (x ≤ y → b) ∧ (¬ x ≤ y → a)
  | .le => (x ≤ y → a) ∧ (¬ x ≤ y → b)
/-- texts of the constants, by number -/
def tr_tx (h : tr_H) (r : Nat) (cs : List Nat) : Prop := ht h r = 18 ∧ hn h r = cs.length ∧ ∀ k, k < cs.length → hI h r k = ii (cs.getD k 0 : Nat)
def tr_ck (b r : Nat) (P : Prop) : Prop := match Nat.ble b r with
  | true => P
  | false => False
section TRS
variable (C : Nat → List tr_V → tr_H → tr_Q → Prop) (txt : Nat → List Nat) (hdl : Nat → Option Nat) (X : Nat → tr_H → Prop) (jmp : Nat → tr_K) (nxt : tr_K) (Q : tr_Q)
/-- a call of the method a with b things on the stack, its answer's kind c, the tag d of what it is called upon, room for e cells and f slots -/
def tr_call (a b c d e f : Nat) (lv : tr_L) (st : List tr_V) (h : tr_H) (rc rs : Nat) : Prop :=
  let rest := st.drop b
  let thr := fun (E : Nat) (h' : tr_H) => match hdl E with
    | none => X E h'
    | some p => ∀ r, jmp p lv [.inr (.inr r)] h' (rc - e) (rs - f)
  let k : tr_Q := match c with
    | 0 => kV (fun h' => nxt lv rest h' (rc - e) (rs - f)) thr
    | 1 => kI (fun v h' => nxt lv (.inl v :: rest) h' (rc - e) (rs - f)) thr
    | _ => kJ (fun v h' => nxt lv (.inr (.inl v) :: rest) h' (rc - e) (rs - f)) thr
  let args := (st.take b).reverse
  match d with
  | 0 => tr_ck b st.length (tr_ck rest.length 4 (tr_ck e rc (tr_ck f rs (C a args h k))))
  | d => (match args with
    | .inr (.inr r) :: _ => ht h r = d ∧ tr_ck b st.length (tr_ck rest.length 4 (tr_ck e rc (tr_ck f rs (C a args h k))))
    | _ => False)
end TRS
def ts_aload (C : Nat → List tr_V → tr_H → tr_Q → Prop) (txt : Nat → List Nat) (hdl : Nat → Option Nat) (X : Nat → tr_H → Prop) (jmp : Nat → tr_K) (nxt : tr_K) (Q : tr_Q) (pc a b c d e f : Nat) (lv : tr_L) (st : List tr_V) (h : tr_H) (rc rs : Nat) (k : Nat) : Prop :=
  (match lvg lv k with | some (.inr (.inr r)) => nxt lv (.inr (.inr r) :: st) h rc rs | _ => False)
def ts_aload_n (C : Nat → List tr_V → tr_H → tr_Q → Prop) (txt : Nat → List Nat) (hdl : Nat → Option Nat) (X : Nat → tr_H → Prop) (jmp : Nat → tr_K) (nxt : tr_K) (Q : tr_Q) (pc a b c d e f : Nat) (lv : tr_L) (st : List tr_V) (h : tr_H) (rc rs : Nat) (k : Fin 4) : Prop :=
  (match lvg lv k.val with | some (.inr (.inr r)) => nxt lv (.inr (.inr r) :: st) h rc rs | _ => False)
def ts_iload (C : Nat → List tr_V → tr_H → tr_Q → Prop) (txt : Nat → List Nat) (hdl : Nat → Option Nat) (X : Nat → tr_H → Prop) (jmp : Nat → tr_K) (nxt : tr_K) (Q : tr_Q) (pc a b c d e f : Nat) (lv : tr_L) (st : List tr_V) (h : tr_H) (rc rs : Nat) (k : Nat) : Prop :=
  (match lvg lv k with | some (.inl x) => nxt lv (.inl x :: st) h rc rs | _ => False)
def ts_iload_n (C : Nat → List tr_V → tr_H → tr_Q → Prop) (txt : Nat → List Nat) (hdl : Nat → Option Nat) (X : Nat → tr_H → Prop) (jmp : Nat → tr_K) (nxt : tr_K) (Q : tr_Q) (pc a b c d e f : Nat) (lv : tr_L) (st : List tr_V) (h : tr_H) (rc rs : Nat) (k : Fin 4) : Prop :=
  (match lvg lv k.val with | some (.inl x) => nxt lv (.inl x :: st) h rc rs | _ => False)
def ts_lload (C : Nat → List tr_V → tr_H → tr_Q → Prop) (txt : Nat → List Nat) (hdl : Nat → Option Nat) (X : Nat → tr_H → Prop) (jmp : Nat → tr_K) (nxt : tr_K) (Q : tr_Q) (pc a b c d e f : Nat) (lv : tr_L) (st : List tr_V) (h : tr_H) (rc rs : Nat) (k : Nat) : Prop :=
  (match lvg lv k with | some (.inr (.inl x)) => nxt lv (.inr (.inl x) :: st) h rc rs | _ => False)
def ts_lload_n (C : Nat → List tr_V → tr_H → tr_Q → Prop) (txt : Nat → List Nat) (hdl : Nat → Option Nat) (X : Nat → tr_H → Prop) (jmp : Nat → tr_K) (nxt : tr_K) (Q : tr_Q) (pc a b c d e f : Nat) (lv : tr_L) (st : List tr_V) (h : tr_H) (rc rs : Nat) (k : Fin 4) : Prop :=
  (match lvg lv k.val with | some (.inr (.inl x)) => nxt lv (.inr (.inl x) :: st) h rc rs | _ => False)
def ts_istore (C : Nat → List tr_V → tr_H → tr_Q → Prop) (txt : Nat → List Nat) (hdl : Nat → Option Nat) (X : Nat → tr_H → Prop) (jmp : Nat → tr_K) (nxt : tr_K) (Q : tr_Q) (pc a b c d e f : Nat) (lv : tr_L) (st : List tr_V) (h : tr_H) (rc rs : Nat) (k : Nat) : Prop :=
  (match st with | .inl x :: st' => lvn (lvs1 lv k (.inl x)) (fun lv' => nxt lv' st' h rc rs) | _ => False)
def ts_istore_n (C : Nat → List tr_V → tr_H → tr_Q → Prop) (txt : Nat → List Nat) (hdl : Nat → Option Nat) (X : Nat → tr_H → Prop) (jmp : Nat → tr_K) (nxt : tr_K) (Q : tr_Q) (pc a b c d e f : Nat) (lv : tr_L) (st : List tr_V) (h : tr_H) (rc rs : Nat) (k : Fin 4) : Prop :=
  (match st with | .inl x :: st' => lvn (lvs1 lv k.val (.inl x)) (fun lv' => nxt lv' st' h rc rs) | _ => False)
def ts_astore (C : Nat → List tr_V → tr_H → tr_Q → Prop) (txt : Nat → List Nat) (hdl : Nat → Option Nat) (X : Nat → tr_H → Prop) (jmp : Nat → tr_K) (nxt : tr_K) (Q : tr_Q) (pc a b c d e f : Nat) (lv : tr_L) (st : List tr_V) (h : tr_H) (rc rs : Nat) (k : Nat) : Prop :=
  (match st with | .inr (.inr x) :: st' => lvn (lvs1 lv k (.inr (.inr x))) (fun lv' => nxt lv' st' h rc rs) | _ => False)
def ts_astore_n (C : Nat → List tr_V → tr_H → tr_Q → Prop) (txt : Nat → List Nat) (hdl : Nat → Option Nat) (X : Nat → tr_H → Prop) (jmp : Nat → tr_K) (nxt : tr_K) (Q : tr_Q) (pc a b c d e f : Nat) (lv : tr_L) (st : List tr_V) (h : tr_H) (rc rs : Nat) (k : Fin 4) : Prop :=
  (match st with | .inr (.inr x) :: st' => lvn (lvs1 lv k.val (.inr (.inr x))) (fun lv' => nxt lv' st' h rc rs) | _ => False)
def ts_lstore (C : Nat → List tr_V → tr_H → tr_Q → Prop) (txt : Nat → List Nat) (hdl : Nat → Option Nat) (X : Nat → tr_H → Prop) (jmp : Nat → tr_K) (nxt : tr_K) (Q : tr_Q) (pc a b c d e f : Nat) (lv : tr_L) (st : List tr_V) (h : tr_H) (rc rs : Nat) (k : Nat) : Prop :=
  (match st with | .inr (.inl x) :: st' => lvn (lvs2 lv k (.inr (.inl x))) (fun lv' => nxt lv' st' h rc rs) | _ => False)
def ts_lstore_n (C : Nat → List tr_V → tr_H → tr_Q → Prop) (txt : Nat → List Nat) (hdl : Nat → Option Nat) (X : Nat → tr_H → Prop) (jmp : Nat → tr_K) (nxt : tr_K) (Q : tr_Q) (pc a b c d e f : Nat) (lv : tr_L) (st : List tr_V) (h : tr_H) (rc rs : Nat) (k : Fin 4) : Prop :=
  (match st with | .inr (.inl x) :: st' => lvn (lvs2 lv k.val (.inr (.inl x))) (fun lv' => nxt lv' st' h rc rs) | _ => False)
def ts_iinc (C : Nat → List tr_V → tr_H → tr_Q → Prop) (txt : Nat → List Nat) (hdl : Nat → Option Nat) (X : Nat → tr_H → Prop) (jmp : Nat → tr_K) (nxt : tr_K) (Q : tr_Q) (pc a b c d e f : Nat) (lv : tr_L) (st : List tr_V) (h : tr_H) (rc rs : Nat) (k : Nat) (n : Int) : Prop :=
  (match lvg lv k with | some (.inl x) => lvn (lvs1 lv k (.inl (x + ii n))) (fun lv' => nxt lv' st h rc rs) | _ => False)
def ts_iconst (C : Nat → List tr_V → tr_H → tr_Q → Prop) (txt : Nat → List Nat) (hdl : Nat → Option Nat) (X : Nat → tr_H → Prop) (jmp : Nat → tr_K) (nxt : tr_K) (Q : tr_Q) (pc a b c d e f : Nat) (lv : tr_L) (st : List tr_V) (h : tr_H) (rc rs : Nat) (n : Int) : Prop :=
  nxt lv (.inl (ii n) :: st) h rc rs
def ts_bipush (C : Nat → List tr_V → tr_H → tr_Q → Prop) (txt : Nat → List Nat) (hdl : Nat → Option Nat) (X : Nat → tr_H → Prop) (jmp : Nat → tr_K) (nxt : tr_K) (Q : tr_Q) (pc a b c d e f : Nat) (lv : tr_L) (st : List tr_V) (h : tr_H) (rc rs : Nat) (n : Int) : Prop :=
  nxt lv (.inl (ii n) :: st) h rc rs
def ts_sipush (C : Nat → List tr_V → tr_H → tr_Q → Prop) (txt : Nat → List Nat) (hdl : Nat → Option Nat) (X : Nat → tr_H → Prop) (jmp : Nat → tr_K) (nxt : tr_K) (Q : tr_Q) (pc a b c d e f : Nat) (lv : tr_L) (st : List tr_V) (h : tr_H) (rc rs : Nat) (n : Int) : Prop :=
  nxt lv (.inl (ii n) :: st) h rc rs
def ts_lconst (C : Nat → List tr_V → tr_H → tr_Q → Prop) (txt : Nat → List Nat) (hdl : Nat → Option Nat) (X : Nat → tr_H → Prop) (jmp : Nat → tr_K) (nxt : tr_K) (Q : tr_Q) (pc a b c d e f : Nat) (lv : tr_L) (st : List tr_V) (h : tr_H) (rc rs : Nat) (n : Fin 2) : Prop :=
  nxt lv (.inr (.inl (jj (n.val : Nat))) :: st) h rc rs
def ts_ldc (C : Nat → List tr_V → tr_H → tr_Q → Prop) (txt : Nat → List Nat) (hdl : Nat → Option Nat) (X : Nat → tr_H → Prop) (jmp : Nat → tr_K) (nxt : tr_K) (Q : tr_Q) (pc a b c d e f : Nat) (lv : tr_L) (st : List tr_V) (h : tr_H) (rc rs : Nat) : Prop :=
  (match c with
    | 0 => nxt lv (.inl (ii (b : Nat)) :: st) h rc rs
    | _ => ∀ r, tr_tx h r (txt b) → nxt lv (.inr (.inr r) :: st) h rc rs)
def ts_ldc2_w (C : Nat → List tr_V → tr_H → tr_Q → Prop) (txt : Nat → List Nat) (hdl : Nat → Option Nat) (X : Nat → tr_H → Prop) (jmp : Nat → tr_K) (nxt : tr_K) (Q : tr_Q) (pc a b c d e f : Nat) (lv : tr_L) (st : List tr_V) (h : tr_H) (rc rs : Nat) : Prop :=
  nxt lv (.inr (.inl (jj (b : Nat))) :: st) h rc rs
def ts_getfield (C : Nat → List tr_V → tr_H → tr_Q → Prop) (txt : Nat → List Nat) (hdl : Nat → Option Nat) (X : Nat → tr_H → Prop) (jmp : Nat → tr_K) (nxt : tr_K) (Q : tr_Q) (pc a b c d e f : Nat) (lv : tr_L) (st : List tr_V) (h : tr_H) (rc rs : Nat) : Prop :=
  (match st with
    | .inr (.inr r) :: st' => ht h r = a ∧ (match c with
      | 0 => nxt lv (.inl (hI h r b) :: st') h rc rs
      | 1 => nxt lv (.inr (.inl (hJ h r b)) :: st') h rc rs
      | _ => nxt lv (.inr (.inr (hR h r b)) :: st') h rc rs)
    | _ => False)
def ts_putfield (C : Nat → List tr_V → tr_H → tr_Q → Prop) (txt : Nat → List Nat) (hdl : Nat → Option Nat) (X : Nat → tr_H → Prop) (jmp : Nat → tr_K) (nxt : tr_K) (Q : tr_Q) (pc a b c d e f : Nat) (lv : tr_L) (st : List tr_V) (h : tr_H) (rc rs : Nat) : Prop :=
  (match c, st with
    | 0, .inl v :: .inr (.inr r) :: st' => ht h r = a ∧ ∀ h', h' = hsI h r b v → nxt lv st' h' rc rs
    | 1, .inr (.inl v) :: .inr (.inr r) :: st' => ht h r = a ∧ ∀ h', h' = hsJ h r b v → nxt lv st' h' rc rs
    | 2, .inr (.inr v) :: .inr (.inr r) :: st' => ht h r = a ∧ ∀ h', h' = hsR h r b v → nxt lv st' h' rc rs
    | _, _ => False)
def ts_iaload (C : Nat → List tr_V → tr_H → tr_Q → Prop) (txt : Nat → List Nat) (hdl : Nat → Option Nat) (X : Nat → tr_H → Prop) (jmp : Nat → tr_K) (nxt : tr_K) (Q : tr_Q) (pc a b c d e f : Nat) (lv : tr_L) (st : List tr_V) (h : tr_H) (rc rs : Nat) : Prop :=
  (match st with | .inl x :: .inr (.inr r) :: st' => ht h r = a ∧ ixo x (hn h r) ∧ nxt lv (.inl (hI h r (ixn x)) :: st') h rc rs | _ => False)
def ts_baload (C : Nat → List tr_V → tr_H → tr_Q → Prop) (txt : Nat → List Nat) (hdl : Nat → Option Nat) (X : Nat → tr_H → Prop) (jmp : Nat → tr_K) (nxt : tr_K) (Q : tr_Q) (pc a b c d e f : Nat) (lv : tr_L) (st : List tr_V) (h : tr_H) (rc rs : Nat) : Prop :=
  (match st with | .inl x :: .inr (.inr r) :: st' => ht h r = a ∧ ixo x (hn h r) ∧ nxt lv (.inl (hI h r (ixn x)) :: st') h rc rs | _ => False)
def ts_laload (C : Nat → List tr_V → tr_H → tr_Q → Prop) (txt : Nat → List Nat) (hdl : Nat → Option Nat) (X : Nat → tr_H → Prop) (jmp : Nat → tr_K) (nxt : tr_K) (Q : tr_Q) (pc a b c d e f : Nat) (lv : tr_L) (st : List tr_V) (h : tr_H) (rc rs : Nat) : Prop :=
  (match st with | .inl x :: .inr (.inr r) :: st' => ht h r = a ∧ ixo x (hn h r) ∧ nxt lv (.inr (.inl (hJ h r (ixn x))) :: st') h rc rs | _ => False)
def ts_aaload (C : Nat → List tr_V → tr_H → tr_Q → Prop) (txt : Nat → List Nat) (hdl : Nat → Option Nat) (X : Nat → tr_H → Prop) (jmp : Nat → tr_K) (nxt : tr_K) (Q : tr_Q) (pc a b c d e f : Nat) (lv : tr_L) (st : List tr_V) (h : tr_H) (rc rs : Nat) : Prop :=
  (match st with | .inl x :: .inr (.inr r) :: st' => ht h r = a ∧ ixo x (hn h r) ∧ nxt lv (.inr (.inr (hR h r (ixn x))) :: st') h rc rs | _ => False)
def ts_iastore (C : Nat → List tr_V → tr_H → tr_Q → Prop) (txt : Nat → List Nat) (hdl : Nat → Option Nat) (X : Nat → tr_H → Prop) (jmp : Nat → tr_K) (nxt : tr_K) (Q : tr_Q) (pc a b c d e f : Nat) (lv : tr_L) (st : List tr_V) (h : tr_H) (rc rs : Nat) : Prop :=
  (match st with | .inl v :: .inl x :: .inr (.inr r) :: st' => ht h r = a ∧ ixo x (hn h r) ∧ ∀ h', h' = hsI h r (ixn x) v → nxt lv st' h' rc rs | _ => False)
def ts_bastore (C : Nat → List tr_V → tr_H → tr_Q → Prop) (txt : Nat → List Nat) (hdl : Nat → Option Nat) (X : Nat → tr_H → Prop) (jmp : Nat → tr_K) (nxt : tr_K) (Q : tr_Q) (pc a b c d e f : Nat) (lv : tr_L) (st : List tr_V) (h : tr_H) (rc rs : Nat) : Prop :=
  (match st with
    | .inl v :: .inl x :: .inr (.inr r) :: st' => ht h r = a ∧ ixo x (hn h r) ∧ (match c with
      | 0 => ∀ h', h' = hsI h r (ixn x) (tr_by v) → nxt lv st' h' rc rs
      | _ => ∀ h', h' = hsI h r (ixn x) (tr_nb v) → nxt lv st' h' rc rs)
    | _ => False)
def ts_lastore (C : Nat → List tr_V → tr_H → tr_Q → Prop) (txt : Nat → List Nat) (hdl : Nat → Option Nat) (X : Nat → tr_H → Prop) (jmp : Nat → tr_K) (nxt : tr_K) (Q : tr_Q) (pc a b c d e f : Nat) (lv : tr_L) (st : List tr_V) (h : tr_H) (rc rs : Nat) : Prop :=
  (match st with | .inr (.inl v) :: .inl x :: .inr (.inr r) :: st' => ht h r = a ∧ ixo x (hn h r) ∧ ∀ h', h' = hsJ h r (ixn x) v → nxt lv st' h' rc rs | _ => False)
def ts_aastore (C : Nat → List tr_V → tr_H → tr_Q → Prop) (txt : Nat → List Nat) (hdl : Nat → Option Nat) (X : Nat → tr_H → Prop) (jmp : Nat → tr_K) (nxt : tr_K) (Q : tr_Q) (pc a b c d e f : Nat) (lv : tr_L) (st : List tr_V) (h : tr_H) (rc rs : Nat) : Prop :=
  (match st with | .inr (.inr v) :: .inl x :: .inr (.inr r) :: st' => ht h r = a ∧ ixo x (hn h r) ∧ ht h v = b ∧ ∀ h', h' = hsR h r (ixn x) v → nxt lv st' h' rc rs | _ => False)
def ts_arraylength (C : Nat → List tr_V → tr_H → tr_Q → Prop) (txt : Nat → List Nat) (hdl : Nat → Option Nat) (X : Nat → tr_H → Prop) (jmp : Nat → tr_K) (nxt : tr_K) (Q : tr_Q) (pc a b c d e f : Nat) (lv : tr_L) (st : List tr_V) (h : tr_H) (rc rs : Nat) : Prop :=
  (match st with | .inr (.inr r) :: st' => ht h r = a ∧ nxt lv (.inl (ii (hn h r : Nat)) :: st') h rc rs | _ => False)
def ts_new (C : Nat → List tr_V → tr_H → tr_Q → Prop) (txt : Nat → List Nat) (hdl : Nat → Option Nat) (X : Nat → tr_H → Prop) (jmp : Nat → tr_K) (nxt : tr_K) (Q : tr_Q) (pc a b c d e f : Nat) (lv : tr_L) (st : List tr_V) (h : tr_H) (rc rs : Nat) : Prop :=
  (match c with
    | 0 => tr_ck 1 rc (tr_ck b rs (∀ r, r ≠ 0 → ht h r = 0 → ∀ h', h' = hnw h r a 0 → nxt lv (.inr (.inr r) :: st) h' (rc - 1) (rs - b)))
    | _ => tr_ck st.length 4 (tr_ck 1 rc (tr_ck 6 rs (Q (.inr a) h))))
def ts_newarray (C : Nat → List tr_V → tr_H → tr_Q → Prop) (txt : Nat → List Nat) (hdl : Nat → Option Nat) (X : Nat → tr_H → Prop) (jmp : Nat → tr_K) (nxt : tr_K) (Q : tr_Q) (pc a b c d e f : Nat) (lv : tr_L) (st : List tr_V) (h : tr_H) (rc rs : Nat) : Prop :=
  (match st with
    | .inl n :: st' => (match c with
      | 0 => 0 ≤ n.toInt ∧ n.toInt ≤ 20000 ∧ tr_ck 1 rc (ixn n ≤ rs ∧ ∀ r, r ≠ 0 → ht h r = 0 → ∀ h', h' = hnw h r a (ixn n) → nxt lv (.inr (.inr r) :: st') h' (rc - 1) (rs - ixn n))
      | _ => n = ii (b : Nat) ∧ tr_ck 1 rc (tr_ck b rs (∀ r, r ≠ 0 → ht h r = 0 → ∀ h', h' = hnw h r a b → nxt lv (.inr (.inr r) :: st') h' (rc - 1) (rs - b))))
    | _ => False)
def ts_anewarray (C : Nat → List tr_V → tr_H → tr_Q → Prop) (txt : Nat → List Nat) (hdl : Nat → Option Nat) (X : Nat → tr_H → Prop) (jmp : Nat → tr_K) (nxt : tr_K) (Q : tr_Q) (pc a b c d e f : Nat) (lv : tr_L) (st : List tr_V) (h : tr_H) (rc rs : Nat) : Prop :=
  (match st with
    | .inl n :: st' => n = ii (b : Nat) ∧ tr_ck 1 rc (tr_ck b rs (∀ r, r ≠ 0 → ht h r = 0 → ∀ h', h' = hnw h r a b → nxt lv (.inr (.inr r) :: st') h' (rc - 1) (rs - b)))
    | _ => False)
def ts_checkcast (C : Nat → List tr_V → tr_H → tr_Q → Prop) (txt : Nat → List Nat) (hdl : Nat → Option Nat) (X : Nat → tr_H → Prop) (jmp : Nat → tr_K) (nxt : tr_K) (Q : tr_Q) (pc a b c d e f : Nat) (lv : tr_L) (st : List tr_V) (h : tr_H) (rc rs : Nat) : Prop :=
  (match st with | .inr (.inr r) :: _ => ht h r = a ∧ nxt lv st h rc rs | _ => False)
def ts_iadd (C : Nat → List tr_V → tr_H → tr_Q → Prop) (txt : Nat → List Nat) (hdl : Nat → Option Nat) (X : Nat → tr_H → Prop) (jmp : Nat → tr_K) (nxt : tr_K) (Q : tr_Q) (pc a b c d e f : Nat) (lv : tr_L) (st : List tr_V) (h : tr_H) (rc rs : Nat) : Prop :=
  (match st with | .inl y :: .inl x :: st' => nxt lv (.inl (x + y) :: st') h rc rs | _ => False)
def ts_isub (C : Nat → List tr_V → tr_H → tr_Q → Prop) (txt : Nat → List Nat) (hdl : Nat → Option Nat) (X : Nat → tr_H → Prop) (jmp : Nat → tr_K) (nxt : tr_K) (Q : tr_Q) (pc a b c d e f : Nat) (lv : tr_L) (st : List tr_V) (h : tr_H) (rc rs : Nat) : Prop :=
  (match st with | .inl y :: .inl x :: st' => nxt lv (.inl (x - y) :: st') h rc rs | _ => False)
def ts_imul (C : Nat → List tr_V → tr_H → tr_Q → Prop) (txt : Nat → List Nat) (hdl : Nat → Option Nat) (X : Nat → tr_H → Prop) (jmp : Nat → tr_K) (nxt : tr_K) (Q : tr_Q) (pc a b c d e f : Nat) (lv : tr_L) (st : List tr_V) (h : tr_H) (rc rs : Nat) : Prop :=
  (match st with | .inl y :: .inl x :: st' => nxt lv (.inl (x * y) :: st') h rc rs | _ => False)
def ts_irem (C : Nat → List tr_V → tr_H → tr_Q → Prop) (txt : Nat → List Nat) (hdl : Nat → Option Nat) (X : Nat → tr_H → Prop) (jmp : Nat → tr_K) (nxt : tr_K) (Q : tr_Q) (pc a b c d e f : Nat) (lv : tr_L) (st : List tr_V) (h : tr_H) (rc rs : Nat) : Prop :=
  (match st with | .inl y :: .inl x :: st' => ¬ y = ii 0 ∧ nxt lv (.inl (tr_rem x y) :: st') h rc rs | _ => False)
def ts_iand (C : Nat → List tr_V → tr_H → tr_Q → Prop) (txt : Nat → List Nat) (hdl : Nat → Option Nat) (X : Nat → tr_H → Prop) (jmp : Nat → tr_K) (nxt : tr_K) (Q : tr_Q) (pc a b c d e f : Nat) (lv : tr_L) (st : List tr_V) (h : tr_H) (rc rs : Nat) : Prop :=
  (match st with | .inl y :: .inl x :: st' => nxt lv (.inl (x &&& y) :: st') h rc rs | _ => False)
def ts_ior (C : Nat → List tr_V → tr_H → tr_Q → Prop) (txt : Nat → List Nat) (hdl : Nat → Option Nat) (X : Nat → tr_H → Prop) (jmp : Nat → tr_K) (nxt : tr_K) (Q : tr_Q) (pc a b c d e f : Nat) (lv : tr_L) (st : List tr_V) (h : tr_H) (rc rs : Nat) : Prop :=
  (match st with | .inl y :: .inl x :: st' => nxt lv (.inl (x ||| y) :: st') h rc rs | _ => False)
def ts_ixor (C : Nat → List tr_V → tr_H → tr_Q → Prop) (txt : Nat → List Nat) (hdl : Nat → Option Nat) (X : Nat → tr_H → Prop) (jmp : Nat → tr_K) (nxt : tr_K) (Q : tr_Q) (pc a b c d e f : Nat) (lv : tr_L) (st : List tr_V) (h : tr_H) (rc rs : Nat) : Prop :=
  (match st with | .inl y :: .inl x :: st' => nxt lv (.inl (x ^^^ y) :: st') h rc rs | _ => False)
def ts_ishl (C : Nat → List tr_V → tr_H → tr_Q → Prop) (txt : Nat → List Nat) (hdl : Nat → Option Nat) (X : Nat → tr_H → Prop) (jmp : Nat → tr_K) (nxt : tr_K) (Q : tr_Q) (pc a b c d e f : Nat) (lv : tr_L) (st : List tr_V) (h : tr_H) (rc rs : Nat) : Prop :=
  (match st with | .inl y :: .inl x :: st' => nxt lv (.inl (x <<< (y &&& 31)) :: st') h rc rs | _ => False)
def ts_ishr (C : Nat → List tr_V → tr_H → tr_Q → Prop) (txt : Nat → List Nat) (hdl : Nat → Option Nat) (X : Nat → tr_H → Prop) (jmp : Nat → tr_K) (nxt : tr_K) (Q : tr_Q) (pc a b c d e f : Nat) (lv : tr_L) (st : List tr_V) (h : tr_H) (rc rs : Nat) : Prop :=
  (match st with | .inl y :: .inl x :: st' => nxt lv (.inl (x >>> (y &&& 31)) :: st') h rc rs | _ => False)
def ts_ladd (C : Nat → List tr_V → tr_H → tr_Q → Prop) (txt : Nat → List Nat) (hdl : Nat → Option Nat) (X : Nat → tr_H → Prop) (jmp : Nat → tr_K) (nxt : tr_K) (Q : tr_Q) (pc a b c d e f : Nat) (lv : tr_L) (st : List tr_V) (h : tr_H) (rc rs : Nat) : Prop :=
  (match st with | .inr (.inl y) :: .inr (.inl x) :: st' => nxt lv (.inr (.inl (x + y)) :: st') h rc rs | _ => False)
def ts_lsub (C : Nat → List tr_V → tr_H → tr_Q → Prop) (txt : Nat → List Nat) (hdl : Nat → Option Nat) (X : Nat → tr_H → Prop) (jmp : Nat → tr_K) (nxt : tr_K) (Q : tr_Q) (pc a b c d e f : Nat) (lv : tr_L) (st : List tr_V) (h : tr_H) (rc rs : Nat) : Prop :=
  (match st with | .inr (.inl y) :: .inr (.inl x) :: st' => nxt lv (.inr (.inl (x - y)) :: st') h rc rs | _ => False)
def ts_lmul (C : Nat → List tr_V → tr_H → tr_Q → Prop) (txt : Nat → List Nat) (hdl : Nat → Option Nat) (X : Nat → tr_H → Prop) (jmp : Nat → tr_K) (nxt : tr_K) (Q : tr_Q) (pc a b c d e f : Nat) (lv : tr_L) (st : List tr_V) (h : tr_H) (rc rs : Nat) : Prop :=
  (match st with | .inr (.inl y) :: .inr (.inl x) :: st' => nxt lv (.inr (.inl (x * y)) :: st') h rc rs | _ => False)
def ts_ldiv (C : Nat → List tr_V → tr_H → tr_Q → Prop) (txt : Nat → List Nat) (hdl : Nat → Option Nat) (X : Nat → tr_H → Prop) (jmp : Nat → tr_K) (nxt : tr_K) (Q : tr_Q) (pc a b c d e f : Nat) (lv : tr_L) (st : List tr_V) (h : tr_H) (rc rs : Nat) : Prop :=
  (match st with | .inr (.inl y) :: .inr (.inl x) :: st' => ¬ y = jj 0 ∧ nxt lv (.inr (.inl (x / y)) :: st') h rc rs | _ => False)
def ts_lrem (C : Nat → List tr_V → tr_H → tr_Q → Prop) (txt : Nat → List Nat) (hdl : Nat → Option Nat) (X : Nat → tr_H → Prop) (jmp : Nat → tr_K) (nxt : tr_K) (Q : tr_Q) (pc a b c d e f : Nat) (lv : tr_L) (st : List tr_V) (h : tr_H) (rc rs : Nat) : Prop :=
  (match st with | .inr (.inl y) :: .inr (.inl x) :: st' => ¬ y = jj 0 ∧ nxt lv (.inr (.inl (tr_lrem x y)) :: st') h rc rs | _ => False)
def ts_lcmp (C : Nat → List tr_V → tr_H → tr_Q → Prop) (txt : Nat → List Nat) (hdl : Nat → Option Nat) (X : Nat → tr_H → Prop) (jmp : Nat → tr_K) (nxt : tr_K) (Q : tr_Q) (pc a b c d e f : Nat) (lv : tr_L) (st : List tr_V) (h : tr_H) (rc rs : Nat) : Prop :=
  (match st with | .inr (.inl y) :: .inr (.inl x) :: st' => nxt lv (.inl (lg_cmp x y) :: st') h rc rs | _ => False)
def ts_i2l (C : Nat → List tr_V → tr_H → tr_Q → Prop) (txt : Nat → List Nat) (hdl : Nat → Option Nat) (X : Nat → tr_H → Prop) (jmp : Nat → tr_K) (nxt : tr_K) (Q : tr_Q) (pc a b c d e f : Nat) (lv : tr_L) (st : List tr_V) (h : tr_H) (rc rs : Nat) : Prop :=
  (match st with | .inl x :: st' => nxt lv (.inr (.inl x.toInt64) :: st') h rc rs | _ => False)
def ts_i2b (C : Nat → List tr_V → tr_H → tr_Q → Prop) (txt : Nat → List Nat) (hdl : Nat → Option Nat) (X : Nat → tr_H → Prop) (jmp : Nat → tr_K) (nxt : tr_K) (Q : tr_Q) (pc a b c d e f : Nat) (lv : tr_L) (st : List tr_V) (h : tr_H) (rc rs : Nat) : Prop :=
  (match st with | .inl x :: st' => nxt lv (.inl (tr_by x) :: st') h rc rs | _ => False)
def ts_dup (C : Nat → List tr_V → tr_H → tr_Q → Prop) (txt : Nat → List Nat) (hdl : Nat → Option Nat) (X : Nat → tr_H → Prop) (jmp : Nat → tr_K) (nxt : tr_K) (Q : tr_Q) (pc a b c d e f : Nat) (lv : tr_L) (st : List tr_V) (h : tr_H) (rc rs : Nat) : Prop :=
  (match st with
    | .inl x :: st' => nxt lv (.inl x :: .inl x :: st') h rc rs
    | .inr (.inr x) :: st' => nxt lv (.inr (.inr x) :: .inr (.inr x) :: st') h rc rs
    | _ => False)
def ts_dup2 (C : Nat → List tr_V → tr_H → tr_Q → Prop) (txt : Nat → List Nat) (hdl : Nat → Option Nat) (X : Nat → tr_H → Prop) (jmp : Nat → tr_K) (nxt : tr_K) (Q : tr_Q) (pc a b c d e f : Nat) (lv : tr_L) (st : List tr_V) (h : tr_H) (rc rs : Nat) : Prop :=
  (match st with
    | .inl x :: .inr (.inr y) :: st' => nxt lv (.inl x :: .inr (.inr y) :: .inl x :: .inr (.inr y) :: st') h rc rs
    | _ => False)
def ts_pop (C : Nat → List tr_V → tr_H → tr_Q → Prop) (txt : Nat → List Nat) (hdl : Nat → Option Nat) (X : Nat → tr_H → Prop) (jmp : Nat → tr_K) (nxt : tr_K) (Q : tr_Q) (pc a b c d e f : Nat) (lv : tr_L) (st : List tr_V) (h : tr_H) (rc rs : Nat) : Prop :=
  (match st with
    | .inl _ :: st' => nxt lv st' h rc rs
    | .inr (.inr _) :: st' => nxt lv st' h rc rs
    | _ => False)
def ts_ifCond (C : Nat → List tr_V → tr_H → tr_Q → Prop) (txt : Nat → List Nat) (hdl : Nat → Option Nat) (X : Nat → tr_H → Prop) (jmp : Nat → tr_K) (nxt : tr_K) (Q : tr_Q) (pc a b c d e f : Nat) (lv : tr_L) (st : List tr_V) (h : tr_H) (rc rs : Nat) (cd : ClassFile.Cond) : Prop :=
  (match st with | .inl x :: st' => tr_if cd x (ii 0) (jmp a lv st' h rc rs) (nxt lv st' h rc rs) | _ => False)
def ts_if_icmp (C : Nat → List tr_V → tr_H → tr_Q → Prop) (txt : Nat → List Nat) (hdl : Nat → Option Nat) (X : Nat → tr_H → Prop) (jmp : Nat → tr_K) (nxt : tr_K) (Q : tr_Q) (pc a b c d e f : Nat) (lv : tr_L) (st : List tr_V) (h : tr_H) (rc rs : Nat) (cd : ClassFile.Cond) : Prop :=
  (match st with | .inl y :: .inl x :: st' => tr_if cd x y (jmp a lv st' h rc rs) (nxt lv st' h rc rs) | _ => False)
def ts_goto (C : Nat → List tr_V → tr_H → tr_Q → Prop) (txt : Nat → List Nat) (hdl : Nat → Option Nat) (X : Nat → tr_H → Prop) (jmp : Nat → tr_K) (nxt : tr_K) (Q : tr_Q) (pc a b c d e f : Nat) (lv : tr_L) (st : List tr_V) (h : tr_H) (rc rs : Nat) : Prop :=
  jmp a lv st h rc rs
def ts_tableswitch (C : Nat → List tr_V → tr_H → tr_Q → Prop) (txt : Nat → List Nat) (hdl : Nat → Option Nat) (X : Nat → tr_H → Prop) (jmp : Nat → tr_K) (nxt : tr_K) (Q : tr_Q) (pc a b c d e f : Nat) (lv : tr_L) (st : List tr_V) (h : tr_H) (rc rs : Nat) (lo : Int) (offs : Array Int) : Prop :=
  (match st with | .inl x :: st' => tr_tsw (fun t => jmp t lv st' h rc rs) a pc x lo offs.toList | _ => False)
def ts_lookupswitch (C : Nat → List tr_V → tr_H → tr_Q → Prop) (txt : Nat → List Nat) (hdl : Nat → Option Nat) (X : Nat → tr_H → Prop) (jmp : Nat → tr_K) (nxt : tr_K) (Q : tr_Q) (pc a b c d e f : Nat) (lv : tr_L) (st : List tr_V) (h : tr_H) (rc rs : Nat) (ps : Array (Int × Int)) : Prop :=
  (match st with | .inl x :: st' => tr_lsw (fun t => jmp t lv st' h rc rs) a pc x ps.toList | _ => False)
def ts_invokevirtual (C : Nat → List tr_V → tr_H → tr_Q → Prop) (txt : Nat → List Nat) (hdl : Nat → Option Nat) (X : Nat → tr_H → Prop) (jmp : Nat → tr_K) (nxt : tr_K) (Q : tr_Q) (pc a b c d e f : Nat) (lv : tr_L) (st : List tr_V) (h : tr_H) (rc rs : Nat) : Prop :=
  (match a with
    | 1004 => (match st with | .inr (.inr q) :: st' => ht h q = b ∧ hn h q = c ∧ tr_ck st'.length 4 (tr_ck 1 rc (tr_ck c rs (∀ r, r ≠ 0 → ht h r = 0 → ∀ h', h' = hcl h r q → nxt lv (.inr (.inr r) :: st') h' (rc - 1) (rs - c)))) | _ => False)
    | 1005 => (match st with | .inr (.inr q) :: st' => ht h q = 18 ∧ tr_ck st'.length 4 (nxt lv (.inl (ii (hn h q : Nat)) :: st') h rc rs) | _ => False)
    | 1006 => (match st with | .inl x :: .inr (.inr q) :: st' => ht h q = 18 ∧ ixo x (hn h q) ∧ tr_ck st'.length 4 (nxt lv (.inl (hI h q (ixn x)) :: st') h rc rs) | _ => False)
    | a => tr_call C hdl X jmp nxt a b c d e f lv st h rc rs)
def ts_invokespecial (C : Nat → List tr_V → tr_H → tr_Q → Prop) (txt : Nat → List Nat) (hdl : Nat → Option Nat) (X : Nat → tr_H → Prop) (jmp : Nat → tr_K) (nxt : tr_K) (Q : tr_Q) (pc a b c d e f : Nat) (lv : tr_L) (st : List tr_V) (h : tr_H) (rc rs : Nat) : Prop :=
  (match a with
    | 9999 => False
    | 1000 => (match st with | .inr (.inr r) :: st' => ¬ ht h r = 0 ∧ tr_ck st'.length 4 (nxt lv st' h rc rs) | _ => False)
    | a => tr_call C hdl X jmp nxt a b c d e f lv st h rc rs)
def ts_invokestatic (C : Nat → List tr_V → tr_H → tr_Q → Prop) (txt : Nat → List Nat) (hdl : Nat → Option Nat) (X : Nat → tr_H → Prop) (jmp : Nat → tr_K) (nxt : tr_K) (Q : tr_Q) (pc a b c d e f : Nat) (lv : tr_L) (st : List tr_V) (h : tr_H) (rc rs : Nat) : Prop :=
  (match a with
    | 1001 => (match st with | .inl y :: .inl x :: st' => tr_ck st'.length 4 (nxt lv (.inl (if y < x then y else x) :: st') h rc rs) | _ => False)
    | 1002 => (match st with | .inl y :: .inl x :: st' => tr_ck st'.length 4 (nxt lv (.inl (if x < y then y else x) :: st') h rc rs) | _ => False)
    | 1003 => (match st with
      | .inl n :: .inl dp :: .inr (.inr r) :: .inl sp :: .inr (.inr q) :: st' => ht h q = 15 ∧ ht h r = 15 ∧ 0 ≤ sp.toInt ∧ 0 ≤ dp.toInt ∧ 0 ≤ n.toInt ∧ ixn sp + ixn n ≤ hn h q ∧ ixn dp + ixn n ≤ hn h r ∧ (∀ i, i < ixn n → hR h q (ixn sp + i) = 0 ∨ ht h (hR h q (ixn sp + i)) = 7) ∧ tr_ck st'.length 4 (∀ h', h' = hcp h q (ixn sp) r (ixn dp) (ixn n) → nxt lv st' h' rc rs)
      | _ => False)
    | a => tr_call C hdl X jmp nxt a b c 0 e f lv st h rc rs)
def ts_ireturn (C : Nat → List tr_V → tr_H → tr_Q → Prop) (txt : Nat → List Nat) (hdl : Nat → Option Nat) (X : Nat → tr_H → Prop) (jmp : Nat → tr_K) (nxt : tr_K) (Q : tr_Q) (pc a b c d e f : Nat) (lv : tr_L) (st : List tr_V) (h : tr_H) (rc rs : Nat) : Prop :=
  (match st with
    | [.inl x] => (match c with
      | 0 => Q (.inl (some (.inl x))) h
      | _ => Q (.inl (some (.inl (tr_nb x)))) h)
    | _ => False)
def ts_lreturn (C : Nat → List tr_V → tr_H → tr_Q → Prop) (txt : Nat → List Nat) (hdl : Nat → Option Nat) (X : Nat → tr_H → Prop) (jmp : Nat → tr_K) (nxt : tr_K) (Q : tr_Q) (pc a b c d e f : Nat) (lv : tr_L) (st : List tr_V) (h : tr_H) (rc rs : Nat) : Prop :=
  (match st with | [.inr (.inl x)] => Q (.inl (some (.inr (.inl x)))) h | _ => False)
def ts_return_ (C : Nat → List tr_V → tr_H → tr_Q → Prop) (txt : Nat → List Nat) (hdl : Nat → Option Nat) (X : Nat → tr_H → Prop) (jmp : Nat → tr_K) (nxt : tr_K) (Q : tr_Q) (pc a b c d e f : Nat) (lv : tr_L) (st : List tr_V) (h : tr_H) (rc rs : Nat) : Prop :=
  (match st with | [] => Q (.inl none) h | _ => False)
def tr_step (C : Nat → List tr_V → tr_H → tr_Q → Prop) (txt : Nat → List Nat) (hdl : Nat → Option Nat) (X : Nat → tr_H → Prop) (jmp : Nat → tr_K) (nxt : tr_K) (Q : tr_Q) (pc : Nat) (i : Instr) (a b c d e f : Nat) (lv : tr_L) (st : List tr_V) (h : tr_H) (rc rs : Nat) : Prop :=
  match i with
  | .aload k => ts_aload C txt hdl X jmp nxt Q pc a b c d e f lv st h rc rs k
  | .aload_n k => ts_aload_n C txt hdl X jmp nxt Q pc a b c d e f lv st h rc rs k
  | .iload k => ts_iload C txt hdl X jmp nxt Q pc a b c d e f lv st h rc rs k
  | .iload_n k => ts_iload_n C txt hdl X jmp nxt Q pc a b c d e f lv st h rc rs k
  | .lload k => ts_lload C txt hdl X jmp nxt Q pc a b c d e f lv st h rc rs k
  | .lload_n k => ts_lload_n C txt hdl X jmp nxt Q pc a b c d e f lv st h rc rs k
  | .istore k => ts_istore C txt hdl X jmp nxt Q pc a b c d e f lv st h rc rs k
  | .istore_n k => ts_istore_n C txt hdl X jmp nxt Q pc a b c d e f lv st h rc rs k
  | .astore k => ts_astore C txt hdl X jmp nxt Q pc a b c d e f lv st h rc rs k
  | .astore_n k => ts_astore_n C txt hdl X jmp nxt Q pc a b c d e f lv st h rc rs k
  | .lstore k => ts_lstore C txt hdl X jmp nxt Q pc a b c d e f lv st h rc rs k
  | .lstore_n k => ts_lstore_n C txt hdl X jmp nxt Q pc a b c d e f lv st h rc rs k
  | .iinc k n => ts_iinc C txt hdl X jmp nxt Q pc a b c d e f lv st h rc rs k n
  | .iconst n => ts_iconst C txt hdl X jmp nxt Q pc a b c d e f lv st h rc rs n
  | .bipush n => ts_bipush C txt hdl X jmp nxt Q pc a b c d e f lv st h rc rs n
  | .sipush n => ts_sipush C txt hdl X jmp nxt Q pc a b c d e f lv st h rc rs n
  | .lconst n => ts_lconst C txt hdl X jmp nxt Q pc a b c d e f lv st h rc rs n
  | .ldc _ => ts_ldc C txt hdl X jmp nxt Q pc a b c d e f lv st h rc rs
  | .ldc2_w _ => ts_ldc2_w C txt hdl X jmp nxt Q pc a b c d e f lv st h rc rs
  | .getfield _ => ts_getfield C txt hdl X jmp nxt Q pc a b c d e f lv st h rc rs
  | .putfield _ => ts_putfield C txt hdl X jmp nxt Q pc a b c d e f lv st h rc rs
  | .iaload => ts_iaload C txt hdl X jmp nxt Q pc a b c d e f lv st h rc rs
  | .baload => ts_baload C txt hdl X jmp nxt Q pc a b c d e f lv st h rc rs
  | .laload => ts_laload C txt hdl X jmp nxt Q pc a b c d e f lv st h rc rs
  | .aaload => ts_aaload C txt hdl X jmp nxt Q pc a b c d e f lv st h rc rs
  | .iastore => ts_iastore C txt hdl X jmp nxt Q pc a b c d e f lv st h rc rs
  | .bastore => ts_bastore C txt hdl X jmp nxt Q pc a b c d e f lv st h rc rs
  | .lastore => ts_lastore C txt hdl X jmp nxt Q pc a b c d e f lv st h rc rs
  | .aastore => ts_aastore C txt hdl X jmp nxt Q pc a b c d e f lv st h rc rs
  | .arraylength => ts_arraylength C txt hdl X jmp nxt Q pc a b c d e f lv st h rc rs
  | .new _ => ts_new C txt hdl X jmp nxt Q pc a b c d e f lv st h rc rs
  | .newarray _ => ts_newarray C txt hdl X jmp nxt Q pc a b c d e f lv st h rc rs
  | .anewarray _ => ts_anewarray C txt hdl X jmp nxt Q pc a b c d e f lv st h rc rs
  | .checkcast _ => ts_checkcast C txt hdl X jmp nxt Q pc a b c d e f lv st h rc rs
  | .iadd => ts_iadd C txt hdl X jmp nxt Q pc a b c d e f lv st h rc rs
  | .isub => ts_isub C txt hdl X jmp nxt Q pc a b c d e f lv st h rc rs
  | .imul => ts_imul C txt hdl X jmp nxt Q pc a b c d e f lv st h rc rs
  | .irem => ts_irem C txt hdl X jmp nxt Q pc a b c d e f lv st h rc rs
  | .iand => ts_iand C txt hdl X jmp nxt Q pc a b c d e f lv st h rc rs
  | .ior => ts_ior C txt hdl X jmp nxt Q pc a b c d e f lv st h rc rs
  | .ixor => ts_ixor C txt hdl X jmp nxt Q pc a b c d e f lv st h rc rs
  | .ishl => ts_ishl C txt hdl X jmp nxt Q pc a b c d e f lv st h rc rs
  | .ishr => ts_ishr C txt hdl X jmp nxt Q pc a b c d e f lv st h rc rs
  | .ladd => ts_ladd C txt hdl X jmp nxt Q pc a b c d e f lv st h rc rs
  | .lsub => ts_lsub C txt hdl X jmp nxt Q pc a b c d e f lv st h rc rs
  | .lmul => ts_lmul C txt hdl X jmp nxt Q pc a b c d e f lv st h rc rs
  | .ldiv => ts_ldiv C txt hdl X jmp nxt Q pc a b c d e f lv st h rc rs
  | .lrem => ts_lrem C txt hdl X jmp nxt Q pc a b c d e f lv st h rc rs
  | .lcmp => ts_lcmp C txt hdl X jmp nxt Q pc a b c d e f lv st h rc rs
  | .i2l => ts_i2l C txt hdl X jmp nxt Q pc a b c d e f lv st h rc rs
  | .i2b => ts_i2b C txt hdl X jmp nxt Q pc a b c d e f lv st h rc rs
  | .dup => ts_dup C txt hdl X jmp nxt Q pc a b c d e f lv st h rc rs
  | .dup2 => ts_dup2 C txt hdl X jmp nxt Q pc a b c d e f lv st h rc rs
  | .pop => ts_pop C txt hdl X jmp nxt Q pc a b c d e f lv st h rc rs
  | .ifCond cd _ => ts_ifCond C txt hdl X jmp nxt Q pc a b c d e f lv st h rc rs cd
  | .if_icmp cd _ => ts_if_icmp C txt hdl X jmp nxt Q pc a b c d e f lv st h rc rs cd
  | .goto _ => ts_goto C txt hdl X jmp nxt Q pc a b c d e f lv st h rc rs
  | .tableswitch _ lo _ offs => ts_tableswitch C txt hdl X jmp nxt Q pc a b c d e f lv st h rc rs lo offs
  | .lookupswitch _ ps => ts_lookupswitch C txt hdl X jmp nxt Q pc a b c d e f lv st h rc rs ps
  | .invokevirtual _ => ts_invokevirtual C txt hdl X jmp nxt Q pc a b c d e f lv st h rc rs
  | .invokespecial _ => ts_invokespecial C txt hdl X jmp nxt Q pc a b c d e f lv st h rc rs
  | .invokestatic _ => ts_invokestatic C txt hdl X jmp nxt Q pc a b c d e f lv st h rc rs
  | .ireturn => ts_ireturn C txt hdl X jmp nxt Q pc a b c d e f lv st h rc rs
  | .lreturn => ts_lreturn C txt hdl X jmp nxt Q pc a b c d e f lv st h rc rs
  | .return_ => ts_return_ C txt hdl X jmp nxt Q pc a b c d e f lv st h rc rs
  | _ => False
def tr_sfx (t : Nat) : List tr_En → List tr_En
  | [] => []
  | e :: es => if Nat.beq e.1 t then e :: es else tr_sfx t es
def tr_lk {α : Type} (k : Nat) : List (Nat × α) → Option α
  | [] => none
  | q :: qs => if Nat.beq q.1 k then some q.2 else tr_lk k qs
/-- the number of what the law's handlers take, by the entry -/
def tr_hx (ct : Nat) : Nat := match ct with
  | 13 => 1
  | 19 => 2
  | 25 => 0
  | _ => 9
/-- what is known not to be taken by a handler of another -/
def tr_np (E X : Nat) : Bool := (Nat.beq E 1 && Nat.beq X 0) || (Nat.beq E 2 && Nat.beq X 1)
def tr_hd (hs : List (Nat × Nat × Nat × Nat)) (pc E : Nat) : Option Nat := match hs with
  | [] => none
  | (f, t, p, ct) :: hs' => if Nat.ble f pc && Nat.blt pc t then (if Nat.beq (tr_hx ct) E then some p else if tr_np E (tr_hx ct) then tr_hd hs' pc E else none) else tr_hd hs' pc E
def tr_X (hs : List (Nat × Nat × Nat × Nat)) (Q : tr_Q) : Nat → tr_H → Prop := fun E h => match hs with
  | [] => Q (.inr E) h
  | _ => False
section TRW
variable (C : Nat → List tr_V → tr_H → tr_Q → Prop) (txt : Nat → List Nat) (tbl : List tr_En) (hs : List (Nat × Nat × Nat × Nat)) (cuts : List (Nat × List Bool)) (K : Nat → tr_K) (Q : tr_Q)
def tr_at (w : List tr_En → tr_K) (es : List tr_En) : tr_K := fun lv st h rc rs => match es with
  | [] => False
  | e :: _ => (match tr_lk e.1 cuts with
    | some bs => K e.1 (lvp bs lv) st h rc rs
    | none => w es lv st h rc rs)
/-- the weakest start from which the code comes to its cuts or to its end -/
def tr_wp : Nat → List tr_En → tr_K := fun n => Nat.rec (motive := fun _ => List tr_En → tr_K) (fun _ _ _ _ _ _ => False)
  (fun _ w es lv st h rc rs => match es with
    | [] => False
    | e :: es' => tr_step C txt (tr_hd hs e.1) (tr_X hs Q) (fun t => tr_at cuts K w (tr_sfx t tbl)) (tr_at cuts K w es') Q e.1 e.2.1 e.2.2.2.1 e.2.2.2.2.1 e.2.2.2.2.2.1 e.2.2.2.2.2.2.1 e.2.2.2.2.2.2.2.1 e.2.2.2.2.2.2.2.2 lv st h rc rs) n
theorem tr_wp_succ (n : Nat) (e : tr_En) (es : List tr_En) (lv : tr_L) (st : List tr_V) (h : tr_H) (rc rs : Nat) : tr_wp C txt tbl hs cuts K Q (n + 1) (e :: es) lv st h rc rs = tr_step C txt (tr_hd hs e.1) (tr_X hs Q) (fun t => tr_at cuts K (tr_wp C txt tbl hs cuts K Q n) (tr_sfx t tbl)) (tr_at cuts K (tr_wp C txt tbl hs cuts K Q n) es) Q e.1 e.2.1 e.2.2.2.1 e.2.2.2.2.1 e.2.2.2.2.2.1 e.2.2.2.2.2.2.1 e.2.2.2.2.2.2.2.1 e.2.2.2.2.2.2.2.2 lv st h rc rs := rfl
end TRW
