/-! STILL OPEN: the texts' own methods, what is thrown by an entry of its own -/
section TRO
variable {E : tr_Env} {M : tr_MI} {R : Room} {lc lz : Nat} {Z : List Frame → Array Value → State → State → Prop} {pc : Nat} {lv : tr_L} {st : List tr_V} {h : tr_H} {rc rs : Nat} {Q : tr_Q} {mc ms : Nat}
theorem tr_r_slength (ok : tr_ok E) (hlc : lc ≤ R.cells) (hlz : lz ≤ R.slots) {idx q : Nat} (hd : decode (mB M) pc = .ok (.invokevirtual idx, 3)) (hO : tr_R (mO M) = (mY M).cls) (hi : (mO M, idx) ∈ tr_sll) (hRk : tr_Rok R 8) (hwd : tr_wds st ≤ 8) (hq : ht h q = 18) (k : tr_W E M R lc lz Z (pc + 3) lv (.inl (ii (hn h q : Nat)) :: st) h rc rs) : tr_W E M R lc lz Z pc lv (.inr (.inr q) :: st) h rc rs := by
  sorry
theorem tr_r_scharat (ok : tr_ok E) (hlc : lc ≤ R.cells) (hlz : lz ≤ R.slots) {idx q : Nat} {x : Int32} (hd : decode (mB M) pc = .ok (.invokevirtual idx, 3)) (hO : tr_R (mO M) = (mY M).cls) (hi : (mO M, idx) ∈ tr_scl) (hRk : tr_Rok R 8) (hwd : tr_wds st ≤ 8) (hq : ht h q = 18) (hx : ixo x (hn h q)) (k : tr_W E M R lc lz Z (pc + 3) lv (.inl (hI h q (ixn x)) :: st) h rc rs) : tr_W E M R lc lz Z pc lv (.inl x :: .inr (.inr q) :: st) h rc rs := by
  sorry
theorem tr_r_throw0 (ok : tr_ok E) (hlc : lc ≤ mc) (hlz : lz ≤ ms) (hlc' : lc ≤ R.cells) (hlz' : lz ≤ R.slots) (hcls : (mY M).cls = RX7) (hh : mH M = []) (d0 : decode (mB M) pc = .ok (.new (tr_exi 0).1, 3)) (d3 : decode (mB M) (pc + 3) = .ok (.dup, 1)) (d4 : decode (mB M) (pc + 4) = .ok (.ldc_w (tr_exi 0).2.1, 3)) (d7 : decode (mB M) (pc + 7) = .ok (.invokespecial (tr_exi 0).2.2, 3)) (d10 : decode (mB M) (pc + 10) = .ok (.athrow, 1))
    (hR : tr_Rok R 8) (hwd : tr_wds st ≤ 8) (hrc : 1 ≤ rc) (hrs : 6 ≤ rs) (hq : Q (.inr 0) h) : tr_W E M R lc lz (tr_Z E Q mc ms) pc lv st h rc rs := by
  sorry
end TRO
