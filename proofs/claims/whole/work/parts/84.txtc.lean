/-! TEXT: the head; the reference -/
def txW (H : Int) (r : LR) : LR := match r with
  | .inl x => .inl x
  | .inr (_, m, o, w, L) => .inr (H, m, o, w, L)
def txAll (t m one two : Int → Int) (n : Int) : LR := if wdB t n (bl t n 0) (tr_txt 0) = true then (if nK t n (bl t n 0 + 4) 2 10 ≠ 0 then .inl (nK t n (bl t n 0 + 4) 2 10, bl t n (bl t n 0 + 4)) else if bl t n (nE t n (bl t n 0 + 4)) < n ∧ t (bl t n (nE t n (bl t n 0 + 4))) = 59 then txW (nV t n (bl t n 0 + 4)) (txL t n (nV t n (bl t n 0 + 4)) (n.toNat + 1) (bl t n (nE t n (bl t n 0 + 4)) + 1) m one two 0) else .inl (1, bl t n (nE t n (bl t n 0 + 4)))) else .inl (1, bl t n 0)
def fQx (z : Int) : Bool := decide (14 ≤ z ∧ z ≤ 22)
section TXC
variable {E : tr_Env} {ad : Nat → Nat} {h h0 h1 : tr_H} {Q : tr_Q} {t m one two : Int → Int} {n s p H L a b z : Int}
theorem fQm (f : fr ad pN fNx false h h1) : fr ad pN fQx false h h1 := fr_mono (fun _ e => e) (fun y e => by
  unfold fNx at e
  unfold fQx
  rw [decide_eq_true_eq] at e ⊢
  omega) (fun e => e) f
theorem vk_clf (g : Int → Int) (H0 : 2 ≤ H) (H1 : H ≤ 10) : vk (clf g) one two H 0 := by
  refine ⟨⟨⟨H0, H1⟩, ⟨by decide, by decide⟩, fun l l0 l1 => by omega, ?_, ?_, ?_, ?_, ?_, ?_, fun k k0 k1 => ?_, ?_, fun p p0 p1 => ?_⟩, rfl⟩
  · exact ⟨by show (0 : Int) ≤ 0; decide, by show (0 : Int) ≤ 16777215; decide⟩
  · exact ⟨by show (1 : Int) ≤ 7; decide, by show (7 : Int) ≤ 31; decide⟩
  · exact ⟨by show (2 : Int) ≤ 101; decide, by show (101 : Int) ≤ 997; decide⟩
  · exact ⟨by show (1 : Int) ≤ 20; decide, by show (20 : Int) ≤ 101; decide⟩
  · exact ⟨by show (0 : Int) ≤ 0; decide, by show (0 : Int) < 101; decide⟩
  · exact ⟨by show (2 : Int) ≤ 16; decide, by show (16 : Int) ≤ 64; decide⟩
  · have e : clf g (6 + k) = -1 := by
      unfold clf
      rw [if_neg (by omega), if_neg (by omega), if_neg (by omega), if_neg (by omega), if_neg (by omega), if_pos (by omega)]
    rw [e]; exact ⟨by decide, by decide⟩
  · exact ⟨by show (0 : Int) ≤ 0; decide, by show (0 : Int) ≤ 40; decide⟩
  · have e : clf g 106 = 0 := rfl
    rw [e] at p1; omega
end TXC
