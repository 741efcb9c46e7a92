/-! THE LAW'S TABLE IS RIGHT, piece by piece -/
def tr_dkL (a : Nat) : Bool := Nat.ble (mD (tr_mi a) + 1) 1154
def tr_tokc (M : tr_MI) (dm : Nat) (dk : Nat → Bool) (nx : Nat) : List tr_En → Bool
  | [] => true
  | e :: es => tr_dk (mB M) e && (tr_eok M dm dk e.1 e.2.1 e.2.2.1 e.2.2.2.1 e.2.2.2.2.1 e.2.2.2.2.2.1 e.2.2.2.2.2.2.1 e.2.2.2.2.2.2.2.1 e.2.2.2.2.2.2.2.2 && ((match es with | [] => Nat.beq nx (e.1 + e.2.2.1) | e2 :: _ => Nat.beq e2.1 (e.1 + e.2.2.1)) && tr_tokc M dm dk nx es))
theorem tok_app {M : tr_MI} {dm : Nat} {dk : Nat → Bool} {nx : Nat} : ∀ (c1 c2 : List tr_En), tr_tokc M dm dk nx c1 = true → tr_tok M dm dk c2 = true → (∀ e es, c2 = e :: es → e.1 = nx) → tr_tok M dm dk (c1 ++ c2) = true
  | [], c2, _, h2, _ => h2
  | [e], c2, h1, h2, h3 => by
    unfold tr_tokc at h1
    simp only [Bool.and_eq_true] at h1
    obtain ⟨a, b, c, d⟩ := h1
    show tr_tok M dm dk (e :: c2) = true
    unfold tr_tok
    rw [a, b, h2]
    cases c2 with
    | nil => rfl
    | cons x xs =>
      show (true && (true && (Nat.beq x.1 (e.1 + e.2.2.1) && true))) = true
      rw [h3 x xs rfl, c]; rfl
  | e :: e2 :: es, c2, h1, h2, h3 => by
    unfold tr_tokc at h1
    simp only [Bool.and_eq_true] at h1
    obtain ⟨a, b, c, d⟩ := h1
    have ih := tok_app (e2 :: es) c2 d h2 h3
    show tr_tok M dm dk (e :: ((e2 :: es) ++ c2)) = true
    unfold tr_tok
    rw [a, b, ih]
    show (true && (true && (Nat.beq e2.1 (e.1 + e.2.2.1) && true))) = true
    rw [c]; rfl
theorem tok_step {M : tr_MI} {dm : Nat} {dk : Nat → Bool} {nx : Nat} {l : List tr_En} (k j : Nat) (h1 : tr_tokc M dm dk nx ((l.drop k).take j) = true) (h2 : tr_tok M dm dk (l.drop (k + j)) = true) (h3 : ((l.drop (k + j)).headD (nx, .nop, 0, 0, 0, 0, 0, 0, 0)).1 = nx) : tr_tok M dm dk (l.drop k) = true := by
  rw [← List.take_append_drop j (l.drop k), List.drop_drop]
  refine tok_app _ _ h1 h2 (fun e es q => ?_)
  rw [q] at h3
  exact h3
set_option maxRecDepth 100000 in
theorem tkl_0 : tr_tokc mi_L_law 1154 tr_dkL 194 ((tb_L_law.drop 0).take 40) = true := by decide +kernel
set_option maxRecDepth 100000 in
theorem tkl_40 : tr_tokc mi_L_law 1154 tr_dkL 247 ((tb_L_law.drop 40).take 40) = true := by decide +kernel
set_option maxRecDepth 100000 in
theorem tkl_80 : tr_tokc mi_L_law 1154 tr_dkL 310 ((tb_L_law.drop 80).take 40) = true := by decide +kernel
