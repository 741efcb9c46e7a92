/-! THE WEAKEST STARTS ARE RIGHT; CONTRACTS OUT OF THEM -/
section TRQ
variable {E : tr_Env} {M : tr_MI} {R : Room} {lc lz : Nat} {Z : List Frame → Array Value → State → State → Prop} {Q : tr_Q} {D : Nat → Nat} {dm : Nat} {dk : Nat → Bool} {tbl : List tr_En} {cuts : List (Nat × List Bool)} {K : Nat → tr_K}
theorem tr_sfx_ok (t : Nat) : ∀ es : List tr_En, tr_tok M dm dk es = true → tr_tok M dm dk (tr_sfx t es) = true ∧ ∀ e es', tr_sfx t es = e :: es' → e.1 = t
  | [], _ => ⟨rfl, fun _ _ h => by cases h⟩
  | e :: es, h => by
    unfold tr_sfx
    by_cases hb : Nat.beq e.1 t = true
    · rw [if_pos hb]
      exact ⟨h, fun e2 es2 g => by cases g; exact tr_bq hb⟩
    · rw [if_neg hb]
      have h2 : tr_tok M dm dk es = true := by
        unfold tr_tok at h
        simp only [Bool.and_eq_true] at h
        exact h.2.2.2
      exact tr_sfx_ok t es h2
theorem tr_wp_sound (ok : tr_ok E) (hlc : lc ≤ R.cells) (hlz : lz ≤ R.slots) (hO : tr_R (mO M) = (mY M).cls) (hRd : tr_Rok R dm) (hdk : ∀ a, dk a = true → tr_Rok R (D a + 1)) (hE : tr_Ends E M R lc lz Z Q) (hT : tr_tok M dm dk tbl = true) (hK : ∀ pc lv st h rc rs, K pc lv st h rc rs → tr_W E M R lc lz Z pc lv st h rc rs) :
    ∀ (n : Nat) (es : List tr_En), tr_tok M dm dk es = true → ∀ lv st h rc rs, tr_wp (fun a as h Q => tr_Cd E (D a) (tr_mi a) as h Q) tr_txt tbl (mH M) cuts K Q n es lv st h rc rs → ∀ e es', es = e :: es' → tr_W E M R lc lz Z e.1 lv st h rc rs
  | 0, es, _, lv, st, h, rc, rs, hw, e, es', he => by cases hw
  | n + 1, es, hes, lv, st, h, rc, rs, hw, e, es', he => by
    subst he
    rw [tr_wp_succ] at hw
    have hes0 := hes
    unfold tr_tok at hes
    simp only [Bool.and_eq_true] at hes
    obtain ⟨h1, h2, h3, h4⟩ := hes
    have hat : ∀ (es2 : List tr_En), tr_tok M dm dk es2 = true → ∀ lv st h rc rs, tr_at cuts K (tr_wp (fun a as h Q => tr_Cd E (D a) (tr_mi a) as h Q) tr_txt tbl (mH M) cuts K Q n) es2 lv st h rc rs → ∃ e2 es3, es2 = e2 :: es3 ∧ tr_W E M R lc lz Z e2.1 lv st h rc rs := by
      intro es2 h5 lv st h rc rs h6
      unfold tr_at at h6
      cases es2 with
      | nil => exact h6.elim
      | cons e2 es3 =>
        refine ⟨e2, es3, rfl, ?_⟩
        dsimp only at h6
        split at h6
        · exact tr_weak (hK _ _ _ _ _ _ h6)
        · exact tr_wp_sound ok hlc hlz hO hRd hdk hE hT hK n (e2 :: es3) h5 lv st h rc rs h6 e2 es3 rfl
    refine tr_step_ok ok hlc hlz hO hRd hdk hE (pc := e.1) (len := e.2.2.1) (fun lv st h rc rs h6 => ?_) (fun t lv st h rc rs h6 => ?_) (of_decide_eq_true h1) h2 hw
    · obtain ⟨e2, es3, rfl, h7⟩ := hat es' h4 lv st h rc rs h6
      have : e2.1 = e.1 + e.2.2.1 := tr_bq h3
      rw [← this]
      exact h7
    · obtain ⟨e2, es3, h8, h7⟩ := hat _ (tr_sfx_ok t tbl hT).1 lv st h rc rs h6
      have := (tr_sfx_ok t tbl hT).2 e2 es3 h8
      rw [← this]
      exact h7
theorem tr_Ends_of (ok : tr_ok E) (hlc : lc ≤ R.cells) (hlz : lz ≤ R.slots) {mc ms : Nat} (hm : lc ≤ mc) (hs : lz ≤ ms) (hh : mH M = [] ∨ (mY M).cls = RL) : tr_Ends E M R lc lz (tr_Z E Q mc ms) Q := by
  refine ⟨fun pc x lv h rc rs h1 h2 h3 => tr_r_iret hm hs h1 h2 h3, fun pc x lv h rc rs h1 h2 h3 => tr_r_zret hm hs h1 h2 h3, fun pc x lv h rc rs h1 h2 h3 => tr_r_lret hm hs h1 h2 h3, fun pc lv h rc rs h1 h2 h3 => tr_r_vret hm hs h1 h2 h3, fun pc k lv st h rc rs hk h1 h2 h3 h4 h5 h6 h7 h8 h9 => ?_, fun pc k lv st h rc rs hk hx => ?_, fun pc k hp lv st h rc rs hk h1 h2 => ?_⟩
  · unfold tr_thr at h4
    simp only [Bool.and_eq_true, decide_eq_true_eq] at h4
    obtain ⟨d1, d2, d3, d4⟩ := h4
    rcases (show k = 0 ∨ (k = 1 ∨ k = 2) by omega) with rfl | hk2
    · exact tr_r_throw0 ok hm hs hlc hlz h1 h2 h3 d1 d2 d3 d4 h5 h6 h7 h8 h9
    · exact tr_r_throw12 ok hm hs hlc hlz hk2 h1 h2 h3 d1 d2 d3 d4 h5 h6 h7 h8 h9
  · unfold tr_X at hx
    cases hM : mH M with
    | nil => rw [hM] at hx; exact tr_r_out hm hs hk hM hx
    | cons a b => rw [hM] at hx; exact hx.elim
  · rcases hh with hh | hh
    · rw [hh] at h1; cases h1
    · exact tr_r_catch ok hk hh h1 h2
end TRQ
/-- the room of the plain methods: what they call needs less -/
def tr_dkm (M : tr_MI) (a : Nat) : Bool := Nat.ble (mD (tr_mi a) + 1) (mD M)
theorem tr_room_ok (d mc ms : Nat) : tr_Rok (tr_room d mc ms) d := ⟨Nat.le_refl _, Nat.le_refl _⟩
/-- at a place of a plain method -/
def tr_G (E : tr_Env) (a : Nat) (Q : tr_Q) (pc : Nat) (lv : tr_L) (st : List tr_V) (h : tr_H) (rc rs : Nat) : Prop := tr_W E (tr_mi a) (tr_room (mD (tr_mi a)) (mC (tr_mi a)) (mS (tr_mi a))) (mC (tr_mi a)) (mS (tr_mi a)) (tr_Z E Q (mC (tr_mi a)) (mS (tr_mi a))) pc lv st h rc rs
/-- what is checked of a method's table -/
def tr_mtok (a : Nat) (tbl : List tr_En) : Bool := Nat.blt a 229 && (decide (tr_R (mO (tr_mi a)) = (mY (tr_mi a)).cls) && ((decide (mH (tr_mi a) = []) || decide ((mY (tr_mi a)).cls = RL)) && (plainName (mY (tr_mi a)).cls && tr_tok (tr_mi a) (mD (tr_mi a)) (tr_dkm (tr_mi a)) tbl)))
theorem tr_G_wp {E : tr_Env} {Q : tr_Q} {tbl : List tr_En} (a : Nat) (hs0 : List (Nat × Nat × Nat × Nat)) (cuts : List (Nat × List Bool)) (n : Nat) (pc : Nat) (hT : tr_mtok a tbl = true) (hh0 : mH (tr_mi a) = hs0) (ok : tr_ok E) {lv : tr_L} {st : List tr_V} {h : tr_H} {rc rs : Nat}
    (hw : tr_wp (tr_C E) tr_txt tbl hs0 cuts (tr_G E a Q) Q n (tr_sfx pc tbl) lv st h rc rs) : tr_G E a Q pc lv st h rc rs := by
  subst hh0
  unfold tr_mtok at hT
  simp only [Bool.and_eq_true, Bool.or_eq_true, Nat.blt_eq, decide_eq_true_eq] at hT
  obtain ⟨h1, h2, h3, h4, h5⟩ := hT
  have h6 := tr_sfx_ok (M := tr_mi a) (dm := mD (tr_mi a)) (dk := tr_dkm (tr_mi a)) pc tbl h5
  generalize tr_sfx pc tbl = es0 at hw h6
  cases es0 with
  | nil => cases n <;> exact hw.elim
  | cons e es =>
    have h7 := h6.2 e es rfl
    rw [← h7]
    exact tr_wp_sound ok (Nat.le_refl _) (Nat.le_refl _) h2 (tr_room_ok _ _ _) (fun b hb => (tr_room_ok _ _ _).le (Nat.le_of_ble_eq_true hb)) (tr_Ends_of ok (Nat.le_refl _) (Nat.le_refl _) (Nat.le_refl _) (Nat.le_refl _) h3) h5 (fun _ _ _ _ _ _ g => g) n (e :: es) h6.1 lv st h rc rs hw e es rfl
theorem tr_C_of {E : tr_Env} {Q : tr_Q} {tbl : List tr_En} (a L mc ms : Nat) (hT : tr_mtok a tbl = true) (hL : mL (tr_mi a) = L) (hmc : mC (tr_mi a) = mc) (hms : mS (tr_mi a) = ms) {as : List tr_V} {h : tr_H} (hsl : tr_wsT as ≤ L) (hG : tr_G E a Q 0 (tr_ent L as) [] h mc ms) : tr_C E a as h Q := by
  subst hL; subst hmc; subst hms
  unfold tr_mtok at hT
  simp only [Bool.and_eq_true, Bool.or_eq_true, Nat.blt_eq, decide_eq_true_eq] at hT
  obtain ⟨h1, h2, h3, h4, h5⟩ := hT
  exact tr_Cd_of (tr_Mok_of h1).1 h4 (by rw [tr_ws_eq]; exact hsl) hG
theorem tr_Gweak {E : tr_Env} {a : Nat} {Q : tr_Q} {pc : Nat} (bs : List Bool) {lv : tr_L} {st : List tr_V} {h : tr_H} {rc rs : Nat} (H : tr_G E a Q pc (lvp bs lv) st h rc rs) : tr_G E a Q pc lv st h rc rs := tr_weak H
