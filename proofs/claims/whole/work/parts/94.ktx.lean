/-! TEXT of the class -/
section KTX
variable {t t' m one two : Int → Int} {n H L : Int}
theorem sk_cg {c c' : Int → Bool} (e : ∀ z, z < n → c z = c' z) : ∀ (k : Nat) (p : Int), sk c n k p = sk c' n k p
  | 0, p => rfl
  | k + 1, p => by
    unfold sk
    by_cases g : p < n
    · rw [e p g, sk_cg e k (p + 1)]
    · rw [if_neg (fun q => g q.1), if_neg (fun q => g q.1)]
theorem skp_cg {c c' : Int → Bool} (e : ∀ z, z < n → c z = c' z) : skp c n = skp c' n := funext fun p => sk_cg e _ p
theorem dv_cg (e : ∀ z, z < n → t z = t' z) : ∀ (k : Nat) (p v : Int), dv t n k p v = dv t' n k p v
  | 0, p, v => rfl
  | k + 1, p, v => by
    unfold dv
    by_cases g : p < n
    · have : cD t p = cD t' p := by unfold cD; rw [e p g]
      rw [e p g, this, dv_cg e k]
    · rw [if_neg (fun q => g q.1), if_neg (fun q => g q.1)]
theorem bl_cg (e : ∀ z, z < n → t z = t' z) : bl t n = bl t' n := funext fun p => congrFun (skp_cg (fun z hz => by unfold cB; rw [e z hz])) p
theorem nE_cg (e : ∀ z, z < n → t z = t' z) : nE t n = nE t' n := funext fun p => by
  unfold nE
  rw [bl_cg e, skp_cg (c := cD t) (c' := cD t') (fun z hz => by unfold cD; rw [e z hz])]
theorem nV_cg (e : ∀ z, z < n → t z = t' z) : nV t n = nV t' n := funext fun p => by
  unfold nV dvp
  rw [bl_cg e, dv_cg e]
theorem nD_cg (e : ∀ z, z < n → t z = t' z) (p : Int) : nD t n p ↔ nD t' n p := by
  have b := congrFun (bl_cg e) p
  constructor
  · intro g
    refine ⟨by rw [← b]; exact g.1, ?_⟩
    have := g.2
    rw [b] at this
    unfold cD at this ⊢
    rw [← e _ (by rw [← b]; exact g.1)]; exact this
  · intro g
    refine ⟨by rw [b]; exact g.1, ?_⟩
    have := g.2
    rw [← b] at this
    unfold cD at this ⊢
    rw [e _ (by rw [b]; exact g.1)]; exact this
theorem nK_cg (e : ∀ z, z < n → t z = t' z) : nK t n = nK t' n := by
  funext p lo hi
  unfold nK
  rw [nV_cg e]
  by_cases g : nD t' n p
  · rw [if_pos g, if_pos ((nD_cg e p).2 g)]
  · rw [if_neg g, if_neg (fun q => g ((nD_cg e p).1 q))]
theorem oKd_cg (e : ∀ z, z < n → t z = t' z) : oKd t n = oKd t' n := by
  funext p H a
  unfold oKd
  rw [nV_cg e]
  by_cases g : nD t' n p
  · rw [if_pos g, if_pos ((nD_cg e p).2 g)]
  · rw [if_neg g, if_neg (fun q => g ((nD_cg e p).1 q))]
theorem wd_cg (e : ∀ z, z < n → t z = t' z) {s : Int} {x : List Nat} (g : wdm t n s x) : wdm t' n s x := by
  refine ⟨fun i hi => ⟨(g.1 i hi).1, by rw [← e _ (g.1 i hi).1]; exact (g.1 i hi).2⟩, fun q => g.2 ⟨q.1, ?_⟩⟩
  have := q.2
  unfold cL at this ⊢
  rw [e _ q.1]; exact this
theorem wdB_cg (e : ∀ z, z < n → t z = t' z) : wdB t n = wdB t' n := by
  funext s x
  have : wdB t n s x = true ↔ wdB t' n s x = true := by
    rw [wdB_m, wdB_m]
    exact ⟨fun g => wd_cg e g, fun g => wd_cg (fun z hz => (e z hz).symm) g⟩
  cases h1 : wdB t n s x <;> cases h2 : wdB t' n s x <;> simp_all
theorem ln_cg (e : ∀ z, z < n → t z = t' z) (m one two : Int → Int) (s H L : Int) : lnOne t m one two n s H L = lnOne t' m one two n s H L := by
  unfold lnOne lnLink lnCut lnRoute lnBase lnSet
  rw [wdB_cg e, bl_cg e, nE_cg e, nV_cg e, nK_cg e, oKd_cg e]
theorem end_cg (e : ∀ z, z < n → t z = t' z) {b : Int} {A B : LR} : (if b < n ∧ t b = 59 then A else B) = (if b < n ∧ t' b = 59 then A else B) := by
  by_cases g : b < n
  · rw [e b g]
  · rw [if_neg (fun q => g q.1), if_neg (fun q => g q.1)]
theorem lnE_cg (e : ∀ z, z < n → t z = t' z) (R : LR) : lnE t n R = lnE t' n R := by
  rcases R with x | ⟨p, m, o, w, L⟩
  · rfl
  · show (if bl t n p < n ∧ t (bl t n p) = 59 then _ else _) = (if bl t' n p < n ∧ t' (bl t' n p) = 59 then _ else _)
    rw [bl_cg e]; exact end_cg e
theorem txL_cg (e : ∀ z, z < n → t z = t' z) : ∀ (k : Nat) (p : Int) (m one two : Int → Int) (L : Int), txL t n H k p m one two L = txL t' n H k p m one two L
  | 0, p, m, one, two, L => rfl
  | k + 1, p, m, one, two, L => by
    by_cases g : bl t n p < n
    · have g' : bl t' n p < n := by rw [← bl_cg e]; exact g
      have q : lnE t n (lnOne t m one two n (bl t n p) H L) = lnE t' n (lnOne t' m one two n (bl t' n p) H L) := by rw [lnE_cg e, ln_cg e, bl_cg e]
      rcases r : lnE t' n (lnOne t' m one two n (bl t' n p) H L) with ⟨x, y⟩ | ⟨p', m', o', w', L'⟩
      · rw [txL_X g (q.trans r), txL_X g' r]
      · rw [txL_Y g (q.trans r), txL_Y g' r]
        exact txL_cg e k p' m' o' w' L'
    · rw [txL_Z g, txL_Z (by rw [← bl_cg e]; exact g), bl_cg e]
theorem txAll_cg (e : ∀ z, z < n → t z = t' z) : txAll t m one two n = txAll t' m one two n := by
  unfold txAll
  rw [wdB_cg e, bl_cg e, nE_cg e, nV_cg e, nK_cg e, txL_cg e, end_cg e]
end KTX
