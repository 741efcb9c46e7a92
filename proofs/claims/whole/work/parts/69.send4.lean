/-! SEND: the class's packet goes -/
def cmj (m two : Int → Int) (de a : Int) : Nat → Int
  | 0 => -1
  | j + 1 => rt m (xs m two de a j) de
section SN4
variable {E : tr_Env} {ad : Nat → Nat} {h h0 hb : tr_H} {Q : tr_Q} {m one two : Int → Int} {H L a de nu si lf w5 : Int} {r nn A B : Nat}
theorem fx_w (f : fx r hb h) {x k : Nat} {v : Int32} (hx : ht hb x = 0) : fx r hb (hsI h x k v) := by
  intro y hy
  have e : y ≠ x := ne_ht hy hx
  obtain ⟨a1, a2⟩ := f y hy
  refine ⟨a1, fun er => ?_⟩
  obtain ⟨b1, b2, b3⟩ := a2 er
  exact ⟨by rw [gv_sIn e]; exact b1, b2, b3⟩
theorem k_fateAt (ok : tr_ok E) (n : nst ad h nn m one two H L) (v : vok m one two H L) (hr : ht h r = 4) (e1 : gv h r 1 = de) {x : Int} (x0 : 0 ≤ x) (x1 : x < H) (d0 : 0 ≤ de) (d1 : de < H) (q : Q (.inl (some (.inl (ii (fz m x de))))) h) : tr_C E 39 [.inr (.inr r), .inr (.inr nn), .inl (ii x), .inl (ii (if x = de then -1 else rt m x de))] h Q := by
  refine T_X3_fateAt ok ?_
  have vH := v_H v
  have vL := v_L v
  have rg := rt_rg v x0 x1 d0 d1
  obtain ⟨n0, n1, n2, -, -, ⟨ua, ub, uc⟩, -⟩ := id n
  unfold fz at q
  by_cases g : x = de
  · rw [if_pos g] at q ⊢
    simp (disch := first | omega | decide | assumption | exact st_ne s0 (by decide) (by decide) (by decide) | exact dyn_ne (by assumption) (by decide) | fail) only [Int.reduceAdd, Int.reduceSub, Int.reduceNeg, ii_add, ii_sub, ii_mul, ii_lt, ii_le, ii_eq, ixn_ii, ixo_ii, rem_ii, nb_1, nb_0, nb_bb, bb_0, hI_gv, Int.toNat_of_nonneg, Int.cast_ofNat_Int, ht_sI, ht_sJ, ht_sR, hn_sI, hn_sJ, hn_sR, hR_sI, hR_sJ, kI_v, kV_v, kJ_v, true_and, and_true, forall_eq, tg, ln, rf, ne_eq, not_false_eq_true, forall_const, not_true_eq_false, false_implies, W_X3_fateAt, hr, e1]
    exact ⟨fun _ => q, fun k => absurd g k⟩
  · rw [if_neg g] at q ⊢
    by_cases g2 : rt m x de = -1
    · rw [if_pos g2] at q
      simp (disch := first | omega | decide | assumption | exact st_ne s0 (by decide) (by decide) (by decide) | exact dyn_ne (by assumption) (by decide) | fail) only [Int.reduceAdd, Int.reduceSub, Int.reduceNeg, ii_add, ii_sub, ii_mul, ii_lt, ii_le, ii_eq, ixn_ii, ixo_ii, rem_ii, nb_1, nb_0, nb_bb, bb_0, hI_gv, Int.toNat_of_nonneg, Int.cast_ofNat_Int, ht_sI, ht_sJ, ht_sR, hn_sI, hn_sJ, hn_sR, hR_sI, hR_sJ, kI_v, kV_v, kJ_v, true_and, and_true, forall_eq, tg, ln, rf, ne_eq, not_false_eq_true, forall_const, not_true_eq_false, false_implies, W_X3_fateAt, hr, e1]
      exact ⟨fun k => absurd k g, fun _ => ⟨fun _ => q, fun k => absurd g2 k⟩⟩
    · rw [if_neg g2] at q
      have l0 : 0 ≤ rt m x de := by omega
      have hu := uc (rt m x de) l0 (by omega)
      have br := b2_rg (!bt (m 0) (rt m x de))
      simp (disch := first | omega | decide | assumption | exact st_ne s0 (by decide) (by decide) (by decide) | exact dyn_ne (by assumption) (by decide) | fail) only [Int.reduceAdd, Int.reduceSub, Int.reduceNeg, ii_add, ii_sub, ii_mul, ii_lt, ii_le, ii_eq, ixn_ii, ixo_ii, rem_ii, nb_1, nb_0, nb_bb, bb_0, hI_gv, Int.toNat_of_nonneg, Int.cast_ofNat_Int, ht_sI, ht_sJ, ht_sR, hn_sI, hn_sJ, hn_sR, hR_sI, hR_sJ, kI_v, kV_v, kJ_v, true_and, and_true, forall_eq, tg, ln, rf, ne_eq, not_false_eq_true, forall_const, not_true_eq_false, false_implies, W_X3_fateAt, hr, e1, n0, ua, ub, hu]
      refine ⟨fun k => absurd k g, fun _ => ⟨fun k => absurd k g2, fun _ => ⟨by omega, fun k => ?_, fun k => ?_⟩⟩⟩
      · cases hbt : bt (m 0) (rt m x de)
        · rw [hbt] at k; exact absurd k (by decide)
        · rw [hbt, if_pos rfl] at q; exact q
      · cases hbt : bt (m 0) (rt m x de)
        · rw [hbt, if_neg (by decide)] at q; exact q
        · rw [hbt] at k; exact absurd rfl k
/-- a packet that has gone so far -/
def pkg (h : tr_H) (r A B : Nat) (a de nu si lf w5 : Int) : Prop := ht h r = 4 ∧ gv h r 0 = a ∧ gv h r 1 = de ∧ gv h r 2 = nu ∧ gv h r 3 = si ∧ gv h r 4 = lf ∧ gv h r 5 = w5 ∧ hR h r 6 = A ∧ hR h r 7 = B ∧ (ht h A = 11 ∧ (hn h A : Int) = lf + 1) ∧ (ht h B = 11 ∧ (hn h B : Int) = lf + 1)
theorem k_follow_10 (ok : tr_ok E) (sb : stat ad hb) (nb : nst ad hb nn m one two H L) (v : vok m one two H L) (g : sdG H a de nu si lf) (hr0 : ht hb r = 0) (hA : ht hb A = 0) (hB : ht hb B = 0) (nAB : A ≠ B) (nAr : A ≠ r) (nBr : B ≠ r) {N F : Int} (q : ∀ h', fx r hb h' → pkg h' r A B a de nu si lf w5 → gv h' r 8 = N + 1 → gv h' r 9 = F → (∀ j : Nat, (j : Int) ≤ N → gv h' A j = xs m two de a j ∧ gv h' B j = cmj m two de a j) → Q (.inl none) h') : ∀ (n k : Nat) (h : tr_H), (k : Int) + n = lf → N = k + nz m two de (xs m two de a k) n → F = fq m two de (xs m two de a k) n → 0 ≤ xs m two de a k → xs m two de a k < H → -1 ≤ cmj m two de a k → cmj m two de a k < 24 → fx r hb h → pkg h r A B a de nu si lf w5 → (∀ j : Nat, j < k → gv h A j = xs m two de a j ∧ gv h B j = cmj m two de a j) → tr_G E 38 Q 10 [some (.inr (.inr r)), some (.inr (.inr nn)), some (.inl (ii (xs m two de a k))), some (.inl (ii (cmj m two de a k))), some (.inl (ii (k : Int))), none] [] h 0 0
  | n, k, h, hn', hN, hF, x0, x1, c0, c1, f, pk, rows => by
    refine T_X3_follow_10 ok ?_
    obtain ⟨⟨ga, gd⟩, gn, gs, gl⟩ := id g
    have vH := v_H v
    have vL := v_L v
    obtain ⟨p0, p1, p2, p3, p4, p5, p6, p7, p8, ⟨a1, a2⟩, b1, b2⟩ := id pk
    have fz' := fz_rg m (xs m two de a k) de
    have rg := rt_rg v x0 x1 gd.1 gd.2
    -- the heap with the place written
    have fW : ∀ h3, h3 = hsI (hsI (hsI h A k (ii (xs m two de a k))) B k (ii (cmj m two de a k))) r 8 (ii ((k : Int) + 1)) → fx r hb h3 ∧ pkg h3 r A B a de nu si lf w5 ∧ gv h3 r 8 = (k : Int) + 1 ∧ ∀ j : Nat, j < k + 1 → gv h3 A j = xs m two de a j ∧ gv h3 B j = cmj m two de a j := by
      intro h3 e3
      have gr : gv h3 r = ud (gv h r) 8 ((k : Int) + 1) := by
        rw [e3, gv_sIi (by omega) (by omega), gv_sIn (fun e => nBr e.symm), gv_sIn (fun e => nAr e.symm)]; rfl
      have gA : gv h3 A = ud (gv h A) k (xs m two de a k) := by
        rw [e3, gv_sIn nAr, gv_sIn nAB, gv_sIi (by omega) (by omega)]
      have gB : gv h3 B = ud (gv h B) k (cmj m two de a k) := by
        rw [e3, gv_sIn nBr, gv_sIi (by omega) (by omega), gv_sIn (fun e => nAB e.symm)]
      refine ⟨?_, ⟨by rw [e3]; exact p0, ?_, ?_, ?_, ?_, ?_, ?_, by rw [e3]; exact p7, by rw [e3]; exact p8, by rw [e3]; exact ⟨a1, a2⟩, by rw [e3]; exact ⟨b1, b2⟩⟩, ?_, fun j hj => ?_⟩
      · rw [e3]; exact fx_w (fx_w (fx_w f hA) hB) hr0
      · rw [gr, ud_ne (by decide)]; exact p1
      · rw [gr, ud_ne (by decide)]; exact p2
      · rw [gr, ud_ne (by decide)]; exact p3
      · rw [gr, ud_ne (by decide)]; exact p4
      · rw [gr, ud_ne (by decide)]; exact p5
      · rw [gr, ud_ne (by decide)]; exact p6
      · rw [gr]; exact ud_eq _ _ _
      · rw [gA, gB]
        by_cases e : j = k
        · subst e; rw [ud_eq, ud_eq]; exact ⟨rfl, rfl⟩
        · rw [ud_ne (by omega), ud_ne (by omega)]; exact rows j (by omega)
    -- and with the fate
    have fZ : ∀ h3 h4, h3 = hsI (hsI (hsI h A k (ii (xs m two de a k))) B k (ii (cmj m two de a k))) r 8 (ii ((k : Int) + 1)) → h4 = hsI h3 r 9 (ii (fz m (xs m two de a k) de)) → fx r hb h4 ∧ pkg h4 r A B a de nu si lf w5 ∧ gv h4 r 8 = (k : Int) + 1 ∧ gv h4 r 9 = fz m (xs m two de a k) de ∧ ∀ j : Nat, j < k + 1 → gv h4 A j = xs m two de a j ∧ gv h4 B j = cmj m two de a j := by
      intro h3 h4 e3 e4
      obtain ⟨w1, w2, w3, w4⟩ := fW h3 e3
      obtain ⟨z0, z1, z2, z3, z4, z5, z6, z7, z8, z9, z10⟩ := w2
      have gr : gv h4 r = ud (gv h3 r) 9 (fz m (xs m two de a k) de) := by
        rw [e4, gv_sIi (by omega) (by omega)]; rfl
      refine ⟨by rw [e4]; exact fx_w w1 hr0, ⟨by rw [e4]; exact z0, ?_, ?_, ?_, ?_, ?_, ?_, by rw [e4]; exact z7, by rw [e4]; exact z8, by rw [e4]; exact z9, by rw [e4]; exact z10⟩, ?_, ?_, fun j hj => ?_⟩
      · rw [gr, ud_ne (by decide)]; exact z1
      · rw [gr, ud_ne (by decide)]; exact z2
      · rw [gr, ud_ne (by decide)]; exact z3
      · rw [gr, ud_ne (by decide)]; exact z4
      · rw [gr, ud_ne (by decide)]; exact z5
      · rw [gr, ud_ne (by decide)]; exact z6
      · rw [gr, ud_ne (by decide)]; exact w3
      · rw [gr]; exact ud_eq _ _ _
      · rw [e4, gv_sIn nAr, gv_sIn nBr]; exact w4 j hj
    have kN : (k : Int) < lf + 1 := by omega
    have ixk : ixn (ii (k : Int)) = k := by rw [ixn_ii (by omega) (by omega)]; rfl
    have ok1 : ixo (ii (k : Int)) (hn h A) := by rw [ixo_ii (by omega) (by omega)]; omega
    have ok2 : ixo (ii (k : Int)) (hn h B) := by rw [ixo_ii (by omega) (by omega)]; omega
    have lt1 : ii (k : Int) < ii (hn h A : Nat) := by rw [a2, ii_lt (by omega) (by omega) (by omega) (by omega)]; exact kN
    have e1k : ii (k : Int) + ii 1 = ii ((k : Int) + 1) := ii_add _ _
    refine ⟨p0, ?_⟩
    rw [p7]
    refine ⟨a1, fun _ => ⟨p0, a1, ok1, fun h1 x1' => ?_⟩, fun kk => absurd lt1 kk⟩
    have R1 : hR h1 = hR h := by rw [x1']; rfl
    have T1 : ht h1 = ht h := by rw [x1']; rfl
    have N1 : hn h1 = hn h := by rw [x1']; rfl
    refine ⟨by rw [T1]; exact p0, ?_⟩
    rw [R1, p8, T1, N1]
    refine ⟨b1, ok2, fun h2 x2' => ?_⟩
    have T2 : ht h2 = ht h := by rw [x2']; exact T1
    refine ⟨by rw [T2]; exact p0, fun h3 x3' => ?_⟩
    rw [x2', x1', ixk, e1k] at x3'
    obtain ⟨w1, w2, w3, w4⟩ := fW h3 x3'
    obtain ⟨z0, z1, z2, z3, z4, z5, z6, z7, z8, z9, z10⟩ := id w2
    have n3 : nst ad h3 nn m one two H L := nst_fr sb (fx_fr (ad := ad) (P := p00) (F := f0) (R := false) fr_rfl w1 hr0) p00_lt nb
    have hd : hI h3 r 1 = ii de := by rw [hI_gv]; show ii (gv h3 r 1) = _; rw [z2]
    refine ⟨z0, ?_⟩
    rw [hd]
    -- what follows the fate
    have fate : ∀ l, l = (if xs m two de a k = de then -1 else rt m (xs m two de a k) de) → ∀ h4, h4 = hsI h3 r 9 (ii (fz m (xs m two de a k) de)) → (ht h4 r = 4 ∧ ((hI h4 r 9 = ii 3 → (ht h4 r = 4 ∧ ((ii (k : Int) = hI h4 r 4 → (Q (.inl none) h4)) ∧ (¬ ii (k : Int) = hI h4 r 4 → (ht h4 nn = 3 ∧ (ht h4 (hR h4 nn 3) = 11 ∧ ixo (ii l) (hn h4 (hR h4 nn 3)) ∧ (tr_G E 38 Q 10 [some (.inr (.inr r)), some (.inr (.inr nn)), some (.inl (hI h4 (hR h4 nn 3) (ixn (ii l)))), some (.inl (ii l)), some (.inl (ii (k : Int) + ii 1)), none] [] h4 0 0))))))) ∧ (¬ hI h4 r 9 = ii 3 → (Q (.inl none) h4)))) := by
      intro l hl h4 e4
      obtain ⟨u1, u2, u3, u4, u5⟩ := fZ h3 h4 x3' e4
      obtain ⟨y0, y1, y2, y3, y4, y5, y6, y7, y8, y9, y10⟩ := id u2
      have n4 : nst ad h4 nn m one two H L := nst_fr sb (fx_fr (ad := ad) (P := p00) (F := f0) (R := false) fr_rfl u1 hr0) p00_lt nb
      have h9 : hI h4 r 9 = ii (fz m (xs m two de a k) de) := by rw [hI_gv]; show ii (gv h4 r 9) = _; rw [u4]
      have h4' : hI h4 r 4 = ii lf := by rw [hI_gv]; show ii (gv h4 r 4) = _; rw [y5]
      rw [h9, h4', ii_eq (by omega) (by omega) (by omega) (by omega), ii_eq (by omega) (by omega) (by omega) (by omega)]
      refine ⟨y0, fun e3 => ⟨y0, fun ek => ?_, fun ek => ?_⟩, fun e3 => ?_⟩
      · have n0 : n = 0 := by omega
        subst n0
        have e1 : nz m two de (xs m two de a k) 0 = 0 := rfl
        have e2 : fq m two de (xs m two de a k) 0 = fz m (xs m two de a k) de := rfl
        refine q h4 u1 u2 (by rw [u3, hN, e1]; omega) (by rw [u4, hF, e2]) (fun j hj => u5 j (by omega))
      · obtain ⟨n, rfl⟩ : ∃ n', n = n' + 1 := ⟨n - 1, by omega⟩
        have f3' := fz_3 e3
        have nx := nx_rg v x0 x1 gd.1 gd.2 e3
        rw [if_neg f3'.1] at hl
        subst hl
        obtain ⟨n0, n1, n2, -, ⟨ea, eb, ec⟩, -⟩ := id n4
        have ei : ixn (ii (rt m (xs m two de a k) de)) = (rt m (xs m two de a k) de).toNat := ixn_ii nx.1.1 (by omega)
        have ev : hI h4 (hR h4 nn 3) (rt m (xs m two de a k) de).toNat = ii (two (rt m (xs m two de a k) de)) := by
          rw [hI_gv, Int.toNat_of_nonneg nx.1.1, ec _ nx.1.1 nx.1.2]
        refine ⟨n0, ea, by rw [ixo_ii (by omega) (by omega), eb]; omega, ?_⟩
        rw [ei, ev, e1k]
        have en : nz m two de (xs m two de a k) (n + 1) = 1 + nz m two de (xs m two de a (k + 1)) n := by
          show (if fz m (xs m two de a k) de = 3 then _ else _) = _
          rw [if_pos e3]; rfl
        have ef : fq m two de (xs m two de a k) (n + 1) = fq m two de (xs m two de a (k + 1)) n := by
          show (if fz m (xs m two de a k) de = 3 then _ else _) = _
          rw [if_pos e3]; rfl
        have := k_follow_10 ok sb nb v g hr0 hA hB nAB nAr nBr q n (k + 1) h4 (by omega) (by rw [hN, en]; omega) (by rw [hF, ef]) nx.2.1 nx.2.2 (by show -1 ≤ rt m (xs m two de a k) de; omega) (by show rt m (xs m two de a k) de < 24; omega) u1 u2 u5
        exact this
      · have e1 : nz m two de (xs m two de a k) n = 0 := by
          cases n with
          | zero => rfl
          | succ n => unfold nz; rw [if_neg e3]
        have e2 : fq m two de (xs m two de a k) n = fz m (xs m two de a k) de := by
          cases n with
          | zero => rfl
          | succ n => unfold fq; rw [if_neg e3]
        exact q h4 u1 u2 (by rw [u3, hN, e1]; omega) (by rw [u4, hF, e2]) (fun j hj => u5 j (by omega))
    have fc := fun Q' hq => k_fateAt (Q := Q') ok n3 v z0 z2 x0 x1 gd.1 gd.2 hq
    rw [ii_eq (by omega) (by omega) (by omega) (by omega)]
    refine ⟨fun e => ⟨z0, ?_⟩, fun e => ?_⟩
    · rw [if_pos e] at fc
      refine fc _ ?_
      exact ⟨z0, fun h4 e4 => fate (-1) (by rw [if_pos e]) h4 e4⟩
    · rw [if_neg e] at fc
      obtain ⟨n0, n1, n2, -, -, -, ⟨ra, rb, rc⟩, -⟩ := id n3
      have em : ii (xs m two de a k) * ii 10 + ii de = ii (xs m two de a k * 10 + de) := by rw [ii_mul, ii_add]
      have ei : ixn (ii (xs m two de a k * 10 + de)) = (xs m two de a k * 10 + de).toNat := ixn_ii (by omega) (by omega)
      have ev : hI h3 (hR h3 nn 5) (xs m two de a k * 10 + de).toNat = ii (rt m (xs m two de a k) de) := by
        rw [hI_gv, Int.toNat_of_nonneg (by omega), rc _ (by omega) (by omega)]
        unfold rt
        rw [show 6 + (xs m two de a k * 10 + de) = 6 + 10 * xs m two de a k + de by omega]
      refine ⟨n0, z0, ?_⟩
      rw [em, ei, ev]
      refine ⟨ra, by rw [ixo_ii (by omega) (by omega), rb]; omega, z0, ?_⟩
      refine fc _ ?_
      exact ⟨z0, fun h4 e4 => fate (rt m (xs m two de a k) de) (by rw [if_neg e]) h4 e4⟩
end SN4
