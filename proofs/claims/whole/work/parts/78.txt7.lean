/-! TEXT: one line, all of it; the reference -/
section TX7
variable {E : tr_Env} {ad : Nat → Nat} {h h0 h1 : tr_H} {Q : tr_Q} {t m one two : Int → Int} {n s p H L a b k z : Int} {R : LR} {w : Nat} {x : List Nat}
theorem c_pass2 (ok : tr_ok E) (hs : bl t n s = s) (r : rS ad h t n s) (b : tr_tx h w x) (x1 : 1 ≤ x.length) (xl : ∀ i, i < x.length → 97 ≤ x.getD i 0 ∧ x.getD i 0 ≤ 122) (x6 : x.length ≤ 6) (q : wdB t n s x = true → ∀ h', fr ad p00 fR false h h' → rS ad h' t n (s + x.length) → gv h' (ad 23) 17 = s → Q (.inl (some (.inl (ii 1)))) h') (rr : ¬ wdB t n s x = true → ∀ h', fr ad p00 fR false h h' → rS ad h' t n s → Q (.inl (some (.inl (ii 0)))) h') : tr_C E 141 [.inr (.inr (ad 23)), .inr (.inr w)] h Q := c_pass ok r b x1 xl x6 (by rw [hs]; exact q) (by rw [hs]; exact rr)
theorem c_oneLine (ok : tr_ok E) (r : rS ad h t n p) (rn : rN ad h m one two H L) (H0 : 2 ≤ H) (H1 : H ≤ 10) (L0 : 0 ≤ L) (L1 : L ≤ 24) (m0 : 0 ≤ m 0) (m0' : m 0 ≤ 16777215) (m2 : 2 ≤ m 2) (m2' : m 2 ≤ 997) (m4 : 0 ≤ m 4) (m4' : m 4 ≤ 997) (qX : ∀ k w, lnE t n (lnOne t m one two n (bl t n p) H L) = .inl (k, w) → ∀ h', fr ad pN fNx false h h' → rY ad h' k w → Q (.inl none) h') (qY : ∀ p' m' o' w' L', lnE t n (lnOne t m one two n (bl t n p) H L) = .inr (p', m', o', w', L') → ∀ h', fr ad pN fNx false h h' → rS ad h' t n p' → rN ad h' m' o' w' H L' → Q (.inl none) h') : tr_C E 150 [.inr (.inr (ad 23))] h Q := by
  refine T_X8_oneLine ok ?_
  have hs : bl t n (bl t n p) = bl t n p := skp_i _ _ _
  have s0 := r.1.1
  have br := bl_rg r.1
  have n1 := r.1.2.2.2.2.2.2.2
  unfold lnOne at qX qY
  intro t1 b1
  refine ⟨st_t s0 (by decide), c_pass ok r b1 (by decide) (by decide) (by decide) (fun g h1 f r1 e1 => ?_) (fun g h1 f r1 => ?_)⟩
  · rw [if_pos g] at qX qY
    have ff : fr ad p00 fR false h h1 := f
    have s9 := r1.1.1
    have n9 := rN_fr s0 f rn
    show (ii 1 = ii 0 → _) ∧ (¬ ii 1 = ii 0 → _)
    refine ⟨fun e => absurd e (by decide), fun _ => ⟨st_t s9 (by decide), ?_⟩⟩
    exact c_readsLink ok r1 e1 n9 H0 H1 L0 L1 (fun k w e h9 f9 x9 => fnX ok (fr_tr (fNm ff) f9) qX e x9) (fun p' m' o' w' L' e h9 f9 x9 y9 => fnY ok (fr_tr (fNm ff) f9) qX qY e x9 y9)
  show (ii 0 = ii 0 → _) ∧ (¬ ii 0 = ii 0 → _)
  refine ⟨fun _ => ?_, fun e => absurd rfl e⟩
  rw [if_neg g] at qX qY
  have f1 : fr ad p00 fR false h h1 := f
  have s1 := r1.1.1
  have n1' := rN_fr s0 f rn
  clear f
  intro t2 b2
  refine ⟨st_t s1 (by decide), c_pass2 ok hs r1 b2 (by decide) (by decide) (by decide) (fun g h2 f r2 e1 => ?_) (fun g h2 f r2 => ?_)⟩
  · rw [if_pos g] at qX qY
    have ff : fr ad p00 fR false h h2 := fr_tr f1 f
    have s9 := r2.1.1
    have n9 := rN_fr s1 f n1'
    show (ii 1 = ii 0 → _) ∧ (¬ ii 1 = ii 0 → _)
    refine ⟨fun e => absurd e (by decide), fun _ => ⟨st_t s9 (by decide), ?_⟩⟩
    exact c_cutTold ok r2 n9 H0 H1 L0 L1 m0 m0' (fun k w e h9 f9 x9 => fnX ok (fr_tr (fNm ff) f9) qX e x9) (fun p' m' o' w' L' e h9 f9 x9 y9 => fnY ok (fr_tr (fNm ff) f9) qX qY e x9 y9)
  show (ii 0 = ii 0 → _) ∧ (¬ ii 0 = ii 0 → _)
  refine ⟨fun _ => ?_, fun e => absurd rfl e⟩
  rw [if_neg g] at qX qY
  have f2 : fr ad p00 fR false h h2 := fr_tr f1 f
  have s2 := r2.1.1
  have n2' := rN_fr s1 f n1'
  clear f
  intro t3 b3
  refine ⟨st_t s2 (by decide), c_pass2 ok hs r2 b3 (by decide) (by decide) (by decide) (fun g h3 f r3 e1 => ?_) (fun g h3 f r3 => ?_)⟩
  · rw [if_pos g] at qX qY
    have ff : fr ad p00 fR false h h3 := fr_tr f2 f
    have s9 := r3.1.1
    have n9 := rN_fr s2 f n2'
    show (ii 1 = ii 0 → _) ∧ (¬ ii 1 = ii 0 → _)
    refine ⟨fun e => absurd e (by decide), fun _ => ⟨st_t s9 (by decide), ?_⟩⟩
    exact c_readsRoute ok r3 n9 H0 H1 L0 L1 (fun k w e h9 f9 x9 => fnX ok (fr_tr (fNm ff) f9) qX e x9) (fun p' m' o' w' L' e h9 f9 x9 y9 => fnY ok (fr_tr (fNm ff) f9) qX qY e x9 y9)
  show (ii 0 = ii 0 → _) ∧ (¬ ii 0 = ii 0 → _)
  refine ⟨fun _ => ?_, fun e => absurd rfl e⟩
  rw [if_neg g] at qX qY
  have f3 : fr ad p00 fR false h h3 := fr_tr f2 f
  have s3 := r3.1.1
  have n3' := rN_fr s2 f n2'
  clear f
  intro t4 b4
  refine ⟨st_t s3 (by decide), c_pass2 ok hs r3 b4 (by decide) (by decide) (by decide) (fun g h4 f r4 e1 => ?_) (fun g h4 f r4 => ?_)⟩
  · rw [if_pos g] at qX qY
    have ff : fr ad p00 fR false h h4 := fr_tr f3 f
    have s9 := r4.1.1
    have n9 := rN_fr s3 f n3'
    show (ii 1 = ii 0 → _) ∧ (¬ ii 1 = ii 0 → _)
    refine ⟨fun e => absurd e (by decide), fun _ => ⟨st_t s9 (by decide), ?_⟩⟩
    exact c_baseTold ok r4 n9 m4 m4' (fun k w e h9 f9 x9 => fnX ok (fr_tr (fNm ff) f9) qX e x9) (fun p' m' o' w' L' e h9 f9 x9 y9 => fnY ok (fr_tr (fNm ff) f9) qX qY e x9 y9)
  show (ii 0 = ii 0 → _) ∧ (¬ ii 0 = ii 0 → _)
  refine ⟨fun _ => ?_, fun e => absurd rfl e⟩
  rw [if_neg g] at qX qY
  have f4 : fr ad p00 fR false h h4 := fr_tr f3 f
  have s4 := r4.1.1
  have n4' := rN_fr s3 f n3'
  clear f
  intro t5 b5
  refine ⟨st_t s4 (by decide), c_pass2 ok hs r4 b5 (by decide) (by decide) (by decide) (fun g h5 f r5 e1 => ?_) (fun g h5 f r5 => ?_)⟩
  · rw [if_pos g] at qX qY
    have ff : fr ad p00 fR false h h5 := fr_tr f4 f
    have s9 := r5.1.1
    have n9 := rN_fr s4 f n4'
    show (ii 1 = ii 0 → _) ∧ (¬ ii 1 = ii 0 → _)
    refine ⟨fun e => absurd e (by decide), fun _ => ?_⟩
    have i1 := n9.1
    have cs := c_set1 (lo := 0) (hi := m 2 - 1) ok r5 n9 4 (by decide) (by omega) (by omega) (by omega) (by omega) (Q := kI (fun v h8 => ht h8 (ad 26) = 11 ∧ (0 ≤ (4 : Int) ∧ (4 : Int) < (hn h8 (ad 26) : Nat)) ∧ ht h8 (ad 23) = 9 ∧ tr_C E 143 [.inr (.inr (ad 23))] (hsI h8 (ad 26) (4 : Int).toNat v) (kV (fun h' => Q (.inl none) h') (fun E h' => Q (.inr E) h'))) (fun E h' => Q (.inr E) h')) (fun v h8 f8 x8 y8 => by
      rcases x8 with ⟨k, w, e, x9⟩ | ⟨p', m', o', w', L', e, x9, z9⟩
      · obtain ⟨u1, u2⟩ := fnX ok (fr_tr (fNm ff) f8) qX e x9
        exact ⟨y8.1, ⟨by decide, by rw [y8.2]; decide⟩, u1, u2⟩
      · obtain ⟨u1, u2⟩ := fnY ok (fr_tr (fNm ff) f8) qX qY e x9 z9
        exact ⟨y8.1, ⟨by decide, by rw [y8.2]; decide⟩, u1, u2⟩)
    simp (disch := first | omega | decide | assumption | exact st_ne s0 (by decide) (by decide) (by decide) | exact dyn_ne (by assumption) (by decide) | fail) only [Int.reduceAdd, Int.reduceSub, Int.reduceNeg, ii_add, ii_sub, ii_mul, ii_lt, ii_le, ii_eq, ixn_ii, ixo_ii, rem_ii, nb_1, nb_0, nb_bb, bb_0, hI_gv, Int.toNat_of_nonneg, Int.cast_ofNat_Int, ht_sI, ht_sJ, ht_sR, hn_sI, hn_sJ, hn_sR, hR_sI, hR_sJ, kI_v, kV_v, kJ_v, true_and, and_true, forall_eq, tg, ln, rf, ne_eq, not_false_eq_true, forall_const, not_true_eq_false, false_implies, st_t s9, st_n s9, st_r s9, i1]
    exact ⟨⟨by decide, by decide⟩, cs⟩
  show (ii 0 = ii 0 → _) ∧ (¬ ii 0 = ii 0 → _)
  refine ⟨fun _ => ?_, fun e => absurd rfl e⟩
  rw [if_neg g] at qX qY
  have f5 : fr ad p00 fR false h h5 := fr_tr f4 f
  have s5 := r5.1.1
  have n5' := rN_fr s4 f n4'
  clear f
  intro t6 b6
  refine ⟨st_t s5 (by decide), c_pass2 ok hs r5 b6 (by decide) (by decide) (by decide) (fun g h6 f r6 e1 => ?_) (fun g h6 f r6 => ?_)⟩
  · rw [if_pos g] at qX qY
    have ff : fr ad p00 fR false h h6 := fr_tr f5 f
    have s9 := r6.1.1
    have n9 := rN_fr s5 f n5'
    show (ii 1 = ii 0 → _) ∧ (¬ ii 1 = ii 0 → _)
    refine ⟨fun e => absurd e (by decide), fun _ => ?_⟩
    have i1 := n9.1
    have cs := c_set1 (lo := 1) (hi := 31) ok r6 n9 1 (by decide) (by omega) (by omega) (by omega) (by omega) (Q := kI (fun v h8 => ht h8 (ad 26) = 11 ∧ (0 ≤ (1 : Int) ∧ (1 : Int) < (hn h8 (ad 26) : Nat)) ∧ ht h8 (ad 23) = 9 ∧ tr_C E 143 [.inr (.inr (ad 23))] (hsI h8 (ad 26) (1 : Int).toNat v) (kV (fun h' => Q (.inl none) h') (fun E h' => Q (.inr E) h'))) (fun E h' => Q (.inr E) h')) (fun v h8 f8 x8 y8 => by
      rcases x8 with ⟨k, w, e, x9⟩ | ⟨p', m', o', w', L', e, x9, z9⟩
      · obtain ⟨u1, u2⟩ := fnX ok (fr_tr (fNm ff) f8) qX e x9
        exact ⟨y8.1, ⟨by decide, by rw [y8.2]; decide⟩, u1, u2⟩
      · obtain ⟨u1, u2⟩ := fnY ok (fr_tr (fNm ff) f8) qX qY e x9 z9
        exact ⟨y8.1, ⟨by decide, by rw [y8.2]; decide⟩, u1, u2⟩)
    simp (disch := first | omega | decide | assumption | exact st_ne s0 (by decide) (by decide) (by decide) | exact dyn_ne (by assumption) (by decide) | fail) only [Int.reduceAdd, Int.reduceSub, Int.reduceNeg, ii_add, ii_sub, ii_mul, ii_lt, ii_le, ii_eq, ixn_ii, ixo_ii, rem_ii, nb_1, nb_0, nb_bb, bb_0, hI_gv, Int.toNat_of_nonneg, Int.cast_ofNat_Int, ht_sI, ht_sJ, ht_sR, hn_sI, hn_sJ, hn_sR, hR_sI, hR_sJ, kI_v, kV_v, kJ_v, true_and, and_true, forall_eq, tg, ln, rf, ne_eq, not_false_eq_true, forall_const, not_true_eq_false, false_implies, st_t s9, st_n s9, st_r s9, i1]
    exact cs
  show (ii 0 = ii 0 → _) ∧ (¬ ii 0 = ii 0 → _)
  refine ⟨fun _ => ?_, fun e => absurd rfl e⟩
  rw [if_neg g] at qX qY
  have f6 : fr ad p00 fR false h h6 := fr_tr f5 f
  have s6 := r6.1.1
  have n6' := rN_fr s5 f n5'
  clear f
  intro t7 b7
  refine ⟨st_t s6 (by decide), c_pass2 ok hs r6 b7 (by decide) (by decide) (by decide) (fun g h7 f r7 e1 => ?_) (fun g h7 f r7 => ?_)⟩
  · rw [if_pos g] at qX qY
    have ff : fr ad p00 fR false h h7 := fr_tr f6 f
    have s9 := r7.1.1
    have n9 := rN_fr s6 f n6'
    show (ii 1 = ii 0 → _) ∧ (¬ ii 1 = ii 0 → _)
    refine ⟨fun e => absurd e (by decide), fun _ => ?_⟩
    have i1 := n9.1
    have cs := c_set1 (lo := 2) (hi := 64) ok r7 n9 5 (by decide) (by omega) (by omega) (by omega) (by omega) (Q := kI (fun v h8 => ht h8 (ad 26) = 11 ∧ (0 ≤ (5 : Int) ∧ (5 : Int) < (hn h8 (ad 26) : Nat)) ∧ ht h8 (ad 23) = 9 ∧ tr_C E 143 [.inr (.inr (ad 23))] (hsI h8 (ad 26) (5 : Int).toNat v) (kV (fun h' => Q (.inl none) h') (fun E h' => Q (.inr E) h'))) (fun E h' => Q (.inr E) h')) (fun v h8 f8 x8 y8 => by
      rcases x8 with ⟨k, w, e, x9⟩ | ⟨p', m', o', w', L', e, x9, z9⟩
      · obtain ⟨u1, u2⟩ := fnX ok (fr_tr (fNm ff) f8) qX e x9
        exact ⟨y8.1, ⟨by decide, by rw [y8.2]; decide⟩, u1, u2⟩
      · obtain ⟨u1, u2⟩ := fnY ok (fr_tr (fNm ff) f8) qX qY e x9 z9
        exact ⟨y8.1, ⟨by decide, by rw [y8.2]; decide⟩, u1, u2⟩)
    simp (disch := first | omega | decide | assumption | exact st_ne s0 (by decide) (by decide) (by decide) | exact dyn_ne (by assumption) (by decide) | fail) only [Int.reduceAdd, Int.reduceSub, Int.reduceNeg, ii_add, ii_sub, ii_mul, ii_lt, ii_le, ii_eq, ixn_ii, ixo_ii, rem_ii, nb_1, nb_0, nb_bb, bb_0, hI_gv, Int.toNat_of_nonneg, Int.cast_ofNat_Int, ht_sI, ht_sJ, ht_sR, hn_sI, hn_sJ, hn_sR, hR_sI, hR_sJ, kI_v, kV_v, kJ_v, true_and, and_true, forall_eq, tg, ln, rf, ne_eq, not_false_eq_true, forall_const, not_true_eq_false, false_implies, st_t s9, st_n s9, st_r s9, i1]
    exact cs
  show (ii 0 = ii 0 → _) ∧ (¬ ii 0 = ii 0 → _)
  refine ⟨fun _ => ?_, fun e => absurd rfl e⟩
  rw [if_neg g] at qX qY
  have f7 : fr ad p00 fR false h h7 := fr_tr f6 f
  have s7 := r7.1.1
  have n7' := rN_fr s6 f n6'
  clear f
  have e16 := r7.1.2.2.2.1
  simp (disch := first | omega | decide | assumption | exact st_ne s0 (by decide) (by decide) (by decide) | exact dyn_ne (by assumption) (by decide) | fail) only [Int.reduceAdd, Int.reduceSub, Int.reduceNeg, ii_add, ii_sub, ii_mul, ii_lt, ii_le, ii_eq, ixn_ii, ixo_ii, rem_ii, nb_1, nb_0, nb_bb, bb_0, hI_gv, Int.toNat_of_nonneg, Int.cast_ofNat_Int, ht_sI, ht_sJ, ht_sR, hn_sI, hn_sJ, hn_sR, hR_sI, hR_sJ, kI_v, kV_v, kJ_v, true_and, and_true, forall_eq, tg, ln, rf, ne_eq, not_false_eq_true, forall_const, not_true_eq_false, false_implies, st_t s7, e16]
  refine c_wr4 ok r7 (by omega) (by omega) (by omega) (by omega) (fun h9 f9 x9 => ?_)
  exact fnX ok (fr_tr (fNm f7) (fNm f9)) qX rfl x9
end TX7
