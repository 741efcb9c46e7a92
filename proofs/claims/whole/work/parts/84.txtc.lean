/-! TEXT: the head; the reference -/
def txW (H : Int) (r : LR) : LR := match r with
  | .inl x => .inl x
  | .inr (_, m, o, w, L) => .inr (H, m, o, w, L)
def txAll (t m one two : Int → Int) (n : Int) : LR := if wdB t n (bl t n 0) (tr_txt 0) = true then (if nK t n (bl t n 0 + 4) 2 10 ≠ 0 then .inl (nK t n (bl t n 0 + 4) 2 10, bl t n (bl t n 0 + 4)) else if bl t n (nE t n (bl t n 0 + 4)) < n ∧ t (bl t n (nE t n (bl t n 0 + 4))) = 59 then txW (nV t n (bl t n 0 + 4)) (txL t n (nV t n (bl t n 0 + 4)) (n.toNat + 1) (bl t n (nE t n (bl t n 0 + 4)) + 1) m one two 0) else .inl (1, bl t n (nE t n (bl t n 0 + 4)))) else .inl (1, bl t n 0)
def fQx (z : Int) : Bool := decide (14 ≤ z ∧ z ≤ 22)
section TXC
variable {E : tr_Env} {ad : Nat → Nat} {h h0 h1 : tr_H} {Q : tr_Q} {t m one two : Int → Int} {n s p H L a b z : Int}
theorem fQm (f : fr ad pN fNx false h h1) : fr ad pN fQx false h h1 := fr_mono (fun _ e => e) (fun y e => by
  unfold fNx at e
  unfold fQx
  rw [decide_eq_true_eq] at e ⊢
  omega) (fun e => e) f
theorem vk_clf (g : Int → Int) (H0 : 2 ≤ H) (H1 : H ≤ 10) : vk (clf g) one two H 0 := by
  refine ⟨⟨⟨H0, H1⟩, ⟨by decide, by decide⟩, fun l l0 l1 => by omega, ?_, ?_, ?_, ?_, ?_, ?_, fun k k0 k1 => ?_, ?_, fun p p0 p1 => ?_⟩, rfl⟩
  · exact ⟨by show (0 : Int) ≤ 0; decide, by show (0 : Int) ≤ 16777215; decide⟩
  · exact ⟨by show (1 : Int) ≤ 7; decide, by show (7 : Int) ≤ 31; decide⟩
  · exact ⟨by show (2 : Int) ≤ 101; decide, by show (101 : Int) ≤ 997; decide⟩
  · exact ⟨by show (1 : Int) ≤ 20; decide, by show (20 : Int) ≤ 101; decide⟩
  · exact ⟨by show (0 : Int) ≤ 0; decide, by show (0 : Int) < 101; decide⟩
  · exact ⟨by show (2 : Int) ≤ 16; decide, by show (16 : Int) ≤ 64; decide⟩
  · have e : clf g (6 + k) = -1 := by
      unfold clf
      rw [if_neg (by omega), if_neg (by omega), if_neg (by omega), if_neg (by omega), if_neg (by omega), if_pos (by omega)]
    rw [e]; exact ⟨by decide, by decide⟩
  · exact ⟨by show (0 : Int) ≤ 0; decide, by show (0 : Int) ≤ 40; decide⟩
  · have e : clf g 106 = 0 := rfl
    rw [e] at p1; omega
theorem rX21 {k w : Int} {v : Int32} (r : rX ad h t n k w) : rX ad (hsI h (ad 23) 21 v) t n k w := by
  obtain ⟨⟨p, rb⟩, e18, e19, k0⟩ := r
  have f : fr ad pN fNx false h (hsI h (ad 23) 21 v) := fr_sFs rfl
  have e : ∀ y, y ≠ 21 → gv (hsI h (ad 23) 21 v) (ad 23) y = gv h (ad 23) y := fun y hy => by rw [gv_sI]; exact ud_ne hy
  exact ⟨⟨p, rB_N rb f (e 16 (by decide))⟩, by rw [e 18 (by decide)]; exact e18, by rw [e 19 (by decide)]; exact e19, k0⟩
theorem c_text_hd (ok : tr_ok E) (s0 : stat ad h) (e33 : gv h (ad 33) = t) (n0 : 0 ≤ n) (n1 : n ≤ 400) (qX : ∀ kd wh, txAll t (clf (gv h (ad 26))) (gv h (ad 30)) (gv h (ad 31)) n = .inl (kd, wh) → ∀ h', fr ad pN fQx false h h' → gv h' (ad 23) 14 = 0 → gv h' (ad 23) 20 = wh → Q (.inl (some (.inl (ii (kd - 10))))) h') (qY : ∀ H' m' o' w' L', txAll t (clf (gv h (ad 26))) (gv h (ad 30)) (gv h (ad 31)) n = .inr (H', m', o', w', L') → vk m' o' w' H' L' → ∀ h', fr ad pN fQx false h h' → gv h' (ad 23) 14 = 0 → rN ad h' m' o' w' H' L' → gv h' (ad 23) 20 = -1 → tr_G E 151 Q 183 [some (.inr (.inr (ad 23))), none, some (.inl (ii 0))] [] h' 0 0) : tr_G E 151 Q 27 [some (.inr (.inr (ad 23))), some (.inl (ii n)), some (.inl (ii n))] [] h 0 0 := by
  refine T_X8_text_27 ok ?_
  have f5 : fr ad pN fQx false h (hsI (hsI (hsI (hsI (hsI h (ad 23) 14 (ii 0)) (ad 23) 15 (ii n)) (ad 23) 16 (ii 0)) (ad 23) 18 (ii 0)) (ad 23) 22 (ii 0)) := fr_sF (fr_sF (fr_sF (fr_sF (fr_sFs rfl) rfl) rfl) rfl) rfl
  have f50 : fr ad p00 fQx false h (hsI (hsI (hsI (hsI (hsI h (ad 23) 14 (ii 0)) (ad 23) 15 (ii n)) (ad 23) 16 (ii 0)) (ad 23) 18 (ii 0)) (ad 23) 22 (ii 0)) := fr_sF (fr_sF (fr_sF (fr_sF (fr_sFs rfl) rfl) rfl) rfl) rfl
  have g5 : gv (hsI (hsI (hsI (hsI (hsI h (ad 23) 14 (ii 0)) (ad 23) 15 (ii n)) (ad 23) 16 (ii 0)) (ad 23) 18 (ii 0)) (ad 23) 22 (ii 0)) (ad 23) = ud (ud (ud (ud (ud (gv h (ad 23)) 14 0) 15 n) 16 0) 18 0) 22 0 := by
    rw [gv_sIi (by omega) (by omega), gv_sIi (by omega) (by omega), gv_sIi (by omega) (by omega), gv_sIi (by omega) (by omega), gv_sIi (by omega) (by omega)]; rfl
  simp (disch := first | omega | decide | assumption | exact st_ne s0 (by decide) (by decide) (by decide) | exact dyn_ne (by assumption) (by decide) | fail) only [Int.reduceAdd, Int.reduceSub, Int.reduceNeg, ii_add, ii_sub, ii_mul, ii_lt, ii_le, ii_eq, ixn_ii, ixo_ii, rem_ii, nb_1, nb_0, nb_bb, bb_0, hI_gv, Int.toNat_of_nonneg, Int.cast_ofNat_Int, ht_sI, ht_sJ, ht_sR, hn_sI, hn_sJ, hn_sR, hR_sI, hR_sJ, kI_v, kV_v, kJ_v, true_and, and_true, forall_eq, tg, ln, rf, ne_eq, not_false_eq_true, forall_const, not_true_eq_false, false_implies, Int.reduceEq, Int.reduceLT, Int.reduceLE, implies_true, and_self, reduceCtorEq, false_and, W_X8_text_27, st_t s0, st_n s0, st_r s0]
  refine ⟨fun g => absurd g (by omega), fun _ => ?_⟩
  have s5 := st_fr s0 f5
  generalize hsI (hsI (hsI (hsI (hsI h (ad 23) 14 (ii 0)) (ad 23) 15 (ii n)) (ad 23) 16 (ii 0)) (ad 23) 18 (ii 0)) (ad 23) 22 (ii 0) = h5 at *
  refine c_clears ok (st_t s5 (by decide)) (st_n s5 (by decide)) (fun h6 w6 e6 => ?_)
  intro t8 b8
  have v6 : fr ad pN fQx false h5 h6 := wr_fr w6 rfl
  have f6 := fr_tr f5 v6
  have s6 := st_fr s5 v6
  have g6 : gv h6 (ad 23) = ud (ud (ud (ud (ud (gv h (ad 23)) 14 0) 15 n) 16 0) 18 0) 22 0 := ((w6 (ad 23)).2.2.2.2 (st_ne s0 (by decide) (by decide) (by decide))).trans g5
  have r6 : rS ad h6 t n 0 := ⟨⟨s6, (fr_gv s0 f6 (by decide) (by decide) rfl pN_lt).trans e33, by rw [g6, ud_ne (by decide), ud_ne (by decide), ud_ne (by decide), ud_eq], by rw [g6, ud_ne (by decide), ud_ne (by decide), ud_eq], by decide, n0, n0, n1⟩, by rw [g6, ud_ne (by decide), ud_eq]⟩
  have z14 : gv h6 (ad 23) 14 = 0 := by rw [g6, ud_ne (by decide), ud_ne (by decide), ud_ne (by decide), ud_ne (by decide), ud_eq]
  have q14 : ∀ h', fr ad pN fNx false h6 h' → gv h' (ad 23) 14 = 0 := fun h' f' => (fr_gf s6 f' rfl pN_lt rfl).trans z14
  have br := bl_rg r6.1
  refine ⟨st_t s6 (by decide), c_pass ok r6 b8 (by decide) (by decide) (by decide) (fun g h7 f7 r7 e17 => ?_) (fun g h7 f7 r7 => ?_)⟩
  · show (ii 1 = ii 0 → _) ∧ (¬ ii 1 = ii 0 → _)
    refine ⟨fun e => absurd e (by decide), fun _ => ⟨st_t r7.1.1 (by decide), ?_⟩⟩
    change rS ad h7 t n (bl t n 0 + 4) at r7
    have vr := nV_rg (t := t) (n := n) (p := bl t n 0 + 4)
    refine c_num ok r7 (by omega) (by omega) (by omega) (by omega) (fun c1 h8 f8 r8 g8 => ?_) (fun c1 h8 f8 r8 => ?_)
    · have s8 := r8.1.1
      refine ⟨st_t s8 (by decide), st_t s8 (by decide), ?_⟩
      have f9 : fr ad pN fNx false h8 (hsI h8 (ad 23) 21 (ii (nV t n (bl t n 0 + 4)))) := fr_sFs rfl
      have g9 : gv (hsI h8 (ad 23) 21 (ii (nV t n (bl t n 0 + 4)))) (ad 23) = ud (gv h8 (ad 23)) 21 (nV t n (bl t n 0 + 4)) := gv_sIi (by omega) (by omega)
      have r9 := rS_N r8 f9 (by rw [g9, ud_ne (by decide)]) (by rw [g9, ud_ne (by decide)])
      have f69 : fr ad pN fNx false h6 (hsI h8 (ad 23) 21 (ii (nV t n (bl t n 0 + 4)))) := fr_tr (fNm (fr_tr f7 f8)) f9
      have hv := (nK_0.1 c1).2
      refine c_ends ok r9 (fun g2 h10 f10 r10 => ?_) (fun g2 h10 f10 y10 => ?_)
      · have eA : txAll t (clf (gv h (ad 26))) (gv h (ad 30)) (gv h (ad 31)) n = txW (nV t n (bl t n 0 + 4)) (txL t n (nV t n (bl t n 0 + 4)) (n.toNat + 1) (bl t n (nE t n (bl t n 0 + 4)) + 1) (clf (gv h (ad 26))) (gv h (ad 30)) (gv h (ad 31)) 0) := by
          unfold txAll
          rw [if_pos g, if_neg (fun e => e c1), if_pos g2]
        have f60 := fr_tr f69 (fNm f10)
        have i8 : gv h8 (ad 26) = gv h6 (ad 26) := fr_gv s6 (fr_tr f7 f8) (by decide) (by decide) rfl p00_lt
        have i80 : gv h8 (ad 30) = gv h6 (ad 30) := fr_gv s6 (fr_tr f7 f8) (by decide) (by decide) rfl p00_lt
        have i81 : gv h8 (ad 31) = gv h6 (ad 31) := fr_gv s6 (fr_tr f7 f8) (by decide) (by decide) rfl p00_lt
        have i82 : gv h8 (ad 23) 22 = gv h6 (ad 23) 22 := fr_gf s6 (fr_tr f7 f8) rfl p00_lt rfl
        have c26 : gv h5 (ad 26) = gv h (ad 26) := fr_gv s0 f50 (by decide) (by decide) rfl p00_lt
        have c30 : gv h6 (ad 30) = gv h (ad 30) := ((w6 (ad 30)).2.2.2.2 (st_ne s0 (by decide) (by decide) (by decide))).trans (fr_gv s0 f50 (by decide) (by decide) rfl p00_lt)
        have c31 : gv h6 (ad 31) = gv h (ad 31) := ((w6 (ad 31)).2.2.2.2 (st_ne s0 (by decide) (by decide) (by decide))).trans (fr_gv s0 f50 (by decide) (by decide) rfl p00_lt)
        have n9 : rN ad (hsI h8 (ad 23) 21 (ii (nV t n (bl t n 0 + 4)))) (clf (gv h (ad 26))) (gv h (ad 30)) (gv h (ad 31)) (nV t n (bl t n 0 + 4)) 0 := ⟨by rw [gv_sIn (st_ne s8 (by decide) (by decide) (by decide)), i8, e6, c26], by rw [gv_sIn (st_ne s8 (by decide) (by decide) (by decide)), i80, c30], by rw [gv_sIn (st_ne s8 (by decide) (by decide) (by decide)), i81, c31], by rw [g9, ud_eq], by rw [g9, ud_ne (by decide), i82, g6, ud_eq]⟩
        have n10 := rN_fr r9.1.1 f10 n9
        have b1 := bl_ge (t := t) (n := n) (p := nE t n (bl t n 0 + 4))
        have b2 := nE_ge (t := t) (n := n) (p := bl t n 0 + 4)
        refine c_text_115 ok (n.toNat + 1) h10 _ _ _ _ _ (by omega) r10 n10 (vk_clf _ hv.1 hv.2) (fun kd wh e3 h11 f11 g11 => ?_) (fun p' m' o' w' L' e3 v3 h11 f11 n11 g11 => ?_)
        · have f61 := fr_tr f60 f11
          exact qX kd wh (by rw [eA, e3]; rfl) h11 (fr_tr f6 (fQm f61)) (q14 _ f61) g11
        · have f61 := fr_tr f60 f11
          exact qY _ m' o' w' L' (by rw [eA, e3]; rfl) v3 h11 (fr_tr f6 (fQm f61)) (q14 _ f61) n11 g11
      · have eA : txAll t (clf (gv h (ad 26))) (gv h (ad 30)) (gv h (ad 31)) n = .inl (1, bl t n (nE t n (bl t n 0 + 4))) := by
          unfold txAll
          rw [if_pos g, if_neg (fun e => e c1), if_neg g2]
        exact c_115X ok y10 (fun h11 f11 g11 => qX _ _ eA h11 (fr_tr f6 (fQm (fr_tr f69 (fr_tr (fNm f10) f11)))) (q14 _ (fr_tr f69 (fr_tr (fNm f10) f11))) g11)
    · have eA : txAll t (clf (gv h (ad 26))) (gv h (ad 30)) (gv h (ad 31)) n = .inl (nK t n (bl t n 0 + 4) 2 10, bl t n (bl t n 0 + 4)) := by
        unfold txAll
        rw [if_pos g, if_pos c1]
      obtain ⟨p8, rb8⟩ := r8.1
      refine ⟨st_t rb8.1 (by decide), st_t rb8.1 (by decide), c_endsX ok (rX21 r8) (fun h10 f10 y10 => ?_)⟩
      have f69 : fr ad pN fNx false h6 (hsI h8 (ad 23) 21 (ii 0)) := fr_tr (fNm (fr_tr f7 f8)) (fr_sFs rfl)
      exact c_115X ok y10 (fun h11 f11 g11 => qX _ _ eA h11 (fr_tr f6 (fQm (fr_tr f69 (fr_tr (fNm f10) f11)))) (q14 _ (fr_tr f69 (fr_tr (fNm f10) f11))) g11)
  · have eA : txAll t (clf (gv h (ad 26))) (gv h (ad 30)) (gv h (ad 31)) n = .inl (1, bl t n 0) := by
      unfold txAll
      rw [if_neg g]
    show (ii 0 = ii 0 → _) ∧ (¬ ii 0 = ii 0 → _)
    refine ⟨fun _ => ?_, fun e => absurd rfl e⟩
    have s7 := r7.1.1
    have e16 : gv h7 (ad 23) 16 = bl t n 0 := r7.1.2.2.2.1
    simp (disch := first | omega | decide | assumption | exact st_ne s0 (by decide) (by decide) (by decide) | exact dyn_ne (by assumption) (by decide) | fail) only [Int.reduceAdd, Int.reduceSub, Int.reduceNeg, ii_add, ii_sub, ii_mul, ii_lt, ii_le, ii_eq, ixn_ii, ixo_ii, rem_ii, nb_1, nb_0, nb_bb, bb_0, hI_gv, Int.toNat_of_nonneg, Int.cast_ofNat_Int, ht_sI, ht_sJ, ht_sR, hn_sI, hn_sJ, hn_sR, hR_sI, hR_sJ, kI_v, kV_v, kJ_v, true_and, and_true, forall_eq, tg, ln, rf, ne_eq, not_false_eq_true, forall_const, not_true_eq_false, false_implies, st_t s7, e16]
    refine c_wr4 ok r7 (by omega) (by omega) (by omega) (by omega) (fun h8 f8 r8 => ?_)
    obtain ⟨p8, rb8⟩ := r8.1
    refine ⟨st_t rb8.1 (by decide), c_numberX ok r8 (fun h9 f9 r9 => ?_)⟩
    obtain ⟨p9, rb9⟩ := r9.1
    refine ⟨st_t rb9.1 (by decide), st_t rb9.1 (by decide), c_endsX ok (rX21 r9) (fun h10 f10 y10 => ?_)⟩
    have f69 : fr ad pN fNx false h6 (hsI h9 (ad 23) 21 (ii 0)) := fr_tr (fNm (fr_tr f7 (fr_tr f8 f9))) (fr_sFs rfl)
    exact c_115X ok y10 (fun h11 f11 g11 => qX _ _ eA h11 (fr_tr f6 (fQm (fr_tr f69 (fr_tr (fNm f10) f11)))) (q14 _ (fr_tr f69 (fr_tr (fNm f10) f11))) g11)
end TXC
