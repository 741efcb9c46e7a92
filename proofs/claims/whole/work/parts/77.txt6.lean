/-! TEXT: one line; the reference -/
def wdB (t : Int → Int) (n s : Int) (x : List Nat) : Bool := decide ((∀ i : Nat, i < x.length → s + i < n ∧ t (s + i) = ((x.getD i 0 : Nat) : Int)) ∧ ¬ (s + (x.length : Int) < n ∧ cL t (s + (x.length : Int)) = true))
theorem wdB_m {t : Int → Int} {n s : Int} {x : List Nat} : wdB t n s x = true ↔ wdm t n s x := by unfold wdB wdm; exact decide_eq_true_iff
def lnSet (t m one two : Int → Int) (n p L lo hi i : Int) : LR := if nK t n p lo hi ≠ 0 then .inl (nK t n p lo hi, bl t n p) else .inr (nE t n p, ud m i (nV t n p), one, two, L)
def lnOne (t m one two : Int → Int) (n s H L : Int) : LR := if wdB t n s (tr_txt 1) = true then lnLink t m one two n s (s + 4) H L else if wdB t n s (tr_txt 2) = true then lnCut t m one two n (s + 3) H L else if wdB t n s (tr_txt 3) = true then lnRoute t m one two n (s + 5) H L else if wdB t n s (tr_txt 4) = true then lnBase t m one two n (s + 4) L else if wdB t n s (tr_txt 5) = true then lnSet t m one two n (s + 3) L 0 (m 2 - 1) 4 else if wdB t n s (tr_txt 6) = true then lnSet t m one two n (s + 4) L 1 31 1 else if wdB t n s (tr_txt 7) = true then lnSet t m one two n (s + 6) L 2 64 5 else .inl (1, s)
def lnE (t : Int → Int) (n : Int) (r : LR) : LR := match r with
  | .inl x => .inl x
  | .inr (p, m, o, w, L) => if bl t n p < n ∧ t (bl t n p) = 59 then .inr (bl t n p + 1, m, o, w, L) else .inl (1, bl t n p)
section TX6
variable {E : tr_Env} {ad : Nat → Nat} {h h0 h1 : tr_H} {Q : tr_Q} {t m one two : Int → Int} {n s p H L a b k z : Int} {R : LR} {w : Nat} {x : List Nat}
theorem c_pass (ok : tr_ok E) (r : rS ad h t n p) (b : tr_tx h w x) (x1 : 1 ≤ x.length) (xl : ∀ i, i < x.length → 97 ≤ x.getD i 0 ∧ x.getD i 0 ≤ 122) (x6 : x.length ≤ 6) (q : wdB t n (bl t n p) x = true → ∀ h', fr ad p00 fR false h h' → rS ad h' t n (bl t n p + x.length) → gv h' (ad 23) 17 = bl t n p → Q (.inl (some (.inl (ii 1)))) h') (rr : ¬ wdB t n (bl t n p) x = true → ∀ h', fr ad p00 fR false h h' → rS ad h' t n (bl t n p) → Q (.inl (some (.inl (ii 0)))) h') : tr_C E 141 [.inr (.inr (ad 23)), .inr (.inr w)] h Q := by
  have br := bl_rg r.1
  refine c_passes ok r.1 b xl x6 (fun g h' f' e' => q (wdB_m.2 g) h' f' ⟨rB_fr r.1 f' (by rw [e', ud_eq]) (by omega) ?_, ?_⟩ ?_) (fun g h' f' e' => rr (fun e => g (wdB_m.1 e)) h' f' ⟨rB_fr r.1 f' (by rw [e', ud_eq]) br.1 br.2, ?_⟩)
  · have := (g.1 (x.length - 1) (by omega)).1
    omega
  · rw [e', ud_ne (by decide), ud_ne (by decide)]; exact r.2
  · rw [e', ud_ne (by decide), ud_eq]
  · rw [e', ud_ne (by decide)]; exact r.2
theorem fnX (ok : tr_ok E) (f : fr ad pN fNx false h h1) (qX : ∀ k w, lnE t n R = .inl (k, w) → ∀ h', fr ad pN fNx false h h' → rY ad h' k w → Q (.inl none) h') {k w : Int} (e : R = .inl (k, w)) (r : rX ad h1 t n k w) : ht h1 (ad 23) = 9 ∧ tr_C E 143 [.inr (.inr (ad 23))] h1 (kV (fun h' => Q (.inl none) h') (fun E h' => Q (.inr E) h')) := by
  obtain ⟨p, rb⟩ := r.1
  refine ⟨st_t rb.1 (by decide), c_endsX ok r (fun h2 f2 y => ?_)⟩
  exact qX k w (by rw [e]; rfl) h2 (fr_tr f (fNm f2)) y
theorem fnY (ok : tr_ok E) (f : fr ad pN fNx false h h1) (qX : ∀ k w, lnE t n R = .inl (k, w) → ∀ h', fr ad pN fNx false h h' → rY ad h' k w → Q (.inl none) h') (qY : ∀ p' m' o' w' L', lnE t n R = .inr (p', m', o', w', L') → ∀ h', fr ad pN fNx false h h' → rS ad h' t n p' → rN ad h' m' o' w' H L' → Q (.inl none) h') {p' L' : Int} {m' o' w' : Int → Int} (e : R = .inr (p', m', o', w', L')) (r : rS ad h1 t n p') (rn : rN ad h1 m' o' w' H L') : ht h1 (ad 23) = 9 ∧ tr_C E 143 [.inr (.inr (ad 23))] h1 (kV (fun h' => Q (.inl none) h') (fun E h' => Q (.inr E) h')) := by
  refine ⟨st_t r.1.1 (by decide), c_ends ok r (fun g h2 f2 y => ?_) (fun g h2 f2 y => ?_)⟩
  · exact qY _ _ _ _ _ (by rw [e]; exact if_pos g) h2 (fr_tr f (fNm f2)) y (rN_fr r.1.1 f2 rn)
  · exact qX _ _ (by rw [e]; exact if_neg g) h2 (fr_tr f (fNm f2)) y
theorem c_set1 (ok : tr_ok E) (r : rS ad h t n p) (rn : rN ad h m one two H L) {lo hi : Int} (i : Nat) (i1 : i < 867) (l0 : 0 ≤ lo) (l1 : lo ≤ 5000) (h0' : -5 ≤ hi) (h1' : hi ≤ 5000) (q : ∀ v h', fr ad pN fNx false h (hsI h' (ad 26) i v) → ((∃ k w, lnSet t m one two n p L lo hi i = .inl (k, w) ∧ rX ad (hsI h' (ad 26) i v) t n k w) ∨ (∃ p' m' o' w' L', lnSet t m one two n p L lo hi i = .inr (p', m', o', w', L') ∧ rS ad (hsI h' (ad 26) i v) t n p' ∧ rN ad (hsI h' (ad 26) i v) m' o' w' H L')) → ht h' (ad 26) = 11 ∧ hn h' (ad 26) = 867 → Q (.inl (some (.inl v))) h') : tr_C E 142 [.inr (.inr (ad 23)), .inl (ii lo), .inl (ii hi)] h Q := by
  have s0 := r.1.1
  have vr := nV_rg (t := t) (n := n) (p := p)
  refine c_num ok r (by omega) (by omega) (by omega) (by omega) (fun c1 h1 f1 r1 g1 => ?_) (fun c1 h1 f1 r1 => ?_)
  · have t1 := r1.1.1
    have f2 : fr ad pN fNx false h1 (hsI h1 (ad 26) i (ii (nV t n p))) := fr_sIs rfl
    have y1 : gv (hsI h1 (ad 26) i (ii (nV t n p))) (ad 23) = gv h1 (ad 23) := gv_sIn (st_ne t1 (by decide) (by decide) (by decide))
    obtain ⟨j1, j2, j3, j4, j5⟩ := rN_fr s0 f1 rn
    refine q _ h1 (fr_tr (fNm f1) f2) (Or.inr ⟨_, _, _, _, _, if_neg (fun e => e c1), rS_N r1 f2 (by rw [y1]) (by rw [y1]), ⟨?_, ?_, ?_, ?_, ?_⟩⟩) ⟨st_t t1 (by decide), st_n t1 (by decide)⟩
    · rw [gv_sIi (by omega) (by omega), j1]
    · rw [gv_sIn (st_ne t1 (by decide) (by decide) (by decide))]; exact j2
    · rw [gv_sIn (st_ne t1 (by decide) (by decide) (by decide))]; exact j3
    · rw [y1]; exact j4
    · rw [y1]; exact j5
  · obtain ⟨p1, rb1⟩ := r1.1
    have t1 := rb1.1
    have f2 : fr ad pN fNx false h1 (hsI h1 (ad 26) i (ii 0)) := fr_sIs rfl
    exact q _ h1 (fr_tr (fNm f1) f2) (Or.inl ⟨_, _, if_pos c1, rX_N r1 f2 (gv_sIn (st_ne t1 (by decide) (by decide) (by decide)))⟩) ⟨st_t t1 (by decide), st_n t1 (by decide)⟩
end TX6
