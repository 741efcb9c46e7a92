/-! ROWS OF THE HEAP -/
theorem tr_cl9 {P : Nat → vw_C → Prop} (h0 : P 0 (RX0, TX0, 6)) (h1 : P 1 (RX1, TX1, 16)) (h2 : P 2 (RX2, TX2, 7)) (h3 : P 3 (RX3, TX3, 10)) (h4 : P 4 (RX4, TX4, 10)) (h5 : P 5 (RX5, TX5, 4)) (h6 : P 6 (RX6, TX6, 3)) (h7 : P 7 (RX7, TX7, 10)) (h8 : P 8 (RX8, TX8, 37)) {c : Nat} {q : vw_C} (hq : vwCl[c]? = some q) : P c q := by
  match c, hq with
  | 0, hq => cases hq; exact h0
  | 1, hq => cases hq; exact h1
  | 2, hq => cases hq; exact h2
  | 3, hq => cases hq; exact h3
  | 4, hq => cases hq; exact h4
  | 5, hq => cases hq; exact h5
  | 6, hq => cases hq; exact h6
  | 7, hq => cases hq; exact h7
  | 8, hq => cases hq; exact h8
  | c + 9, hq => simp [vwCl] at hq
theorem tr_ty_ok {c : Nat} {q : vw_C} (hq : vwCl[c]? = some q) : ∀ k, k < q.2.2 → parseFieldDescriptor (q.2.1 k).2.2.1 = some (tr_ty c k) := tr_cl9 (P := fun c q => ∀ k, k < q.2.2 → parseFieldDescriptor (q.2.1 k).2.2.1 = some (tr_ty c k)) tyX0_ok tyX1_ok tyX2_ok tyX3_ok tyX4_ok tyX5_ok tyX6_ok tyX7_ok tyX8_ok hq
theorem tr_nm_ok {c : Nat} {q : vw_C} (hq : vwCl[c]? = some q) : ∀ a, a < q.2.2 → ∀ b, b < q.2.2 → a ≠ b → (q.2.1 a).2.1 ≠ (q.2.1 b).2.1 := tr_cl9 (P := fun c q => ∀ a, a < q.2.2 → ∀ b, b < q.2.2 → a ≠ b → (q.2.1 a).2.1 ≠ (q.2.1 b).2.1) nmX0 nmX1 nmX2 nmX3 nmX4 nmX5 nmX6 nmX7 nmX8 hq
def tr_lays : List Cond := vwCl.flatMap (fun q => u_ws q.1 q.2.1 q.2.2)
set_option maxRecDepth 100000 in
theorem tr_lays_in : ∀ w ∈ tr_lays, w ∈ tr_LW := tr_inLW _ [(1, 185), (1, 187), (1, 189), (1, 191), (1, 193), (1, 195), (1, 139), (1, 141), (1, 143), (1, 145), (1, 147), (1, 149), (1, 151), (1, 153), (1, 155), (1, 157), (1, 159), (1, 161), (1, 163), (1, 165), (1, 167), (1, 169), (1, 68), (1, 70), (1, 72), (1, 74), (1, 76), (1, 78), (1, 80), (3, 205), (3, 207), (3, 209), (3, 211), (3, 213), (3, 215), (3, 217), (3, 219), (3, 221), (3, 223), (2, 220), (2, 222), (2, 224), (2, 226), (2, 228), (2, 230), (2, 232), (2, 234), (2, 236), (2, 238), (1, 209), (1, 211), (1, 213), (1, 215), (1, 103), (1, 105), (1, 107), (1, 228), (1, 230), (1, 232), (1, 234), (1, 236), (1, 238), (2, 0), (2, 2), (2, 4), (2, 6), (5, 137), (5, 139), (5, 141), (5, 143), (5, 145), (5, 147), (5, 149), (5, 151), (5, 153), (5, 155), (5, 157), (5, 159), (5, 161), (5, 163), (5, 165), (5, 167), (5, 169), (5, 171), (5, 173), (5, 175), (5, 177), (5, 179), (5, 181), (5, 183), (5, 185), (5, 187), (5, 189), (5, 191), (5, 193), (5, 195), (5, 197), (5, 199), (5, 201), (5, 203), (5, 205), (5, 207), (5, 209)] (by decide +kernel) (by decide +kernel)
theorem tr_cls_in {c : Nat} {q : vw_C} (hq : vwCl[c]? = some q) : ∀ w ∈ u_ws q.1 q.2.1 q.2.2, w ∈ tr_LW := fun w hw => tr_lays_in w (List.mem_flatMap.mpr ⟨q, List.mem_of_getElem? hq, hw⟩)
theorem tr_inst_in : ∀ w ∈ vwCl.map (fun q => Cond.instantiable q.1 q.2.2), w ∈ tr_LW := tr_inLW _ [(1, 174), (1, 112), (1, 34), (3, 171), (2, 200), (1, 199), (1, 32), (1, 24), (5, 92)] (by decide +kernel) (by decide +kernel)
theorem tr_ini_in : ∀ w ∈ vwCl.map (fun q => Cond.initialized q.1), w ∈ tr_LW := tr_inLW _ [(1, 6), (1, 5), (1, 3), (1, 21), (1, 13), (1, 7), (1, 2), (1, 1), (1, 8)] (by decide +kernel) (by decide +kernel)
def tr_kd (ty : FieldType) : Nat := match ty with
  | .long => 1
  | .object _ => 2
  | .array _ => 2
  | _ => 0
def tr_fval (c : Nat) (h : tr_H) (r b : Nat) : tr_V := match c with
  | 0 => .inl (hI h r b)
  | 1 => .inr (.inl (hJ h r b))
  | _ => .inr (.inr (hR h r b))
theorem tr_fv_kd (ty : FieldType) (h : tr_H) (r b : Nat) : tr_fv ty (hI h r b) (hJ h r b) (hR h r b) = tr_cv (tr_fval (tr_kd ty) h r b) := by cases ty <;> rfl
/-- plain kinds of fields: int, long, references -/
def tr_pl (ty : FieldType) : Bool := match ty with
  | .int => true
  | .long => true
  | .object _ => true
  | .array _ => true
  | _ => false
def tr_fok (q : Nat × Nat × Nat × Nat × Nat) : Bool := match vwCl[q.2.2.1 - 1]? with
  | some r => Nat.ble 1 q.2.2.1 && (Nat.blt q.2.2.2.1 r.2.2 && (decide ((r.2.1 q.2.2.2.1).1 = r.1) && (Nat.beq q.2.2.2.2 (tr_kd (tr_ty (q.2.2.1 - 1) q.2.2.2.1)) && tr_pl (tr_ty (q.2.2.1 - 1) q.2.2.2.1))))
  | none => false
theorem tr_ft_all : tr_ft.all tr_fok = true := by decide +kernel
theorem tr_ft_spec {o idx a b c : Nat} (hf : (o, idx, a, b, c) ∈ tr_ft) : ∃ (ci : Nat) (q : vw_C), a = ci + 1 ∧ vwCl[ci]? = some q ∧ b < q.2.2 ∧ (q.2.1 b).1 = q.1 ∧ c = tr_kd (tr_ty ci b) ∧ tr_pl (tr_ty ci b) = true ∧ Cond.fieldLink (tr_R o) idx q.1 (q.2.1 b).2.1 (q.2.1 b).2.2.1 ∈ tr_LW := by
  have h1 := List.all_eq_true.mp tr_ft_all _ hf
  have h2 : tr_fw (o, idx, a, b, c) ∈ tr_LW := tr_fw_in _ (List.mem_map.mpr ⟨_, hf, rfl⟩)
  unfold tr_fok at h1
  unfold tr_fw at h2
  dsimp only at h1 h2
  cases hq : vwCl[a - 1]? with
  | none => rw [hq] at h1; cases h1
  | some q =>
    rw [hq] at h1 h2
    simp only [Bool.and_eq_true, decide_eq_true_eq, Nat.ble_eq, Nat.blt_eq, Nat.beq_eq] at h1
    obtain ⟨g1, g2, g3, g4, g5⟩ := h1
    exact ⟨a - 1, q, by omega, hq, g2, g3, g4, g5, h2⟩
theorem tr_ii_cast {n : Nat} : ii (n : Nat) = Int32.ofNat n := tr_iiN n
theorem tr_cell.kept {E : tr_Env} {h h' : tr_H} {H H' : Heap} {r : Nat} (q : tr_cell E h H r) (h1 : ht h' (r + 1) = ht h (r + 1)) (h2 : hn h' (r + 1) = hn h (r + 1)) (h3 : hI h' (r + 1) = hI h (r + 1)) (h4 : hJ h' (r + 1) = hJ h (r + 1)) (h5 : hR h' (r + 1) = hR h (r + 1)) (hH : H'[r]? = H[r]?) (hz : H.size ≤ H'.size) : tr_cell E h' H' r := by
  obtain ⟨a1, a2, a3, a4, a5⟩ := q
  unfold tr_cell
  rw [h1, h2, h3, h4, h5]
  exact ⟨fun g => Nat.lt_of_lt_of_le (a1 g) hz, fun c q g1 g2 => ⟨(a2 c q g1 g2).1, (a2 c q g1 g2).2.kept hH⟩, fun k g1 g2 => ⟨(a3 k g1 g2).1, by rw [hH]; exact (a3 k g1 g2).2⟩, a4, a5⟩
/-- h' is h but for the ints, longs, references of one cell -/
def tr_ag (h h' : tr_H) (r : Nat) : Prop := ht h' = ht h ∧ hn h' = hn h ∧ ∀ x, x ≠ r → hI h' x = hI h x ∧ hJ h' x = hJ h x ∧ hR h' x = hR h x
theorem up2_ne {α : Type} {f : Nat → Nat → α} {a k x : Nat} {v : α} (h : x ≠ a) : up2 f a k v x = f x := by funext j; simp [up2, h]
theorem up2_eq {α : Type} {f : Nat → Nat → α} {a k j : Nat} {v : α} : up2 f a k v a j = if j = k then v else f a j := by simp [up2]
theorem up1_ne {α : Type} {f : Nat → α} {a x : Nat} {v : α} (h : x ≠ a) : up1 f a v x = f x := by simp [up1, h]
theorem up1_eq {α : Type} {f : Nat → α} {a : Nat} {v : α} : up1 f a v a = v := by simp [up1]
theorem tr_ag_I {h : tr_H} {r k : Nat} {v : Int32} : tr_ag h (hsI h r k v) r := ⟨rfl, rfl, fun x hx => ⟨up2_ne hx, rfl, rfl⟩⟩
theorem tr_ag_J {h : tr_H} {r k : Nat} {v : Int64} : tr_ag h (hsJ h r k v) r := ⟨rfl, rfl, fun x hx => ⟨rfl, up2_ne hx, rfl⟩⟩
theorem tr_ag_R {h : tr_H} {r k : Nat} {v : Nat} : tr_ag h (hsR h r k v) r := ⟨rfl, rfl, fun x hx => ⟨rfl, rfl, up2_ne hx⟩⟩
theorem tr_tx.kept {h h' : tr_H} {r : Nat} {cs : List Nat} (q : tr_tx h r cs) (h1 : ht h' r = ht h r) (h2 : hn h' r = hn h r) (h3 : hI h' r = hI h r) : tr_tx h' r cs := by
  unfold tr_tx at q ⊢
  rw [h1, h2, h3]
  exact q
theorem tr_Rep.upd {E : tr_Env} {h h' : tr_H} {H H' : Heap} {r : Nat} (q : tr_Rep E h H) (hns : ht h (r + 1) ≠ 18) (ha : tr_ag h h' (r + 1)) (hlo : elo E ≤ r) (hz : H'.size = H.size) (ho : ∀ x, x ≠ r → H'[x]? = H[x]?) (hc : tr_cell E h' H' r) : tr_Rep E h' H' := by
  obtain ⟨a1, ⟨a2, a3⟩, a4, a5⟩ := q
  obtain ⟨b1, b2, b3⟩ := ha
  refine ⟨by rw [b1]; exact a1, ⟨by rw [hz]; exact a2, fun x hx => by rw [ho x (by omega)]; exact a3 x hx⟩, fun x => ?_, fun j hj => ?_⟩
  · by_cases hx : x = r
    · subst hx
      exact hc
    · obtain ⟨c1, c2, c3⟩ := b3 (x + 1) (by omega)
      exact (a4 x).kept (by rw [b1]) (by rw [b2]) c1 c2 c3 (ho x hx) (by omega)
  · have hne : eT E j ≠ r + 1 := fun g => hns (by rw [← g]; exact (a5 j hj).1)
    exact (a5 j hj).kept (by rw [b1]) (by rw [b2]) (b3 _ hne).1
theorem tr_S.put {E : tr_Env} {s : State} {H H' : Heap} {locs : List Loc} {r j : Nat} (h : va_S (eO E) s.heap H locs) (hz : H'.size = H.size) (ho : ∀ x, x ≠ r → H'[x]? = H[x]?) (hlo : elo E ≤ r) : va_S (eO E) s.heap H' (locs ++ [⟨r, j⟩]) := h.put hz ho hlo
section TRH
variable {E : tr_Env} {M : tr_MI} {R : Room} {lc lz : Nat} {Z : List Frame → Array Value → State → State → Prop} {pc : Nat} {lv : tr_L} {st : List tr_V} {h : tr_H} {rc rs : Nat}
theorem tr_Cx.K {E : tr_Env} {M : tr_MI} {p : Program} {s : State} {m : MethodId} {args : Array Value} {meth : Method} {c : Code} (ok : tr_ok E) (Cx : tr_Cx E M p s m args meth c) : va_K (eD E) vwCl (tr_tys E) s := va_K.moved Cx.2.2.2.2.2.1.alike ok.2.1
theorem tr_o_of {h : tr_H} {r t : Nat} (h0 : ht h 0 = 0) (hr : ht h r = t + 1) : ∃ a, r = a + 1 := by
  cases r with
  | zero => rw [h0] at hr; cases hr
  | succ a => exact ⟨a, rfl⟩
theorem tr_r_getf (ok : tr_ok E) {idx a b c r : Nat} (hd : decode (mB M) pc = .ok (.getfield idx, 3)) (hf : (mO M, idx, a, b, c) ∈ tr_ft) (hO : tr_R (mO M) = (mY M).cls) (htg : ht h r = a) (k : tr_W E M R lc lz Z (pc + 3) lv (tr_fval c h r b :: st) h rc rs) : tr_W E M R lc lz Z pc lv (.inr (.inr r) :: st) h rc rs := by
  intro p e s m args below meth cd H locs cells slots ls Cx Rp hS hl hc hs
  obtain ⟨ci, q, rfl, hq, hb, hdc, rfl, hpl, hw⟩ := tr_ft_spec hf
  obtain ⟨r, rfl⟩ := tr_o_of Rp.1 htg
  obtain ⟨hlo, hob⟩ := (Rp.2.2.1 r).2.1 ci q htg hq
  rw [hO] at hw
  have hK := Cx.K ok
  obtain ⟨hX, hB, hML, hown, hts, hW, -⟩ := id Cx
  have hP : va_P (eD E) vwCl [(r, .inr (ci, (List.range q.2.2).map (fun k => tr_fv (tr_ty ci k) (hI h (r + 1) k) (hJ h (r + 1) k) (hR h (r + 1) k))))] H := by
    intro k1 q1 hk1
    have hz : k1 < 1 := (List.getElem?_eq_some_iff.mp hk1).1
    rw [show k1 = 0 by omega] at hk1
    cases hk1
    exact ⟨q, hq, hob.to (fun k2 hk2 => by simp [vp_V, hk2])⟩
  refine va_get hX hB hts (tr_cls_in hq) hown hK hP 0 rfl hq b hb (hts _ hw) (by rw [hdc]; exact fun _ g => g) (v := tr_cv (tr_fval (tr_kd (tr_ty ci b)) h (r + 1) b)) ?_ hd (k p e s m args below meth cd H locs cells slots ls Cx Rp hS hl hc hs)
  rw [← tr_fv_kd]
  simp [hb]
/-- a field is put: the heap behind it -/
theorem tr_put0 (ok : tr_ok E) {idx a b c r : Nat} {v : Value} {h' : tr_H} (hd : decode (mB M) pc = .ok (.putfield idx, 3)) (hf : (mO M, idx, a, b, c) ∈ tr_ft) (hO : tr_R (mO M) = (mY M).cls)
    (hfin : ∀ q : vw_C, vwCl[a - 1]? = some q → (q.2.1 b).2.2.2 = true → (mY M).name = "<init>" ∧ q.1 = (mY M).cls) (htg : ht h r = a) (hnr : ∀ ci, a = ci + 1 → narrow (tr_ty ci b) v = v ∧ fits (tr_ty ci b) v = true) (hag : tr_ag h h' r)
    (hval : ∀ ci j, a = ci + 1 → tr_fv (tr_ty ci j) (hI h' r j) (hJ h' r j) (hR h' r j) = if j = b then v else tr_fv (tr_ty ci j) (hI h r j) (hJ h r j) (hR h r j))
    (k : tr_W E M R lc lz Z (pc + 3) lv st h' rc rs) : ∀ (p : Program) (e : Env) (s : State) (m : MethodId) (args : Array Value) (below : List Frame) (meth : Method) (c : Code) (H : Heap) (locs : List Loc) (cells slots : Nat) (ls : Array Slot),
    tr_Cx E M p s m args meth c → tr_Rep E h H → va_S (eO E) s.heap H locs → lv_has ls (mL M) (tr_al lv) → cells + rc ≤ lc → slots + rs ≤ lz →
    W p (eL E) e R s m args below meth c H locs cells slots (Z below args s) (F0 m pc ls (v :: va_rf (tr_o r) :: st.map tr_cv)) := by
  intro p e s m args below meth cd H locs cells slots ls Cx Rp hS hl hc hs
  obtain ⟨ci, q, rfl, hq, hb, hdc, rfl, hpl, hw⟩ := tr_ft_spec hf
  obtain ⟨r, rfl⟩ := tr_o_of Rp.1 htg
  obtain ⟨hlo, hob⟩ := (Rp.2.2.1 r).2.1 ci q htg hq
  rw [hO] at hw
  have hK := Cx.K ok
  obtain ⟨hX, hB, hML, hown, hts, hW, -, -, hname, -⟩ := id Cx
  have hin := tr_cls_in hq
  have hap := va_apart (own := (mY M).cls) hts hin (tr_ty ci) (tr_ty_ok hq) (tr_nm_ok hq) hK hq
  obtain ⟨cell, q1, q2, q3, q4⟩ := hob
  obtain ⟨hSl, hfc, kC, hkC, hkind⟩ := hK.1 ci _ hq
  obtain ⟨cf, kf, fi, f, hi, hsl⟩ := hSl b hb
  have hlay := hts _ (hin _ (u_in_lay hb))
  have hst := (u_facts hfc hkC (u_lays hts hin hb) hi).1
  have hdsc := tr_ty_ok hq b hb
  obtain ⟨hn1, hf1⟩ := hnr ci rfl
  have done : ∀ H' : Heap, H'[r]? = some (cell.setSlot ((eD E).2 ci b) v) → H'.size = H.size → (∀ x, x ≠ r → H'[x]? = H[x]?) → tr_Rep E h' H' := by
    intro H' e1 e2 e3
    have hns : ht h (r + 1) ≠ 18 := by
      have := (List.getElem?_eq_some_iff.mp hq).1
      simp [vwCl] at this
      omega
    refine Rp.upd hns hag hlo e2 e3 ⟨fun _ => ?_, fun c2 r2 g1 g2 => ?_, fun k2 g1 g2 => ?_, fun g => ?_, fun g => ?_⟩
    · rw [e2]; exact (Array.getElem?_eq_some_iff.mp q1).1
    · rw [hag.1, htg] at g1
      have hc2 : c2 = ci := by omega
      subst hc2
      cases hq.symm.trans g2
      exact ⟨hlo, (t_OB.to (V := updV _ b v) ⟨_, e1, q2, q3, t_set q4 hap hb v⟩ (fun j hj => by rw [hval c2 j rfl]; simp [updV]))⟩
    · exfalso
      rw [hag.1, htg] at g2
      have := (List.getElem?_eq_some_iff.mp hq).1
      simp [vwCl] at this
      omega
    · exfalso
      rw [hag.1, htg] at g
      have := (List.getElem?_eq_some_iff.mp hq).1
      simp [vwCl] at this
      omega
    · exfalso
      rw [hag.1, htg] at g
      have := (List.getElem?_eq_some_iff.mp hq).1
      simp [vwCl] at this
      omega
  by_cases hfn : (q.2.1 b).2.2.2 = true
  · obtain ⟨hin2, hcl⟩ := hfin q hq hfn
    unfold u_lay at hlay
    rw [if_pos hfn] at hlay
    have hcf : m.cls = cf := by
      obtain ⟨_, _, c', _, _, _, -, -, hf', -, -, -, hown2, -⟩ := Cond.laysFinal_spec hlay
      have e1 : c' = cf := by have := hi.symm.trans hf'; simp at this; exact this.1.symm
      rw [hdc, hcl] at hown2
      rw [← e1]; exact Option.some.inj (hown.symm.trans hown2)
    have h6 := u_fits hfc hkC hkind (Or.inr hlay) hi hdsc hn1 hf1
    refine W.putFinK hX hB hown (hts _ hw) (by rw [hdc] at hi; exact hi) hst hcf (hname.trans hin2) (by rw [q2]; exact h6) q1 q3 (by rw [hsl]; exact k2_hasslot (q4 b hb)) rfl rfl hd fun H' e1 e2 e3 => ?_
    rw [hsl] at e1 ⊢
    exact k p e s m args below meth cd H' _ cells slots ls Cx (done H' e1 e2 e3) (tr_S.put hS e2 e3 hlo) hl hc hs
  · have hfn' : (q.2.1 b).2.2.2 = false := by simpa using hfn
    unfold u_lay at hlay
    rw [if_neg hfn] at hlay
    have h6 := u_store hfc hkC hkind hlay hi hdsc hn1 hf1
    refine W.putK hX hB (f := f) ⟨hown, hts _ hw, ⟨_, _, _, (by rw [hdc] at hi; exact hi)⟩, hst⟩ (by rw [q2]; exact h6) q1 q3 (by rw [hsl]; exact k2_hasslot (q4 b hb)) rfl rfl hd fun H' e1 e2 e3 => ?_
    rw [hsl] at e1 ⊢
    exact k p e s m args below meth cd H' _ cells slots ls Cx (done H' e1 e2 e3) (tr_S.put hS e2 e3 hlo) hl hc hs
theorem tr_nf_ref (ty : FieldType) (r : Nat) (h : tr_kd ty = 2) : narrow ty (va_rf (tr_o r)) = va_rf (tr_o r) ∧ fits ty (va_rf (tr_o r)) = true := by
  cases r <;> cases ty <;> first | exact ⟨rfl, rfl⟩ | cases h
theorem tr_nf_int (ty : FieldType) (x : Int32) (h : tr_kd ty = 0) (hp : tr_pl ty = true) : narrow ty (.int x) = .int x ∧ fits ty (.int x) = true := by
  cases ty <;> first | exact ⟨rfl, rfl⟩ | exact absurd hp (by decide) | (exact absurd h (by intro q; cases q))
theorem tr_nf_long (ty : FieldType) (x : Int64) (h : tr_kd ty = 1) : narrow ty (.long x) = .long x ∧ fits ty (.long x) = true := by
  cases ty <;> first | exact ⟨rfl, rfl⟩ | cases h
theorem tr_fvI {ty : FieldType} {x x' : Int32} {y : Int64} {r : Nat} (h : tr_kd ty ≠ 0) : tr_fv ty x y r = tr_fv ty x' y r := by cases ty <;> first | rfl | exact absurd rfl h
theorem tr_fvJ {ty : FieldType} {x : Int32} {y y' : Int64} {r : Nat} (h : tr_kd ty ≠ 1) : tr_fv ty x y r = tr_fv ty x y' r := by cases ty <;> first | rfl | exact absurd rfl h
theorem tr_fvR {ty : FieldType} {x : Int32} {y : Int64} {r r' : Nat} (h : tr_kd ty ≠ 2) : tr_fv ty x y r = tr_fv ty x y r' := by cases ty <;> first | rfl | exact absurd rfl h
theorem tr_fv0 {ty : FieldType} {x : Int32} {y : Int64} {r : Nat} (h : tr_kd ty = 0) : tr_fv ty x y r = .int x := by cases ty <;> first | rfl | cases h
theorem tr_fv1 {ty : FieldType} {x : Int32} {y : Int64} {r : Nat} (h : tr_kd ty = 1) : tr_fv ty x y r = .long y := by cases ty <;> first | rfl | cases h
theorem tr_fv2 {ty : FieldType} {x : Int32} {y : Int64} {r : Nat} (h : tr_kd ty = 2) : tr_fv ty x y r = va_rf (tr_o r) := by cases ty <;> first | rfl | cases h
theorem tr_r_putI (ok : tr_ok E) {idx a b r : Nat} {v : Int32} (hd : decode (mB M) pc = .ok (.putfield idx, 3)) (hf : (mO M, idx, a, b, 0) ∈ tr_ft) (hO : tr_R (mO M) = (mY M).cls)
    (hfin : ∀ q : vw_C, vwCl[a - 1]? = some q → (q.2.1 b).2.2.2 = true → (mY M).name = "<init>" ∧ q.1 = (mY M).cls) (htg : ht h r = a) (k : tr_W E M R lc lz Z (pc + 3) lv st (hsI h r b v) rc rs) : tr_W E M R lc lz Z pc lv (.inl v :: .inr (.inr r) :: st) h rc rs := by
  obtain ⟨ci, q, hci, hq, hb, hdc, h0, hpl, hw⟩ := tr_ft_spec hf
  refine tr_put0 ok hd hf hO hfin htg (fun c2 e2 => ?_) tr_ag_I (fun c2 j e2 => ?_) k
  · rw [show c2 = ci by omega]; exact tr_nf_int _ v h0.symm hpl
  · rw [show c2 = ci by omega]
    show tr_fv (tr_ty ci j) (up2 (hI h) r b v r j) _ _ = _
    rw [up2_eq]
    by_cases hj : j = b
    · subst hj; rw [if_pos rfl, if_pos rfl]; exact tr_fv0 h0.symm
    · rw [if_neg hj, if_neg hj]; rfl
theorem tr_r_putJ (ok : tr_ok E) {idx a b r : Nat} {v : Int64} (hd : decode (mB M) pc = .ok (.putfield idx, 3)) (hf : (mO M, idx, a, b, 1) ∈ tr_ft) (hO : tr_R (mO M) = (mY M).cls)
    (hfin : ∀ q : vw_C, vwCl[a - 1]? = some q → (q.2.1 b).2.2.2 = true → (mY M).name = "<init>" ∧ q.1 = (mY M).cls) (htg : ht h r = a) (k : tr_W E M R lc lz Z (pc + 3) lv st (hsJ h r b v) rc rs) : tr_W E M R lc lz Z pc lv (.inr (.inl v) :: .inr (.inr r) :: st) h rc rs := by
  obtain ⟨ci, q, hci, hq, hb, hdc, h0, hpl, hw⟩ := tr_ft_spec hf
  refine tr_put0 ok hd hf hO hfin htg (fun c2 e2 => ?_) tr_ag_J (fun c2 j e2 => ?_) k
  · rw [show c2 = ci by omega]; exact tr_nf_long _ v h0.symm
  · rw [show c2 = ci by omega]
    show tr_fv (tr_ty ci j) _ (up2 (hJ h) r b v r j) _ = _
    rw [up2_eq]
    by_cases hj : j = b
    · subst hj; rw [if_pos rfl, if_pos rfl]; exact tr_fv1 h0.symm
    · rw [if_neg hj, if_neg hj]; rfl
theorem tr_r_putR (ok : tr_ok E) {idx a b r : Nat} {v : Nat} (hd : decode (mB M) pc = .ok (.putfield idx, 3)) (hf : (mO M, idx, a, b, 2) ∈ tr_ft) (hO : tr_R (mO M) = (mY M).cls)
    (hfin : ∀ q : vw_C, vwCl[a - 1]? = some q → (q.2.1 b).2.2.2 = true → (mY M).name = "<init>" ∧ q.1 = (mY M).cls) (htg : ht h r = a) (k : tr_W E M R lc lz Z (pc + 3) lv st (hsR h r b v) rc rs) : tr_W E M R lc lz Z pc lv (.inr (.inr v) :: .inr (.inr r) :: st) h rc rs := by
  obtain ⟨ci, q, hci, hq, hb, hdc, h0, hpl, hw⟩ := tr_ft_spec hf
  refine tr_put0 ok hd hf hO hfin htg (fun c2 e2 => ?_) tr_ag_R (fun c2 j e2 => ?_) k
  · rw [show c2 = ci by omega]; exact tr_nf_ref _ v h0.symm
  · rw [show c2 = ci by omega]
    show tr_fv (tr_ty ci j) _ _ (up2 (hR h) r b v r j) = _
    rw [up2_eq]
    by_cases hj : j = b
    · subst hj; rw [if_pos rfl, if_pos rfl]; exact tr_fv2 h0.symm
    · rw [if_neg hj, if_neg hj]; rfl
end TRH
