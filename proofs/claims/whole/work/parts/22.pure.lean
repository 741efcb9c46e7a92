/-! THE PURE PICTURE: a row m of numbers, links from one to two, H hops, L links -/
def bt (x f : Int) : Bool := x.toNat.testBit f.toNat
def fd (m : Int → Int) (p w : Int) : Int := m (107 + 19 * p + w)
def mixL (b mk : Int) (g : Int → Int) : Int → Int → Nat → Int
  | v, _, 0 => v
  | v, f, n + 1 => mixL b mk g (if bt mk f then (31 * v + g f) % b else v) (f + 1) n
def fa (m : Int → Int) (p k f : Int) : Int := if f < 4 then fd m p f else fd m p 4 - k
def mixB (m : Int → Int) (p k mk : Int) : Int := mixL (m 2) mk (fa m p k) 0 0 5
def mixA (m : Int → Int) (p k : Int) : Int := (mixB m p k (m 1) + m 4) % m 2
def chs (m : Int → Int) (p k : Int) : Bool := decide (mixA m p k < m 3)
def hshL (g : Int → Int) : Int → Int → Nat → Int
  | v, _, 0 => v
  | v, f, n + 1 => hshL g ((37 * v + g f) % 9973) (f + 1) n
def hsh (m : Int → Int) (p : Int) : Int := hshL (fd m p) 0 0 4
def lab (m : Int → Int) (p : Int) : Int := hsh m p % m 5
def lk (m : Int → Int) (p k : Int) : Int := fd m p (7 + k)
def hop (m two : Int → Int) (p k : Int) : Int := if k = 0 then fd m p 0 else two (lk m p (k - 1))
/-- a packet is as it must be -/
def pok (m : Int → Int) (H L p : Int) : Prop := (0 ≤ fd m p 0 ∧ fd m p 0 < H) ∧ (0 ≤ fd m p 1 ∧ fd m p 1 < H) ∧ (0 ≤ fd m p 2 ∧ fd m p 2 ≤ 9999) ∧ (1 ≤ fd m p 3 ∧ fd m p 3 ≤ 200) ∧ (0 ≤ fd m p 4 ∧ fd m p 4 ≤ 12) ∧ (0 ≤ fd m p 5 ∧ fd m p 5 ≤ 3) ∧ (0 ≤ fd m p 6 ∧ fd m p 6 ≤ fd m p 4) ∧ ∀ k, 0 ≤ k → k < fd m p 6 → 0 ≤ lk m p k ∧ lk m p k < L
def vok (m one two : Int → Int) (H L : Int) : Prop := (2 ≤ H ∧ H ≤ 10) ∧ (0 ≤ L ∧ L ≤ 24) ∧ (∀ l, 0 ≤ l → l < L → 0 ≤ one l ∧ one l < H ∧ 0 ≤ two l ∧ two l < H) ∧ (0 ≤ m 0 ∧ m 0 ≤ 16777215) ∧ (1 ≤ m 1 ∧ m 1 ≤ 31) ∧ (2 ≤ m 2 ∧ m 2 ≤ 997) ∧ (1 ≤ m 3 ∧ m 3 ≤ m 2) ∧ (0 ≤ m 4 ∧ m 4 < m 2) ∧ (2 ≤ m 5 ∧ m 5 ≤ 64) ∧ (∀ k, 0 ≤ k → k < 100 → -1 ≤ m (6 + k) ∧ m (6 + k) < L) ∧ (0 ≤ m 106 ∧ m 106 ≤ 40) ∧ ∀ p, 0 ≤ p → p < m 106 → pok m H L p
section VOK
variable {m one two : Int → Int} {H L p k : Int}
theorem v_H (v : vok m one two H L) : 2 ≤ H ∧ H ≤ 10 := v.1
theorem v_L (v : vok m one two H L) : 0 ≤ L ∧ L ≤ 24 := v.2.1
theorem v_l (v : vok m one two H L) {l : Int} (h1 : 0 ≤ l) (h2 : l < L) : 0 ≤ one l ∧ one l < H ∧ 0 ≤ two l ∧ two l < H := v.2.2.1 l h1 h2
theorem v_0 (v : vok m one two H L) : 0 ≤ m 0 ∧ m 0 ≤ 16777215 := v.2.2.2.1
theorem v_1 (v : vok m one two H L) : 1 ≤ m 1 ∧ m 1 ≤ 31 := v.2.2.2.2.1
theorem v_2 (v : vok m one two H L) : 2 ≤ m 2 ∧ m 2 ≤ 997 := v.2.2.2.2.2.1
theorem v_3 (v : vok m one two H L) : 1 ≤ m 3 ∧ m 3 ≤ m 2 := v.2.2.2.2.2.2.1
theorem v_4 (v : vok m one two H L) : 0 ≤ m 4 ∧ m 4 < m 2 := v.2.2.2.2.2.2.2.1
theorem v_5 (v : vok m one two H L) : 2 ≤ m 5 ∧ m 5 ≤ 64 := v.2.2.2.2.2.2.2.2.1
theorem v_r (v : vok m one two H L) (h1 : 0 ≤ k) (h2 : k < 100) : -1 ≤ m (6 + k) ∧ m (6 + k) < L := v.2.2.2.2.2.2.2.2.2.1 k h1 h2
theorem v_m (v : vok m one two H L) : 0 ≤ m 106 ∧ m 106 ≤ 40 := v.2.2.2.2.2.2.2.2.2.2.1
theorem v_p (v : vok m one two H L) (h1 : 0 ≤ p) (h2 : p < m 106) : pok m H L p := v.2.2.2.2.2.2.2.2.2.2.2 p h1 h2
theorem mixL_rg {b mk : Int} {g : Int → Int} (hb : 0 < b) : ∀ (n : Nat) (v f : Int), 0 ≤ v → v < b → 0 ≤ mixL b mk g v f n ∧ mixL b mk g v f n < b
  | 0, v, f, h1, h2 => ⟨h1, h2⟩
  | n + 1, v, f, h1, h2 => by
    unfold mixL
    refine mixL_rg hb n _ _ ?_ ?_
    · split
      · exact Int.emod_nonneg _ (by omega)
      · exact h1
    · split
      · exact Int.emod_lt_of_pos _ hb
      · exact h2
theorem mixB_rg (v : vok m one two H L) (mk : Int) : 0 ≤ mixB m p k mk ∧ mixB m p k mk < m 2 := mixL_rg (by have := v_2 v; omega) 5 0 0 (by omega) (by have := v_2 v; omega)
theorem mixA_rg (v : vok m one two H L) : 0 ≤ mixA m p k ∧ mixA m p k < m 2 := ⟨Int.emod_nonneg _ (by have := v_2 v; omega), Int.emod_lt_of_pos _ (by have := v_2 v; omega)⟩
theorem hshL_rg {g : Int → Int} : ∀ (n : Nat) (v f : Int), 0 ≤ v → v < 9973 → 0 ≤ hshL g v f n ∧ hshL g v f n < 9973
  | 0, v, f, h1, h2 => ⟨h1, h2⟩
  | n + 1, v, f, h1, h2 => hshL_rg n _ _ (Int.emod_nonneg _ (by omega)) (Int.emod_lt_of_pos _ (by omega))
theorem hsh_rg : 0 ≤ hsh m p ∧ hsh m p < 9973 := hshL_rg 4 0 0 (by omega) (by omega)
theorem lab_rg (v : vok m one two H L) : 0 ≤ lab m p ∧ lab m p < m 5 := ⟨Int.emod_nonneg _ (by have := v_5 v; omega), Int.emod_lt_of_pos _ (by have := v_5 v; omega)⟩
theorem hop_rg (v : vok m one two H L) (h1 : 0 ≤ p) (h2 : p < m 106) (h3 : 0 ≤ k) (h4 : k ≤ fd m p 6) : 0 ≤ hop m two p k ∧ hop m two p k < H := by
  obtain ⟨q0, -, -, -, -, -, -, q⟩ := v_p v h1 h2
  unfold hop
  split
  · exact q0
  · obtain ⟨a, b⟩ := q (k - 1) (by omega) (by omega)
    exact (v_l v a b).2.2
end VOK
/-- bits -/
theorem sh_ii {x l : Int} (h1 : 0 ≤ x) (h2 : x ≤ 2147483647) (h3 : 0 ≤ l) (h4 : l < 32) : ii x >>> (ii l &&& 31) = ii (x / 2 ^ l.toNat) := by
  have hs : ((ii l &&& 31).toBitVec.smod 32).toNat = l.toNat := by
    obtain ⟨n, rfl⟩ : ∃ n : Nat, l = n := ⟨l.toNat, by omega⟩
    have := (by decide : ∀ n : Fin 32, ((ii (n.val : Nat) &&& 31).toBitVec.smod 32).toNat = n.val) ⟨n, by omega⟩
    simpa using this
  have hp := pk_shr (ii x) (ii l &&& 31) l.toNat hs
  rw [ti_ii (by omega) h2, Int.shiftRight_eq_div_pow] at hp
  rw [← ii_ti (ii x >>> (ii l &&& 31)), hp]
  congr 1
theorem an_ii {y : Int} (h1 : 0 ≤ y) (h2 : y ≤ 2147483647) : ii y &&& ii 1 = ii (y % 2) := by
  apply Int32.toBitVec_inj.1
  show BitVec.ofInt 32 y &&& BitVec.ofInt 32 1 = BitVec.ofInt 32 (y % 2)
  apply BitVec.eq_of_toNat_eq
  rw [BitVec.toNat_and, BitVec.toNat_ofInt, BitVec.toNat_ofInt, BitVec.toNat_ofInt]
  have e1 : ((1 : Int) % (2 ^ 32 : Nat)).toNat = 1 := by decide
  rw [e1, Nat.and_one_is_mod]
  have e2 : ((2 ^ 32 : Nat) : Int) = 4294967296 := by decide
  rw [e2]
  omega
theorem bt_ii {x l : Int} (h1 : 0 ≤ x) (h2 : x ≤ 2147483647) (h3 : 0 ≤ l) (h4 : l < 32) : ((ii x >>> (ii l &&& 31)) &&& ii 1 = ii 1) = (bt x l = true) := by
  have e0 : (2 : Int) ^ l.toNat = ((2 ^ l.toNat : Nat) : Int) := by simp
  have e1 : x / 2 ^ l.toNat = ((x.toNat / 2 ^ l.toNat : Nat) : Int) := by
    rw [e0, Int.natCast_ediv, Int.toNat_of_nonneg h1]
  have e3 : x.toNat / 2 ^ l.toNat ≤ x.toNat := Nat.div_le_self _ _
  rw [sh_ii h1 h2 h3 h4, e1]
  unfold bt
  rw [Nat.testBit_eq_decide_div_mod_eq, decide_eq_true_eq]
  generalize x.toNat / 2 ^ l.toNat = y at e3
  rw [an_ii (by omega) (by omega), ii_eq (by omega) (by omega) (by omega) (by omega)]
  apply propext
  omega
theorem bt_mk {x f : Int} (h1 : 0 ≤ x) (h2 : x < 32) (h3 : 0 ≤ f) (h4 : f < 5) : (ii x &&& (ii 1 <<< (ii f &&& 31)) = ii 0) = (bt x f = false) := by
  obtain ⟨n, rfl⟩ : ∃ n : Nat, x = n := ⟨x.toNat, by omega⟩
  obtain ⟨j, rfl⟩ : ∃ n : Nat, f = n := ⟨f.toNat, by omega⟩
  have := (by decide : ∀ (n : Fin 32) (j : Fin 5), (ii (n.val : Nat) &&& (ii 1 <<< (ii (j.val : Nat) &&& 31)) = ii 0) ↔ (bt (n.val : Nat) (j.val : Nat) = false)) ⟨n, by omega⟩ ⟨j, by omega⟩
  exact propext this
/-- the reference holds it -/
def mst (ad : Nat → Nat) (h : tr_H) (m one two : Int → Int) (H L : Int) : Prop := stat ad h ∧ gv h (ad 25) = m ∧ gv h (ad 28) = one ∧ gv h (ad 29) = two ∧ gv h (ad 23) 10 = H ∧ gv h (ad 23) 11 = L
theorem mst_fr {ad : Nat → Nat} {h h' : tr_H} {m one two : Int → Int} {H L : Int} {P : Nat → Bool} {F : Int → Bool} {R : Bool} (s : mst ad h m one two H L) (a : fr ad P F R h h') (hP1 : ∀ j, P j = true → j < 42) (c1 : P 25 = false) (c2 : P 28 = false) (c3 : P 29 = false) (c4 : P 23 = false) (c5 : F 10 = false) (c6 : F 11 = false) : mst ad h' m one two H L := by
  obtain ⟨s, e1, e2, e3, e4, e5⟩ := s
  exact ⟨st_fr s a, (fr_gv s a (by decide) (by decide) c1 hP1).trans e1, (fr_gv s a (by decide) (by decide) c2 hP1).trans e2, (fr_gv s a (by decide) (by decide) c3 hP1).trans e3, (fr_gf s a c4 hP1 c5).trans e4, (fr_gf s a c4 hP1 c6).trans e5⟩
