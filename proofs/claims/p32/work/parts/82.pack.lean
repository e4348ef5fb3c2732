/-! the engine's packed reports -/
theorem ni_div {a b : Nat} (ha : a < 2147483648) (hb : b < 2147483648) : nI a / nI b = nI (a / b) := by
  apply Int32.toInt_inj.mp
  have h1 : a / b ≤ a := Nat.div_le_self a b
  rw [Int32.toInt_div, ni_int ha, ni_int hb, ni_int (by omega), ← Int.ofNat_tdiv]
  generalize a / b = q at h1 ⊢
  exact Int.bmod_eq_of_le (by omega) (by omega)
theorem ni_rem {a b : Nat} (ha : a < 2147483648) (hb : b < 2147483648) : nI a - nI a / nI b * nI b = nI (a % b) := by
  have h2 := Nat.div_mul_le_self a b
  rw [ni_div ha hb, ni_mul, ni_sub h2]
  congr 1
  have := Nat.div_add_mod a b
  rw [Nat.mul_comm] at this
  omega
/-- the number of a report: due, its number, its thing, +1 or not -/
def RN (d k t b : Nat) : Nat := ((d * 128 + k) * 8 + t) * 2 + b
theorem RN_lt {d k t b : Nat} (hd : d ≤ 6000) (hk : k < 128) (ht : t < 8) (hb : b < 2) : RN d k t b < 12300000 := by unfold RN; omega
theorem RN_b {d k t b : Nat} (hb : b < 2) : RN d k t b % 2 = b := by unfold RN; omega
theorem RN_t {d k t b : Nat} (ht : t < 8) (hb : b < 2) : RN d k t b / 2 % 8 = t := by unfold RN; omega
theorem RN_k {d k t b : Nat} (hk : k < 128) (ht : t < 8) (hb : b < 2) : RN d k t b / 16 % 128 = k := by unfold RN; omega
theorem RN_d {d k t b : Nat} (hk : k < 128) (ht : t < 8) (hb : b < 2) : RN d k t b / 2048 = d := by unfold RN; omega
/-- a report of the model and the engine's -/
def bN (b : Bool) : Nat := if b then 1 else 0
theorem bN_lt (b : Bool) : bN b < 2 := by cases b <;> decide
def PK (n : Nat) (r : rw5) (x : Int32) : Prop := ∃ (d k t : Nat) (b : Bool), d ≤ 6000 ∧ k < 128 ∧ t < n ∧ r.1 = nI k ∧ r.2.1 = nI t ∧ r.2.2.1 = (if b then 1 else -1) ∧ r.2.2.2.1 = nI d ∧ x = nI (RN d k t (bN b))
theorem PK.t {n : Nat} (hn : n ≤ 6) {r : rw5} {x : Int32} (q : PK n r x) : x / 2 - x / 2 / 8 * 8 = rof r := by
  obtain ⟨d, k, t, b, hd, hk, ht, -, h2, -, -, h5⟩ := q
  have := RN_lt hd hk (show t < 8 by omega) (bN_lt b)
  rw [h5, show (2 : Int32) = nI 2 from rfl, ni_div (by omega) (by omega), show (8 : Int32) = nI 8 from rfl, ni_rem (by omega) (by omega), RN_t (by omega) (bN_lt b)]
  exact h2.symm
theorem PK.by {n : Nat} (hn : n ≤ 6) {r : rw5} {x : Int32} (q : PK n r x) : ∃ b : Bool, x - x / 2 * 2 = nI (bN b) ∧ rby r = if b then 1 else -1 := by
  obtain ⟨d, k, t, b, hd, hk, ht, -, -, h3, -, h5⟩ := q
  have := RN_lt hd hk (show t < 8 by omega) (bN_lt b)
  refine ⟨b, ?_, h3⟩
  rw [h5, show (2 : Int32) = nI 2 from rfl, ni_rem (by omega) (by omega), RN_b (bN_lt b)]
theorem PK.d {n : Nat} (hn : n ≤ 6) {r : rw5} {x : Int32} (q : PK n r x) : x / 2048 = r.2.2.2.1 := by
  obtain ⟨d, k, t, b, hd, hk, ht, -, -, -, h4, h5⟩ := q
  have := RN_lt hd hk (show t < 8 by omega) (bN_lt b)
  rw [h5, show (2048 : Int32) = nI 2048 from rfl, ni_div (by omega) (by omega), RN_d hk (by omega) (bN_lt b)]
  exact h4.symm
theorem PK.k {n : Nat} (hn : n ≤ 6) {r : rw5} {x : Int32} (q : PK n r x) : x / 16 - x / 16 / 128 * 128 = r.1 := by
  obtain ⟨d, k, t, b, hd, hk, ht, h1, -, -, -, h5⟩ := q
  have := RN_lt hd hk (show t < 8 by omega) (bN_lt b)
  rw [h5, show (16 : Int32) = nI 16 from rfl, ni_div (by omega) (by omega), show (128 : Int32) = nI 128 from rfl, ni_rem (by omega) (by omega), RN_k hk (by omega) (bN_lt b)]
  exact h1.symm
/-- of two reports the one that was made earlier is heard first, unless the other is due earlier -/
theorem PK.lt {n : Nat} (hn : n ≤ 6) {r r' : rw5} {x x' : Int32} (q : PK n r x) (q' : PK n r' x') (h : r.1.toInt < r'.1.toInt) : (x' < x ↔ du r' < du r) ∧ (x < x' ↔ du r ≤ du r') := by
  obtain ⟨d, k, t, b, hd, hk, ht, h1, -, -, h4, h5⟩ := q
  obtain ⟨d', k', t', b', hd', hk', ht', h1', -, -, h4', h5'⟩ := q'
  have e1 := RN_lt hd hk (show t < 8 by omega) (bN_lt b)
  have e2 := RN_lt hd' hk' (show t' < 8 by omega) (bN_lt b')
  have c1 := bN_lt b
  have c2 := bN_lt b'
  unfold du
  rw [h1, h1', ni_int (by omega), ni_int (by omega)] at h
  rw [h4, h4', h5, h5', ni_lt (by omega) (by omega), ni_lt (by omega) (by omega), ni_int (by omega), ni_int (by omega)]
  unfold RN
  constructor <;> constructor <;> intro z <;> omega
/-- the engine and the model's state -/
def EM (n m : Nat) (v : Nat → Int32) (E : S_XE) : Prop :=
  ((E.1 0 = v 0 ∧ E.1 1 = v 2 ∧ E.1 2 = v 3 ∧ E.1 3 = v 4 ∧ E.1 4 = v 5 ∧ E.1 5 = v 6 ∧ E.1 6 = v 7) ∧ ∀ i, i < 5 → E.1 (7 + i) = v (8 + i)) ∧
  (∀ t, t < n → E.2.1 (8 * t) = v (17 + 10 * t) ∧ E.2.1 (8 * t + 1) = v (17 + 10 * t + 1) ∧ E.2.1 (8 * t + 2) = v (17 + 10 * t + 2) ∧ E.2.1 (8 * t + 3) = v (17 + 10 * t + 3) ∧
    ((v (17 + 10 * t) = 1 → v (17 + 10 * t + 5) = -1 ∧ v (17 + 10 * t + 6) = -1) ∧ (¬ v (17 + 10 * t) = 1 → E.2.1 (8 * t + 4) = v (17 + 10 * t + 5) ∧ E.2.1 (8 * t + 7) = v (17 + 10 * t + 6))) ∧ E.2.1 (8 * t + 5) = v (17 + 10 * t + 7) ∧ E.2.1 (8 * t + 6) = v (17 + 10 * t + 8)) ∧
  ((∀ k, k < 24 → E.2.2.1 k = v (257 + k)) ∧ ∀ h, h < 4 → E.2.2.1 (24 + h) = v (13 + h)) ∧
  (∀ j, j < m → PK n (RV v j) (E.2.2.2 j)) ∧ (∀ i j, i < j → j < m → (RV v i).1.toInt < (RV v j).1.toInt) ∧ (∀ j, j < m → (RV v j).1.toInt < (v 2).toInt)
