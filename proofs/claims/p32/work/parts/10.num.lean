/-! numbers and folds -/
theorem ev_to {μ : ev_M} {N0 : Option Nat} {X : ev_X} {pc : Nat} {L L' : ev_L} {st st' : List Value} {w w' : List ev_E} {kc ks : Nat} (k : ev_V μ N0 X pc L' st' w' kc ks) (hL : L = L') (hs : st = st') (hw : w = w') : ev_V μ N0 X pc L st w kc ks := by
  subst hL; subst hs; subst hw; exact k
def ev_b (b : Bool) : Int32 := match b with
  | true => 1
  | false => 0
theorem ev_bn (b : Bool) : narrow .boolean (.int (ev_b b)) = .int (ev_b b) := by cases b <;> rfl
theorem ev_b0 {b : Bool} (h : ev_b b = 0) : b = false := by
  cases b with
  | false => rfl
  | true => exact absurd h (by decide)
theorem ev_b1 {b : Bool} (h : ¬ ev_b b = 0) : b = true := by
  cases b with
  | true => rfl
  | false => exact absurd rfl h
theorem ni_nat {k : Nat} (h : k < 2147483648) : (nI k).toNatClampNeg = k := by
  unfold nI
  have h1 : (Int32.ofNat k).toInt = (k : Int) := Int32.toInt_ofNat_of_lt h
  unfold Int32.toNatClampNeg
  rw [h1]
  rfl
theorem ni_int {k : Nat} (h : k < 2147483648) : (nI k).toInt = (k : Int) := Int32.toInt_ofNat_of_lt h
theorem ni_lt {a b : Nat} (ha : a < 2147483648) (hb : b < 2147483648) : nI a < nI b ↔ a < b := by
  rw [Int32.lt_iff_toInt_lt, ni_int ha, ni_int hb]
  omega
theorem ni_le {a b : Nat} (ha : a < 2147483648) (hb : b < 2147483648) : nI a ≤ nI b ↔ a ≤ b := by
  rw [Int32.le_iff_toInt_le, ni_int ha, ni_int hb]
  omega
theorem ni_eq {a b : Nat} (ha : a < 2147483648) (hb : b < 2147483648) : nI a = nI b ↔ a = b := by
  constructor
  · intro h
    have := congrArg Int32.toInt h
    rw [ni_int ha, ni_int hb] at this
    omega
  · intro h; rw [h]
theorem ni_nle {k N : Nat} (h : k < N) (hN : N < 2147483648) : ¬ nI N ≤ nI k := by
  rw [ni_le hN (by omega)]; omega
theorem ni_nlt {k N : Nat} (h : N ≤ k) (hk : k < 2147483648) : ¬ nI k < nI N := by
  rw [ni_lt hk (by omega)]; omega
theorem ni_1 (k : Nat) : nI k + 1 = nI (k + 1) := by
  unfold nI
  rw [Int32.ofNat_add]
  rfl
theorem ni_in {k n : Nat} (h : k < n) (hk : k < 2147483648) : vp_in (nI k) n := by
  unfold vp_in
  rw [ni_nat hk]
  intro q
  rcases q with q | q
  · exact ni_nlt (N := 0) (Nat.zero_le k) hk q
  · omega
theorem ni_of {x : Int32} (h : ¬ x < 0) : x = nI x.toNatClampNeg := by
  have h1 : ¬ x.toInt < 0 := fun q => h (Int32.lt_iff_toInt_lt.mpr (by simpa using q))
  apply Int32.toInt_inj.mp
  have h2 : x.toInt < 2147483648 := Int32.toInt_lt x
  have h3 : x.toNatClampNeg < 2147483648 := by unfold Int32.toNatClampNeg; omega
  rw [ni_int h3]
  unfold Int32.toNatClampNeg
  omega
theorem ni_lt31 (x : Int32) : x.toNatClampNeg < 2147483648 := by
  have h2 : x.toInt < 2147483648 := Int32.toInt_lt x
  unfold Int32.toNatClampNeg; omega
theorem vp_of {x : Int32} {n : Nat} (h1 : ¬ x < 0) (hn : n < 2147483648) (h2 : ¬ nI n ≤ x) : vp_in x n := by
  intro q
  rcases q with q | q
  · exact h1 q
  · apply h2
    rw [ni_of h1, ni_le hn (ni_lt31 x)]
    exact q
def fo_it {α : Type} : Nat → (Nat → α → α) → α → α
  | 0, _, s => s
  | n + 1, f, s => f n (fo_it n f s)
theorem fo_S {α : Type} (n : Nat) (f : Nat → α → α) (s : α) : fo_it (n + 1) f s = f n (fo_it n f s) := rfl
