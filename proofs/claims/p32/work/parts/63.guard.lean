/-! what arguments may be, on both sides: for any ints -/
theorem i32_case (y : Int32) : y < 0 ∨ ∃ k, k < 2147483648 ∧ y = nI k := by
  by_cases h : y < 0
  · exact Or.inl h
  · exact Or.inr ⟨y.toNatClampNeg, ni_lt31 y, ni_of h⟩
theorem m_within (F : Nat) (y lo hi : Int32) : s_X5_within F y lo hi = some (decide (lo ≤ y ∧ y ≤ hi)) := by
  unfold s_X5_within
  by_cases h1 : y < lo
  · rw [if_pos h1, decide_eq_false (fun z => Int32.not_lt.mpr z.1 h1)]
  · rw [if_neg h1]
    by_cases h2 : hi < y
    · rw [if_pos h2, decide_eq_false (fun z => Int32.not_lt.mpr z.2 h2)]
    · rw [if_neg h2, decide_eq_true ⟨Int32.not_lt.mp h1, Int32.not_lt.mp h2⟩]
/-- a number below n -/
def tT (n : Nat) (y : Int32) : Bool := decide (0 ≤ y ∧ y < nI n)
theorem tT_iff {n : Nat} (hn : n < 2147483648) {y : Int32} : tT n y = true ↔ ∃ k, k < n ∧ y = nI k := by
  unfold tT
  rw [decide_eq_true_eq]
  constructor
  · rintro ⟨h1, h2⟩
    rcases i32_case y with h | ⟨k, hk, h⟩
    · exact absurd h (Int32.not_lt.mpr h1)
    · rw [h] at h2; exact ⟨k, (ni_lt hk hn).mp h2, h⟩
  · rintro ⟨k, hk, h⟩
    rw [h]
    exact ⟨(ni_le (a := 0) (by omega) (by omega)).mpr (by omega), (ni_lt (by omega) hn).mpr hk⟩
theorem tT_in {n k : Nat} (hn : n < 2147483648) (hk : k < n) : tT n (nI k) = true := (tT_iff hn).mpr ⟨k, hk, rfl⟩
theorem tT_two {n : Nat} (c y : Int32) (hc : c = nI n) : (if y < 0 then some false else if c ≤ y then some false else some true) = some (tT n y) := by
  unfold tT
  rw [hc]
  by_cases h1 : y < 0
  · rw [if_pos h1, decide_eq_false (fun z => Int32.not_lt.mpr z.1 h1)]
  · rw [if_neg h1]
    by_cases h2 : nI n ≤ y
    · rw [if_pos h2, decide_eq_false (fun z => Int32.not_lt.mpr h2 z.2)]
    · rw [if_neg h2, decide_eq_true ⟨Int32.not_lt.mp h1, Int32.not_le.mp h2⟩]
theorem c_isThing (F : Nat) {u : S_X4} {n : Nat} (h : a_X3_things (a_X4_now u) = nI n) (y : Int32) : s_X4_isThing F u y = some (tT n y) := tT_two _ y h
theorem c_isHand (F : Nat) (y : Int32) : s_X4_isHand F y = some (tT 4 y) := tT_two 4 y rfl
theorem c_isSlot (F : Nat) (y : Int32) : s_X4_isSlot F y = some (tT 4 y) := tT_two 4 y rfl
theorem c_isSetting (F : Nat) (y : Int32) : s_X4_isSetting F y = some (tT 5 y) := tT_two 5 y rfl
theorem c_isThingOrNone (F : Nat) {u : S_X4} {n : Nat} (h : a_X3_things (a_X4_now u) = nI n) (y : Int32) : s_X4_isThingOrNone F u y = some ((y == -1) || tT n y) := by
  unfold s_X4_isThingOrNone
  rw [c_isThing F h, Option.bind_some]
  by_cases hy : y = -1
  · rw [if_pos hy, hy]; rfl
  · rw [if_neg hy, beq_eq_false_iff_ne.mpr hy, Bool.false_or]
    cases tT n y <;> rfl
theorem le_pred {n : Nat} (hn : n < 2147483648) (y : Int32) : (0 ≤ y ∧ y ≤ nI n - 1) ↔ (0 ≤ y ∧ y < nI n) := by
  constructor
  · rintro ⟨h1, h2⟩
    refine ⟨h1, ?_⟩
    rcases i32_case y with h | ⟨k, hk, h⟩
    · exact absurd h (Int32.not_lt.mpr h1)
    · rw [h] at h2 ⊢
      cases n with
      | zero =>
        rw [show nI 0 - 1 = -1 from rfl, i32_le, ni_int hk, i32_m1] at h2
        omega
      | succ n =>
        rw [show (1 : Int32) = nI 1 from rfl, ni_sub (by omega)] at h2
        exact (ni_lt hk hn).mpr (by have := (ni_le hk (by omega)).mp h2; omega)
  · rintro ⟨h1, h2⟩
    refine ⟨h1, ?_⟩
    rcases i32_case y with h | ⟨k, hk, h⟩
    · exact absurd h (Int32.not_lt.mpr h1)
    · rw [h] at h2 ⊢
      have := (ni_lt hk hn).mp h2
      rw [show (1 : Int32) = nI 1 from rfl, ni_sub (by omega)]
      exact (ni_le hk (by omega)).mpr (by omega)
theorem m_below (F : Nat) {n : Nat} (hn : n < 2147483648) (y : Int32) : s_X5_within F y 0 (nI n - 1) = some (tT n y) := by
  rw [m_within]
  refine congrArg some ?_
  unfold tT
  exact decide_eq_decide.mpr (le_pred hn y)
theorem m_isThing (F : Nat) {w : S_X5} {n : Nat} (hn : n < 2147483648) (h : a_X5_state w 1 = nI n) (y : Int32) : s_X5_isThing F w y = some (tT n y) := by
  unfold s_X5_isThing
  rw [show a_X5_state w (1 : Int32).toNatClampNeg = nI n from h, m_below F hn, Option.bind_some]
theorem m_four (F : Nat) (y : Int32) : s_X5_within F y 0 3 = some (tT 4 y) := m_below F (n := 4) (by omega) y
theorem m_isSetting (F : Nat) (y : Int32) : s_X5_isSetting F y = some (tT 5 y) := by
  unfold s_X5_isSetting
  rw [show s_X5_within F y 0 4 = some (tT 5 y) from m_below F (n := 5) (by omega) y, Option.bind_some]
theorem m_isHeld (F : Nat) {w : S_X5} {n : Nat} (hn : n < 2147483648) (h : a_X5_state w 1 = nI n) (y : Int32) : s_X5_isHeld F w y = some ((y == -1) || tT n y) := by
  unfold s_X5_isHeld
  rw [m_isThing F hn h, Option.bind_some]
  by_cases hy : y = -1
  · rw [if_pos hy, hy]; rfl
  · rw [if_neg hy, beq_eq_false_iff_ne.mpr hy, Bool.false_or]
    cases tT n y <;> rfl
/-- living things -/
def tL (u : S_X3) (y : Int32) : Bool := tT 24 y && mb (a_X3_living u) y.toNatClampNeg
theorem tL_iff {u : S_X3} {y : Int32} : tL u y = true ↔ ∃ k, k < 24 ∧ y = nI k ∧ mb (a_X3_living u) k = true := by
  unfold tL
  rw [Bool.and_eq_true, tT_iff (by omega)]
  constructor
  · rintro ⟨⟨k, hk, h⟩, h2⟩
    rw [h, ni_nat (by omega)] at h2
    exact ⟨k, hk, h, h2⟩
  · rintro ⟨k, hk, h, h2⟩
    exact ⟨⟨k, hk, h⟩, by rw [h, ni_nat (by omega)]; exact h2⟩
theorem c_lives (F : Nat) (u : S_X3) (y : Int32) : s_X3_lives F u y = some (tL u y) := by
  rcases i32_case y with h | ⟨k, hk, h⟩
  · have : tL u y = false := by
      cases hb : tL u y with
      | false => rfl
      | true =>
        obtain ⟨k, hk, h2, -⟩ := tL_iff.mp hb
        rw [h2] at h; exact absurd h (ni_nneg (by omega))
    unfold s_X3_lives
    rw [if_pos h, this]
  · by_cases hk24 : k < 24
    · rw [h, x3_lives F u hk24]
      refine congrArg some ?_
      unfold tL
      rw [tT_in (by omega) hk24, ni_nat (by omega), Bool.true_and]
    · have : tL u y = false := by
        cases hb : tL u y with
        | false => rfl
        | true =>
          obtain ⟨j, hj, h2, -⟩ := tL_iff.mp hb
          rw [h] at h2
          have := (ni_eq hk (by omega)).mp h2
          omega
      unfold s_X3_lives
      rw [this, h, if_neg (ni_nneg hk), if_pos (show (24 : Int32) ≤ nI k from (ni_le (a := 24) (by omega) hk).mpr (by omega))]
/-- what may be held -/
def tH (u : S_X3) (y : Int32) : Bool := (y == -1) || tL u y
theorem tH_iff {u : S_X3} {y : Int32} : tH u y = true ↔ y = -1 ∨ ∃ k, k < 24 ∧ y = nI k ∧ mb (a_X3_living u) k = true := by
  unfold tH
  rw [Bool.or_eq_true, tL_iff, beq_iff_eq]
theorem c_mayBeHeld (F : Nat) (u : S_X3) (y : Int32) : s_X3_mayBeHeld F u y = some (tH u y) := by
  unfold s_X3_mayBeHeld tH
  rw [c_lives, Option.bind_some]
  by_cases hy : y = -1
  · rw [if_pos hy, hy]; rfl
  · rw [if_neg hy, beq_eq_false_iff_ne.mpr hy, Bool.false_or]
    cases tL u y <;> rfl
/-- the model's, where a relation holds -/
theorem m_lives (F : Nat) {B T n e h m : Nat} {u : S_X3} {w : S_X5} (q : WB B T n e h m u (a_X5_state w)) {y : Int32} (hy : tT n y = true) : s_X5_lives F w y = some (tL u y) := by
  obtain ⟨he, hn, -⟩ := WB_e q
  obtain ⟨k, hk, h⟩ := (tT_iff (by omega)).mp hy
  rw [h, x5_lives F w (by omega), WX_lv q hk]
  unfold tL
  rw [tT_in (by omega) (show k < 24 by omega), ni_nat (by omega), Bool.true_and]
theorem tL_T {B T n e h m : Nat} {u : S_X3} {v : Nat → Int32} (q : WB B T n e h m u v) {y : Int32} (hy : tL u y = true) : tT n y = true := by
  obtain ⟨he, hn, -⟩ := WB_e q
  obtain ⟨k, hk, h1, h2⟩ := tL_iff.mp hy
  rw [h1]
  exact tT_in (by omega) (q.2.2.2.1.1 k h2)
theorem m_hasEnded (F : Nat) {B T n e h m : Nat} {u : S_X3} {w : S_X5} (q : WB B T n e h m u (a_X5_state w)) {y : Int32} (hy : ((y == -1) || tT n y) = true) : s_X5_hasEnded F w y = some (!tH u y) := by
  unfold s_X5_hasEnded tH
  by_cases h1 : y = -1
  · rw [if_pos h1, h1]; rfl
  · rw [beq_eq_false_iff_ne.mpr h1, Bool.false_or] at hy
    rw [if_neg h1, m_lives F q hy, Option.bind_some, beq_eq_false_iff_ne.mpr h1, Bool.false_or]
    cases tL u y <;> rfl
theorem m_taken (F : Nat) {B T n e h m : Nat} {u : S_X3} {w : S_X5} (q : WB B T n e h m u (a_X5_state w)) (x y : Int32) : s_X5_whyNotTaken F w x y = some (if tT 4 x && ((y == -1) || tT n y) then (if tH u y then 0 else 2) else 1) := by
  obtain ⟨he, hn, -⟩ := WB_e q
  unfold s_X5_whyNotTaken
  rw [m_four, Option.bind_some]
  cases tT 4 x with
  | false => rw [if_neg Bool.false_ne_true, Bool.false_and, if_neg Bool.false_ne_true]
  | true =>
    rw [if_pos rfl, m_isHeld F (n := n) (by omega) q.1.2.2.2.2.1, Option.bind_some, Bool.true_and]
    cases hb : ((y == -1) || tT n y) with
    | false => rw [if_neg Bool.false_ne_true, if_neg Bool.false_ne_true]
    | true =>
      rw [if_pos rfl, if_pos rfl, m_hasEnded F q hb, Option.bind_some]
      cases tH u y <;> rfl
theorem m_put (F : Nat) {B T n e h m : Nat} {u : S_X3} {w : S_X5} (q : WB B T n e h m u (a_X5_state w)) (x s y : Int32) : s_X5_whyNotPut F w x s y = some (if tT n x && tT 4 s && ((y == -1) || tT n y) then (if tL u x && tH u y then 0 else 2) else 1) := by
  obtain ⟨he, hn, -⟩ := WB_e q
  unfold s_X5_whyNotPut
  rw [m_isThing F (n := n) (by omega) q.1.2.2.2.2.1, Option.bind_some]
  cases hx : tT n x with
  | false => rw [if_neg Bool.false_ne_true, Bool.false_and, Bool.false_and, if_neg Bool.false_ne_true]
  | true =>
    rw [if_pos rfl, m_four, Option.bind_some, Bool.true_and]
    cases tT 4 s with
    | false => rw [if_neg Bool.false_ne_true, Bool.false_and, if_neg Bool.false_ne_true]
    | true =>
      rw [if_pos rfl, m_isHeld F (n := n) (by omega) q.1.2.2.2.2.1, Option.bind_some, Bool.true_and]
      cases hb : ((y == -1) || tT n y) with
      | false => rw [if_neg Bool.false_ne_true, if_neg Bool.false_ne_true]
      | true =>
        rw [if_pos rfl, if_pos rfl, m_lives F q hx, Option.bind_some]
        cases tL u x with
        | false => rw [if_neg Bool.false_ne_true, Bool.false_and, if_neg Bool.false_ne_true]
        | true =>
          rw [if_pos rfl, m_hasEnded F q hb, Option.bind_some, Bool.true_and]
          cases tH u y <;> rfl
