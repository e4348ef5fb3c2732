/-! the engine's small methods -/
theorem e_lives (F : Nat) (th : Nat → Int32) {t : Nat} (ht : t < 6) : s_L_lives F 48 th (nI t) = some (th (8 * t) == 1) := by
  unfold s_L_lives
  rw [show (8 : Int32) = nI 8 from rfl, ni_mul, if_pos (ni_lx (show 8 * t < 48 by omega) (by decide)), ni_nat (by omega)]
  by_cases h : th (8 * t) = 1
  · rw [if_pos h, h]; rfl
  · rw [if_neg h, beq_eq_false_iff_ne.mpr h]
/-- what the engine's rows say of the class -/
def EH (u : S_X3) (th sl : Nat → Int32) : Prop :=
  (∀ t, t < 6 → (th (8 * t) == 1) = mb (a_X3_living u) t) ∧ (∀ k, k < 24 → sl k = a_X3_hold u (4 + k)) ∧ (∀ h, h < 4 → sl (24 + h) = a_X3_hold u h) ∧
  (∀ k, k < 100 → a_X3_hold u k = -1 ∨ ∃ t, t < 6 ∧ a_X3_hold u k = nI t ∧ mb (a_X3_living u) t = true) ∧
  (∀ o, o < 24 → mb (a_X3_living u) o = false → ∀ k, k < 4 → a_X3_hold u (4 + 4 * o + k) = -1) ∧ (∀ t, mb (a_X3_living u) t = true → t < 6)
theorem EH.of {B T e h m : Nat} {u : S_X3} {v : Nat → Int32} {E : S_XE} (q : WX G0 B T 6 e h m u v) (em : EM 6 m v E) : EH u E.2.1 E.2.2.1 := by
  refine ⟨fun t ht => ?_, fun k hk => ?_, fun h hh => ?_, q.2.2.2.1, q.2.2.2.2, q.1.2.2.2.1.1⟩
  · rw [(em.2.1 t ht).1]; exact WX_lv q.1 ht
  · have h1 := em.2.2.1.1 k hk
    have h2 := WH0 q.2 (o := k / 4) (k := k % 4) (by omega) (by omega)
    rw [show 257 + 4 * (k / 4) + k % 4 = 257 + k by omega, show 4 + 4 * (k / 4) + k % 4 = 4 + k by omega] at h2
    rw [h1, h2]
  · rw [em.2.2.1.2 h hh]; exact q.2.1 h hh
theorem EH.hOK {u : S_X3} {th sl : Nat → Int32} (q : EH u th sl) : hOK (a_X3_hold u) 24 := fun k hk => by
  rcases q.2.2.2.1 k hk with z | ⟨t, h1, h2, -⟩
  · exact Or.inl z
  · exact Or.inr ⟨t, by omega, h2⟩
theorem e_underWay {F m : Nat} (hF : 6400 < F) (hm : m ≤ 64) {f g : Nat → Int32} {R : Nat → rw5} (h2 : f 2 = nI m) (hp : ∀ j, j < m → PK 6 (R j) (g j)) (t : Int32) : s_L_underWay F 12 64 f g t = some (nI (cn (fun j => rof (R j) == t) m)) := by
  have i2 : f (2 : Int32).toNatClampNeg = nI m := h2
  have := lf_cnt (fun n k c => s_L_underWay_l5 F 12 64 f g t n c (nI k)) m (fun c => some c) (fun j => rof (R j) == t) 0 (n := F) (by omega) (fun n c => by
    rw [e_L_underWay_l5, if_pos (by decide), i2, if_pos (Int32.le_refl _)]) (fun n k c hk => by
    rw [e_L_underWay_l5, if_pos (by decide), i2, if_neg (ni_nle hk (by omega)), if_pos (ni_lx (show k < 64 by omega) (by decide)), ni_nat (by omega), (hp k hk).t (by omega), ni_1, Int32.add_zero]
    by_cases hc : rof (R k) = t
    · rw [if_pos hc, if_pos (by simpa using hc)]
    · rw [if_neg hc, if_neg (by simpa using hc)])
  rw [Nat.zero_add] at this
  exact this
theorem e_sum {F m : Nat} (hF : 6400 < F) (hm : m ≤ 64) {f g : Nat → Int32} {R : Nat → rw5} (h2 : f 2 = nI m) (hp : ∀ j, j < m → PK 6 (R j) (g j)) (t : Int32) : s_L_sum F 12 64 f g t = some (sm (fun j => if rof (R j) == t then rby (R j) else 0) m) := by
  have i2 : f (2 : Int32).toNatClampNeg = nI m := h2
  have := (lf_for (fun n k (a : Int32) => s_L_sum_l5 F 12 64 f g t n a (nI k)) m (fun a => some a) (fun k a => a + if rof (R k) == t then rby (R k) else 0) (fun _ _ => True)
    (fun n a _ => by rw [e_L_sum_l5, if_pos (by decide), i2, if_pos (Int32.le_refl _)]) (fun n k a hk _ => by
      refine ⟨?_, trivial⟩
      obtain ⟨b, hb1, hb2⟩ := (hp k hk).by (by omega)
      have hx : 2 * nI (bN b) - 1 = rby (R k) := by rw [hb2]; cases b <;> rfl
      rw [e_L_sum_l5, if_pos (by decide), i2, if_neg (ni_nle hk (by omega)), if_pos (ni_lx (show k < 64 by omega) (by decide)), if_pos (ni_lx (show k < 64 by omega) (by decide)), ni_nat (by omega), (hp k hk).t (by omega), hb1, hx, ni_1]
      by_cases hc : rof (R k) = t
      · rw [if_pos hc, if_pos (by simpa using hc)]
      · rw [if_neg hc, if_neg (by simpa using hc)]) m 0 0 F (by omega) (by omega) trivial).1
  have e := fr_sm (fun j => if rof (R j) == t then rby (R j) else 0) m 0
  rw [Nat.zero_add] at e
  rw [← e]
  exact this
theorem ni_d4 : ∀ k, k < 28 → nI k / 4 = nI (k / 4) := by decide
theorem e_truth {F : Nat} (hF : 6400 < F) {u : S_X3} {th sl : Nat → Int32} (q : EH u th sl) {t : Nat} (ht : t < 6) : s_L_truth F 48 28 th sl (nI t) = some (if mb (a_X3_living u) t then nI (cn (fun k => a_X3_hold u k == nI t) 100) else 0) := by
  obtain ⟨q1, q2, q3, q4, q5, q6⟩ := q
  obtain ⟨p, hp⟩ : ∃ p : Nat → Bool, p = fun k => if k < 24 then a_X3_hold u (4 + k) == nI t else a_X3_hold u (k - 24) == nI t := ⟨_, rfl⟩
  have hlv : ∀ k, k < 24 → a_X3_hold u (4 + k) = nI t → mb (a_X3_living u) (k / 4) = true := by
    intro k hk hz
    cases hl : mb (a_X3_living u) (k / 4) with
    | true => rfl
    | false =>
      have := q5 (k / 4) (by omega) hl (k % 4) (by omega)
      rw [show 4 + 4 * (k / 4) + k % 4 = 4 + k by omega, hz] at this
      exact absurd this (nI_ne (by omega))
  have key := lf_cnt (fun n k c => s_L_truth_l5 F 48 28 th sl (nI t) n c (nI k)) 28 (fun c => s_L_truth_b52 F 48 28 th sl (nI t) c) p 0 (n := F) (by omega) (fun n c => by
    rw [e_L_truth_l5, if_pos (by decide)]) (fun n k c hk => by
    rw [e_L_truth_l5, if_neg (il_nle hk (by decide)), if_pos (ni_lx (show k < 28 by omega) (by decide)), ni_nat (by omega), ni_1, Int32.add_zero]
    by_cases h24 : k < 24
    · have hpk : p k = (a_X3_hold u (4 + k) == nI t) := by rw [hp]; exact if_pos h24
      rw [q2 k h24, hpk]
      by_cases hc : a_X3_hold u (4 + k) = nI t
      · rw [if_pos hc, if_neg (show ¬ (24 : Int32) ≤ nI k from il_nle h24 (by decide)), ni_d4 k hk, e_lives F th (by omega), Option.bind_some, q1 _ (by omega), hlv k h24 hc, if_pos rfl, if_pos (by simpa using hc)]
      · rw [if_neg hc, if_neg (by simpa using hc)]
    · have hpk : p k = (a_X3_hold u (k - 24) == nI t) := by rw [hp]; exact if_neg h24
      have h3 := q3 (k - 24) (by omega)
      rw [show 24 + (k - 24) = k by omega] at h3
      rw [h3, hpk]
      by_cases hc : a_X3_hold u (k - 24) = nI t
      · rw [if_pos hc, if_pos (show (24 : Int32) ≤ nI k from (ni_le (a := 24) (by omega) (by omega)).mpr (by omega)), if_pos (by simpa using hc)]
      · rw [if_neg hc, if_neg (by simpa using hc)])
  have e1 : cn p 28 = cn (fun k => a_X3_hold u k == nI t) 100 := by
    have a1 : cn p 28 = cn p 24 + cn (fun k => p (24 + k)) 4 := cn_add p 24 4
    have a2 : cn (fun k => a_X3_hold u k == nI t) 100 = cn (fun k => a_X3_hold u k == nI t) 4 + cn (fun k => a_X3_hold u (4 + k) == nI t) 96 := cn_add (fun k => a_X3_hold u k == nI t) 4 96
    have a3 : cn (fun k => a_X3_hold u (4 + k) == nI t) 96 = cn (fun k => a_X3_hold u (4 + k) == nI t) 24 + cn (fun k => a_X3_hold u (4 + (24 + k)) == nI t) 72 := cn_add (fun k => a_X3_hold u (4 + k) == nI t) 24 72
    have a4 : cn (fun k => a_X3_hold u (4 + (24 + k)) == nI t) 72 = 0 := cn_zero 72 fun k hk => by
      have hl : mb (a_X3_living u) (6 + k / 4) = false := by
        cases hl : mb (a_X3_living u) (6 + k / 4) with
        | false => rfl
        | true => have := q6 _ hl; omega
      have := q5 (6 + k / 4) (by omega) hl (k % 4) (by omega)
      rw [show 4 + 4 * (6 + k / 4) + k % 4 = 4 + (24 + k) by omega] at this
      rw [this]
      exact beq_eq_false_iff_ne.mpr fun z => nI_ne (by omega) z.symm
    have a5 : cn p 24 = cn (fun k => a_X3_hold u (4 + k) == nI t) 24 := cn_congr 24 fun k hk => by rw [hp]; exact if_pos hk
    have a6 : cn (fun k => p (24 + k)) 4 = cn (fun k => a_X3_hold u k == nI t) 4 := cn_congr 4 fun k hk => by
      rw [hp]
      show (if 24 + k < 24 then _ else a_X3_hold u (24 + k - 24) == nI t) = _
      rw [if_neg (by omega), show 24 + k - 24 = k by omega]
    omega
  rw [Nat.zero_add, e1] at key
  have key' : s_L_truth F 48 28 th sl (nI t) = s_L_truth_b52 F 48 28 th sl (nI t) (nI (cn (fun k => a_X3_hold u k == nI t) 100)) := key
  rw [key']
  unfold s_L_truth_b52
  rw [e_lives F th ht, Option.bind_some, q1 t ht]
  cases mb (a_X3_living u) t <;> rfl
theorem e_bits {F : Nat} (hF : 6400 < F) (s : Int32) : s_L_bits F s = some (nI (cn (mb s) 6)) := by
  have := lf_cnt (fun n k c => s_L_bits_l4 F s n c (nI k)) 6 (fun c => some c) (mb s) 0 (n := F) (by omega) (fun n c => by
    rw [e_L_bits_l4, if_pos (by decide)]) (fun n k c hk => by
    rw [e_L_bits_l4, if_neg (il_nle hk (by decide)), mb_bit s (by omega), ni_1]
    cases mb s k with
    | true => rw [if_pos rfl, if_pos rfl]
    | false => rw [if_neg Bool.false_ne_true, if_neg Bool.false_ne_true, Int32.add_zero])
  rw [Nat.zero_add] at this
  exact this
