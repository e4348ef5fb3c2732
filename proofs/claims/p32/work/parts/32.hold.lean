/-! Holdings, in clean words -/
def hOK (f : Nat → Int32) (n : Nat) : Prop := ∀ k, k < 100 → f k = -1 ∨ ∃ t, t < n ∧ f k = nI t
theorem nI_ne {t : Nat} (h : t < 2147483648) : ¬ nI t = -1 := by
  intro q
  have := congrArg Int32.toInt q
  rw [ni_int h] at this
  have h2 : (-1 : Int32).toInt = -1 := rfl
  rw [h2] at this
  omega
theorem x0_at (F : Nat) (f : S_X0) {k : Nat} (h : k < 100) : s_X0_at F f (nI k) = some (f k) := by
  unfold s_X0_at
  rw [if_neg (ni_nneg (by omega)), if_neg (il_nle h (by decide)), if_pos (ni_lx h (by decide)), ni_nat (by omega)]
theorem x0_at_none (F : Nat) (f : S_X0) : s_X0_at F f (-1) = some (-1) := rfl
theorem x0_hold (F : Nat) (f : S_X0) (v : Int32) {k : Nat} (h : k < 100) : s_X0_hold F f (nI k) v = some (upd f k v) := by
  unfold s_X0_hold
  rw [if_neg (ni_nneg (by omega)), if_neg (il_nle h (by decide)), if_pos (ni_lx h (by decide)), ni_nat (by omega)]
theorem x0_truthOf {F : Nat} (hF : 100 < F) (f : S_X0) (t : Int32) : s_X0_truthOf F f t = some (nI (cn (fun k => f k == t) 100)) := by
  have := (lf_for (fun n k (a : Nat) => s_X0_truthOf_l4 F f t n (nI a) (nI k)) 100 (fun a => some (nI a)) (fun k a => if f k == t then a + 1 else a) (fun _ _ => True)
    (fun n a _ => rfl) (fun n k a hk _ => by
      refine ⟨?_, trivial⟩
      rw [e_X0_truthOf_l4, if_neg (il_nle hk (by decide)), if_pos (ni_lx hk (by decide)), ni_nat (by omega)]
      by_cases h : f k = t
      · rw [if_pos h, if_pos (by simpa using h), ni_1, ni_1]
      · rw [if_neg h, if_neg (by simpa using h), ni_1]) 100 0 0 F rfl hF trivial).1
  rw [fr_cn0] at this
  exact this
theorem x0_taken {F : Nat} (hF : 100 < F) (f : S_X0) : s_X0_taken F f = some (nI (cn (fun k => !(f k == -1)) 100)) := by
  have := (lf_for (fun n k (a : Nat) => s_X0_taken_l4 F f n (nI a) (nI k)) 100 (fun a => some (nI a)) (fun k a => if !(f k == -1) then a + 1 else a) (fun _ _ => True)
    (fun n a _ => rfl) (fun n k a hk _ => by
      refine ⟨?_, trivial⟩
      rw [e_X0_taken_l4, if_neg (il_nle hk (by decide)), if_pos (ni_lx hk (by decide)), ni_nat (by omega)]
      by_cases h : f k = -1
      · rw [if_pos h, if_neg (by simpa using h), ni_1]
      · rw [if_neg h, if_pos (by simpa using h), ni_1, ni_1]) 100 0 0 F rfl hF trivial).1
  rw [fr_cn0] at this
  exact this
theorem ni_own : ∀ k, k < 96 → (nI (4 + k) - 4) / 4 = nI (k / 4) := by decide +kernel
theorem x0_slots {F : Nat} (hF : 100 < F) (f : S_X0) (t o : Int32) : s_X0_slotsThatHold F f t o = some (nI (cn (fun k => (f (4 + k) == t) && mb o (k / 4)) 96)) := by
  have := (lf_for (fun n k (a : Nat) => s_X0_slotsThatHold_l5 F f t o n (nI a) (nI (4 + k))) 96 (fun a => some (nI a)) (fun k a => if (f (4 + k) == t) && mb o (k / 4) then a + 1 else a) (fun _ _ => True)
    (fun n a _ => rfl) (fun n k a hk _ => by
      refine ⟨?_, trivial⟩
      rw [e_X0_slotsThatHold_l5, if_neg (il_nle (show 4 + k < 100 by omega) (by decide)), if_pos (ni_lx (show 4 + k < 100 by omega) (by decide)), ni_nat (by omega), ni_own k hk, st_in_mb o (by omega), ni_1 (4 + k), show 4 + k + 1 = 4 + (k + 1) by omega]
      by_cases h : f (4 + k) = t
      · rw [if_pos h]
        cases hb : mb o (k / 4) with
        | true => rw [if_pos rfl, if_pos (by simpa using h), ni_1]
        | false => rw [if_neg (by decide), if_neg (by simp)]
      · rw [if_neg h, if_neg (by simp [h])]) 96 0 0 F rfl (by omega) trivial).1
  rw [fr_cn0] at this
  exact this
/-- what lies in a row of places, save one -/
def hE (f : Nat → Int32) (w : Int32) (a m t : Nat) : Prop := ∃ k, a ≤ k ∧ k < a + m ∧ ¬ nI k = w ∧ f k = nI t
theorem ni_add (a b : Nat) : nI a + nI b = nI (a + b) := (Int32.ofNat_add a b).symm
theorem x0_among {F : Nat} (hF : 100 < F) {f : S_X0} (hf : hOK f 24) (w : Int32) {a m : Nat} (hm : a + m ≤ 100) : ∃ r, s_X0_heldAmong F f (nI a) (nI m) w = some r ∧ ∀ t, mb r t = true ↔ t < 24 ∧ hE f w a m t := by
  have key : ∀ d k r n, k + d = a + m → d < n → a ≤ k → (∀ t, mb r t = true ↔ t < 24 ∧ hE f w a (k - a) t) → ∃ r', s_X0_heldAmong_l6 F f (nI a) (nI m) w n r (nI k) = some r' ∧ ∀ t, mb r' t = true ↔ t < 24 ∧ hE f w a m t := by
    intro d
    induction d with
    | zero =>
      intro k r n hk hn ha hr
      obtain ⟨n, rfl⟩ : ∃ m, n = m + 1 := ⟨n - 1, by omega⟩
      refine ⟨r, ?_, fun t => by rw [hr t, show k - a = m by omega]⟩
      rw [e_X0_heldAmong_l6, if_neg (ni_nneg (by omega)), ni_add, if_pos ((ni_le (by omega) (by omega)).mpr (by omega))]
    | succ d ih =>
      intro k r n hk hn ha hr
      obtain ⟨n, rfl⟩ : ∃ m, n = m + 1 := ⟨n - 1, by omega⟩
      rw [e_X0_heldAmong_l6, if_neg (ni_nneg (by omega)), ni_add, if_neg (fun q => by have := (ni_le (by omega) (by omega)).mp q; omega), if_neg (il_nle (show k < 100 by omega) (by decide)), ni_1, if_pos (ni_lx (show k < 100 by omega) (by decide)), if_pos (ni_lx (show k < 100 by omega) (by decide)), ni_nat (by omega)]
      have hsame : (nI k = w ∨ f k = -1) → ∀ t, mb r t = true ↔ t < 24 ∧ hE f w a (k + 1 - a) t := by
        intro hc t
        rw [hr t]
        constructor
        · rintro ⟨h1, j, h2, h3, h4⟩; exact ⟨h1, j, h2, by omega, h4⟩
        · rintro ⟨h1, j, h2, h3, h4, h5⟩
          refine ⟨h1, j, h2, ?_, h4, h5⟩
          have : j ≠ k := by
            rintro rfl
            rcases hc with hc | hc
            · exact h4 hc
            · rw [hc] at h5; exact nI_ne (by omega) h5.symm
          omega
      by_cases h1 : nI k = w
      · rw [if_pos h1]
        exact ih (k + 1) r n (by omega) (by omega) (by omega) (hsame (Or.inl h1))
      · rw [if_neg h1]
        by_cases h2 : f k = -1
        · rw [if_pos h2]
          exact ih (k + 1) r n (by omega) (by omega) (by omega) (hsame (Or.inr h2))
        · rw [if_neg h2]
          rcases hf k (by omega) with h3 | ⟨t0, ht0, h3⟩
          · exact absurd h3 h2
          · refine ih (k + 1) _ n (by omega) (by omega) (by omega) fun t => ?_
            show mb (r ||| (1 <<< (f k &&& 31))) t = true ↔ _
            rw [h3, mb_or]
            by_cases ht : t < 32
            · rw [mb_one t0 (by omega) t ht, Bool.or_eq_true, hr t, decide_eq_true_eq]
              constructor
              · rintro (⟨h4, j, h5, h6, h7⟩ | rfl)
                · exact ⟨h4, j, h5, by omega, h7⟩
                · exact ⟨ht0, k, by omega, by omega, h1, h3⟩
              · rintro ⟨h4, j, h5, h6, h7, h8⟩
                by_cases hj : j = k
                · subst hj
                  rw [h3] at h8
                  exact Or.inr ((ni_eq (by omega) (by omega)).mp h8)
                · exact Or.inl ⟨h4, j, h5, by omega, h7, h8⟩
            · rw [mb_big _ (by omega), mb_big _ (by omega)]
              constructor
              · intro q; cases q
              · rintro ⟨h4, -⟩; omega
  exact key m a 0 F rfl (by omega) (Nat.le_refl _) (fun t => by
    rw [mb_0]
    constructor
    · intro q; cases q
    · rintro ⟨-, j, h2, h3, -⟩; omega)
