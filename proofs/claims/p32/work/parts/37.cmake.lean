/-! the class makes a report -/
def mkA (a : Nat → Int32) (p c : Nat) (x : rw5) : Nat → Int32 := upd (upd (upd (upd (upd (va_cpy a a (5 * p) (5 * p + 5) (5 * c)) (5 * p + 0) x.1) (5 * p + 1) x.2.1) (5 * p + 2) x.2.2.1) (5 * p + 3) x.2.2.2.1) (5 * p + 4) x.2.2.2.2
theorem mkA_row (a : Nat → Int32) (p c : Nat) (x : rw5) : rwA (mkA a p c x) (5 * p) = x := by
  unfold rwA mkA upd
  simp
theorem mkA_out (a : Nat → Int32) (p c : Nat) (x : rw5) {k : Nat} (h : k < 5 * p ∨ 5 * p + 5 ≤ k) : mkA a p c x k = if 5 * p + 5 ≤ k ∧ k < 5 * p + 5 + 5 * c then a (k - 5) else a k := by
  unfold mkA
  rw [upd_ne _ _ (by omega), upd_ne _ _ (by omega), upd_ne _ _ (by omega), upd_ne _ _ (by omega), upd_ne _ _ (by omega)]
  unfold va_cpy
  split
  · congr 1; omega
  · rfl
theorem mkA_low (a : Nat → Int32) (p c : Nat) (x : rw5) {i : Nat} (h : i < p) : rwA (mkA a p c x) (5 * i) = rwA a (5 * i) := by
  unfold rwA
  rw [mkA_out _ _ _ _ (by omega), mkA_out _ _ _ _ (by omega), mkA_out _ _ _ _ (by omega), mkA_out _ _ _ _ (by omega), mkA_out _ _ _ _ (by omega), if_neg (by omega), if_neg (by omega), if_neg (by omega), if_neg (by omega), if_neg (by omega)]
theorem mkA_high (a : Nat → Int32) (p c : Nat) (x : rw5) {i : Nat} (h : p < i) (hi : i ≤ p + c) : rwA (mkA a p c x) (5 * i) = rwA a (5 * (i - 1)) := by
  unfold rwA
  rw [mkA_out _ _ _ _ (by omega), mkA_out _ _ _ _ (by omega), mkA_out _ _ _ _ (by omega), mkA_out _ _ _ _ (by omega), mkA_out _ _ _ _ (by omega), if_pos (by omega), if_pos (by omega), if_pos (by omega), if_pos (by omega), if_pos (by omega)]
  rw [show 5 * i - 5 = 5 * (i - 1) by omega, show 5 * i + 1 - 5 = 5 * (i - 1) + 1 by omega, show 5 * i + 2 - 5 = 5 * (i - 1) + 2 by omega, show 5 * i + 3 - 5 = 5 * (i - 1) + 3 by omega, show 5 * i + 4 - 5 = 5 * (i - 1) + 4 by omega]
def mkR (r : S_X1) (t p c : Nat) (x : rw5) (made : Int32) : S_X1 := m_X1_made made (m_X1_sums (upd (a_X1_sums r) t (a_X1_sums r t + x.2.2.1)) (m_X1_numbers (upd (a_X1_numbers r) t (a_X1_numbers r t + 1)) (m_X1_rows (mkA (a_X1_rows r) p c x) r)))
theorem x1_make_b73 {F : Nat} {r : S_X1} {h m : Nat} {R : Nat → rw5} (q : RR r h m R) (hm : h + m < 1200) {t : Nat} (ht : t < 24) (y d fl : Int32) {j : Nat} (hj : j ≤ m) :
    s_X1_make_b73 F r (nI t) y d fl (nI (h + m)) (nI (h + j)) = some (nI (h + m), mkR r t (h + j) (m - j) (nI (h + m), nI t, y, d, fl) (nI (h + m) + 1)) := by
  have e5 : (5 : Int32) * nI (h + j) = nI (5 * (h + j)) := by rw [show (5 : Int32) = nI 5 from rfl, ni_mul]
  have e6 : (5 : Int32) * (nI (h + m) - nI (h + j)) = nI (5 * (m - j)) := by rw [ni_sub (by omega), show (5 : Int32) = nI 5 from rfl, ni_mul]; congr 1; omega
  have a0 : nI (5 * (h + j)) + 0 = nI (5 * (h + j) + 0) := by rw [show (0 : Int32) = nI 0 from rfl, ni_add]
  have a1 : nI (5 * (h + j)) + 1 = nI (5 * (h + j) + 1) := ni_1 _
  have a2 : nI (5 * (h + j)) + 2 = nI (5 * (h + j) + 2) := by rw [show (2 : Int32) = nI 2 from rfl, ni_add]
  have a3 : nI (5 * (h + j)) + 3 = nI (5 * (h + j) + 3) := by rw [show (3 : Int32) = nI 3 from rfl, ni_add]
  have a4 : nI (5 * (h + j)) + 4 = nI (5 * (h + j) + 4) := by rw [show (4 : Int32) = nI 4 from rfl, ni_add]
  have a5 : nI (5 * (h + j)) + 5 = nI (5 * (h + j) + 5) := by rw [show (5 : Int32) = nI 5 from rfl, ni_add]
  have hcp : lf_cp (nI (5 * (h + j))) (nI (5 * (h + j) + 5)) (nI (5 * (m - j))) 6000 6000 := by
    refine ⟨ni_nneg (by omega), ni_nneg (by omega), ni_nneg (by omega), ?_, ?_⟩
    · rw [ni_nat (by omega), ni_nat (by omega)]; omega
    · rw [ni_nat (by omega), ni_nat (by omega)]; omega
  unfold s_X1_make_b73
  simp only [lf_let, e5, e6, a0, a1, a2, a3, a4, a5]
  rw [if_pos hcp, if_pos (ni_lx (show 5 * (h + j) + 0 < 6000 by omega) (by decide)), if_pos (ni_lx (show 5 * (h + j) + 1 < 6000 by omega) (by decide)), if_pos (ni_lx (show 5 * (h + j) + 2 < 6000 by omega) (by decide)), if_pos (ni_lx (show 5 * (h + j) + 3 < 6000 by omega) (by decide)), if_pos (ni_lx (show 5 * (h + j) + 4 < 6000 by omega) (by decide)), if_pos (ni_lx ht (by decide)), if_pos (ni_lx ht (by decide)), if_pos (ni_lx ht (by decide)), if_pos (ni_lx ht (by decide)),
    ni_nat (show 5 * (h + j) < 2147483648 by omega), ni_nat (show 5 * (h + j) + 0 < 2147483648 by omega), ni_nat (show 5 * (h + j) + 1 < 2147483648 by omega), ni_nat (show 5 * (h + j) + 2 < 2147483648 by omega), ni_nat (show 5 * (h + j) + 3 < 2147483648 by omega), ni_nat (show 5 * (h + j) + 4 < 2147483648 by omega), ni_nat (show 5 * (h + j) + 5 < 2147483648 by omega), ni_nat (show 5 * (m - j) < 2147483648 by omega), ni_nat (show t < 2147483648 by omega)]
  rw [q.2.1]
  rfl
theorem mkR_ok {r : S_X1} {h m : Nat} {R : Nat → rw5} (q : RR r h m R) (hm : h + m < 1200) {t : Nat} (ht : t < 24) (y d fl : Int32) {j : Nat} (hj : j ≤ m) (h1 : ∀ i x, i < j → (srt R m)[i]? = some x → du x ≤ d.toInt) (h2 : ∀ i x, j ≤ i → (srt R m)[i]? = some x → d.toInt < du x)
    {R' : Nat → rw5} (e1 : ∀ i, i < m → R' i = R i) (e2 : R' m = (nI (h + m), nI t, y, d, fl)) : RR (mkR r t (h + j) (m - j) (nI (h + m), nI t, y, d, fl) (nI (h + m) + 1)) h (m + 1) R' := by
  obtain ⟨q1, q2, q3, q4, q5, q6, q7⟩ := q
  refine ⟨q1, ?_, by omega, fun i hi => ?_, fun s hs => ?_, fun s hs => ?_, fun i hi => ?_⟩
  · show nI (h + m) + 1 = nI (h + (m + 1))
    rw [ni_1]; rfl
  · rw [srt, srt_congr m e1, e2, insR_at (r := (nI (h + m), nI t, y, d, fl)) (srt R m) j (by rw [srt_len]; exact hj) h1 h2]
    show _ = some (rwA (mkA (a_X1_rows r) (h + j) (m - j) _) (5 * (h + i)))
    by_cases c1 : i < j
    · rw [if_pos c1, q4 i (by omega), mkA_low _ _ _ _ (by omega)]
    · rw [if_neg c1]
      by_cases c2 : i = j
      · subst c2
        rw [if_pos rfl, mkA_row]
      · rw [if_neg c2, q4 (i - 1) (by omega), mkA_high _ _ _ _ (by omega) (by omega)]
        congr 3
        omega
  · show upd (a_X1_numbers r) t (a_X1_numbers r t + 1) s = _
    rw [cn, e2, cn_congr m fun i hi => by rw [e1 i hi]]
    by_cases hst : s = t
    · subst hst
      rw [upd_at, q5 s hs, ni_1, if_pos (by simp [rof])]
    · rw [upd_ne _ _ hst, q5 s hs, if_neg (by
        show ¬ (nI t == nI s) = true
        simp only [beq_iff_eq]
        intro hc
        exact hst ((ni_eq (by omega) (by omega)).mp hc).symm)]
      rfl
  · show upd (a_X1_sums r) t (a_X1_sums r t + y) s = _
    rw [sm, e2, sm_congr m fun i hi => by rw [e1 i hi]]
    by_cases hst : s = t
    · subst hst
      rw [upd_at, q6 s hs, if_pos (by simp [rof])]
      rfl
    · rw [upd_ne _ _ hst, q6 s hs, if_neg (by
        show ¬ (nI t == nI s) = true
        simp only [beq_iff_eq]
        intro hc
        exact hst ((ni_eq (by omega) (by omega)).mp hc).symm), Int32.add_zero]
  · by_cases him : i = m
    · subst him
      rw [e2]; exact ⟨t, ht, rfl⟩
    · rw [e1 i (by omega)]; exact q7 i (by omega)
theorem x1_make {F : Nat} (hF : 1300 < F) {r : S_X1} {h m : Nat} {R : Nat → rw5} (q : RR r h m R) (hm : h + m < 1200) {t : Nat} (ht : t < 24) (y d fl : Int32) : ∃ r', s_X1_make F r (nI t) y d fl = some (nI (h + m), r') ∧ ∀ R', (∀ i, i < m → R' i = R i) → R' m = (nI (h + m), nI t, y, d, fl) → RR r' h (m + 1) R' := by
  have key : ∀ j n, j ≤ m → j < n → (∀ i x, j ≤ i → (srt R m)[i]? = some x → d.toInt < du x) → ∃ r', s_X1_make_l36 F r (nI t) y d fl (nI (h + m)) n (nI (h + j)) = some (nI (h + m), r') ∧ ∀ R', (∀ i, i < m → R' i = R i) → R' m = (nI (h + m), nI t, y, d, fl) → RR r' h (m + 1) R' := by
    intro j
    induction j with
    | zero =>
      intro n hj hn h2
      obtain ⟨n, rfl⟩ : ∃ j, n = j + 1 := ⟨n - 1, by omega⟩
      refine ⟨_, by rw [e_X1_make_l36, q.1, if_pos (by rw [Nat.add_zero]; exact Int32.le_refl _), x1_make_b73 q hm ht y d fl (Nat.zero_le m)], fun R' e1 e2 => mkR_ok q hm ht y d fl (Nat.zero_le m) (fun i x hi => by omega) h2 e1 e2⟩
    | succ j ih =>
      intro n hj hn h2
      obtain ⟨n, rfl⟩ : ∃ j, n = j + 1 := ⟨n - 1, by omega⟩
      have hrow := q.2.2.2.1 j (by omega)
      have e3 : (5 : Int32) * (nI (h + (j + 1)) - 1) + 3 = nI (5 * (h + j) + 3) := by
        rw [show (1 : Int32) = nI 1 from rfl, ni_sub (by omega), show (5 : Int32) = nI 5 from rfl, ni_mul, show (3 : Int32) = nI 3 from rfl, ni_add]
        rfl
      have e4 : nI (h + (j + 1)) + (-1) = nI (h + j) := by
        have : nI (h + (j + 1)) = nI (h + j) + 1 := (ni_1 _).symm
        rw [this, Int32.add_assoc]
        exact Int32.add_zero _
      rw [e_X1_make_l36, q.1, if_neg (fun hc => by have := (ni_le (by omega) (by omega)).mp hc; omega), if_neg (fun hc => by have := (ni_le (b := 0) (by omega) (by omega)).mp hc; omega), e3, if_pos (ni_lx (show 5 * (h + j) + 3 < 6000 by omega) (by decide)), ni_nat (by omega), e4]
      have hdu : du (rwA (a_X1_rows r) (5 * (h + j))) = (a_X1_rows r (5 * (h + j) + 3)).toInt := rfl
      by_cases hc : a_X1_rows r (5 * (h + j) + 3) ≤ d
      · rw [if_pos hc]
        have hc' := Int32.le_iff_toInt_le.mp hc
        refine ⟨_, x1_make_b73 q hm ht y d fl hj, fun R' e1 e2 => mkR_ok q hm ht y d fl hj (fun i x hi hx => ?_) h2 e1 e2⟩
        by_cases hij : i = j
        · subst hij
          rw [hrow] at hx
          cases hx
          omega
        · have hord := srt_ord R m
          unfold ordR at hord
          rw [List.pairwise_iff_getElem] at hord
          have hi2 : i < (srt R m).length := by rw [srt_len]; omega
          have hj2 : j < (srt R m).length := by rw [srt_len]; omega
          have := hord i j hi2 hj2 (by omega)
          rw [List.getElem?_eq_getElem hi2] at hx
          rw [List.getElem?_eq_getElem hj2] at hrow
          cases hx
          rw [Option.some.inj hrow, hdu] at this
          omega
      · rw [if_neg hc]
        refine ih n (by omega) (by omega) fun i x hi hx => ?_
        by_cases hij : i = j
        · subst hij
          rw [hrow] at hx
          cases hx
          rw [hdu]
          have : ¬ (a_X1_rows r (5 * (h + i) + 3)).toInt ≤ d.toInt := fun hh => hc (Int32.le_iff_toInt_le.mpr hh)
          omega
        · exact h2 i x (by omega) hx
  obtain ⟨r', h1, h2⟩ := key m F (Nat.le_refl _) (by omega) (fun i x hi hx => by
    have := List.getElem?_eq_some_iff.mp hx
    obtain ⟨hl, -⟩ := this
    rw [srt_len] at hl; omega)
  refine ⟨r', ?_, h2⟩
  unfold s_X1_make
  rw [q.2.1, if_neg (ni_nneg (by omega)), if_neg (il_nle hm (by decide)), if_neg (ni_nneg (by omega)), if_pos (show nI t < 24 from (ni_lt (b := 24) (by omega) (by omega)).mpr ht)]
  exact h1
