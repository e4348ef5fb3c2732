/-! sets of things as bits of an int -/
def mb (s : Int32) (t : Nat) : Bool := s.toBitVec.getLsbD t
theorem mb_or (a b : Int32) (t : Nat) : mb (a ||| b) t = (mb a t || mb b t) := by
  unfold mb; rw [Int32.toBitVec_or, BitVec.getLsbD_or]
theorem mb_and (a b : Int32) (t : Nat) : mb (a &&& b) t = (mb a t && mb b t) := by
  unfold mb; rw [Int32.toBitVec_and, BitVec.getLsbD_and]
theorem mb_not (a : Int32) {t : Nat} (h : t < 32) : mb (a ^^^ (-1)) t = !mb a t := by
  unfold mb
  rw [Int32.toBitVec_xor, BitVec.getLsbD_xor, show (-1 : Int32).toBitVec = BitVec.allOnes 32 from by decide, BitVec.getLsbD_allOnes]
  simp [h]
theorem mb_big (a : Int32) {t : Nat} (h : 32 ≤ t) : mb a t = false := BitVec.getLsbD_of_ge _ _ h
theorem mb_0 (t : Nat) : mb 0 t = false := by unfold mb; rw [show (0 : Int32).toBitVec = 0#32 from rfl]; exact BitVec.getLsbD_zero
theorem mb_ext {a b : Int32} (h : ∀ t, t < 32 → mb a t = mb b t) : a = b := by
  apply Int32.toBitVec_inj.mp
  exact BitVec.eq_of_getLsbD_eq h
theorem ni_31 : ∀ k, k < 32 → nI k &&& 31 = nI k := by decide
theorem ni_smod : ∀ k, k < 32 → ((nI k).toBitVec.smod 32).toNat = k := by decide +kernel
theorem mb_one : ∀ k, k < 32 → ∀ t, t < 32 → mb (1 <<< (nI k &&& 31)) t = decide (k = t) := by decide +kernel
theorem mb_1 : ∀ t, t < 32 → mb 1 t = decide (0 = t) := by decide
theorem mb_sr (s : Int32) {t j : Nat} (ht : t < 32) (hj : t + j < 32) : mb (s >>> (nI t &&& 31)) j = mb s (t + j) := by
  unfold mb
  rw [ni_31 t ht, Int32.toBitVec_shiftRight, BitVec.getLsbD_sshiftRight', ni_smod t ht]
  simp [hj, show ¬ 32 ≤ j by omega]
theorem mb_bit (s : Int32) {t : Nat} (ht : t < 32) : (s >>> (nI t &&& 31)) &&& 1 = if mb s t then 1 else 0 := by
  apply mb_ext
  intro j hj
  rw [mb_and, mb_1 j hj]
  by_cases h : 0 = j
  · subst h
    rw [mb_sr s ht (by omega), Nat.add_zero]
    cases mb s t <;> simp [mb_1, mb_0]
  · cases mb s t <;> simp [mb_1 j hj, mb_0, h]
theorem st_in_mb (s : Int32) {t : Nat} (ht : t < 32) : st_in s (nI t) = mb s t := by
  unfold st_in
  rw [mb_bit s ht]
  cases mb s t <;> simp
theorem mb_eq0 {s : Int32} : s = 0 ↔ ∀ t, t < 32 → mb s t = false := by
  constructor
  · intro h t _; rw [h, mb_0]
  · intro h; exact mb_ext fun t ht => by rw [h t ht, mb_0]
/-! the lowest -/
theorem bv_low {x : BitVec 32} {k : Nat} (hk : k < 32) (h1 : x.getLsbD k = true) (h0 : ∀ j, j < k → x.getLsbD j = false) : (~~~x) &&& (x - 1#32) = BitVec.ofNat 32 (2 ^ k - 1) := by
  have e : (~~~x) &&& (x - 1#32) = ~~~(x ||| -x) := by
    rw [← BitVec.not_neg]
    apply BitVec.eq_of_getLsbD_eq
    intro i hi
    rw [BitVec.getLsbD_and, BitVec.getLsbD_not, BitVec.getLsbD_not, BitVec.getLsbD_not, BitVec.getLsbD_or]
    cases x.getLsbD i <;> cases (-x).getLsbD i <;> simp only [hi, decide_true] <;> rfl
  rw [e]
  apply BitVec.eq_of_getLsbD_eq
  intro i hi
  rw [BitVec.getLsbD_not, BitVec.getLsbD_or, BitVec.getLsbD_neg, BitVec.getLsbD_ofNat, Nat.testBit_two_pow_sub_one]
  by_cases hik : i < k
  · have hn : ¬ ∃ j, j < i ∧ x.getLsbD j = true := by
      rintro ⟨j, hj, hb⟩
      rw [h0 j (by omega)] at hb
      cases hb
    rw [h0 i hik]; simp only [hi, hik, hn, decide_true, decide_false]; rfl
  · by_cases hik2 : i = k
    · subst hik2
      rw [h1]; simp only [hi, hik, decide_true, decide_false]; simp only [Bool.true_or, Bool.not_true, Bool.and_false, Bool.true_and]
    · have hn : ∃ j, j < i ∧ x.getLsbD j = true := ⟨k, by omega, h1⟩
      simp only [hi, hik, hn, decide_true, decide_false]; cases x.getLsbD i <;> rfl
theorem jd_pow : ∀ k, k < 32 → (if 0 < Int32.ofBitVec (BitVec.ofNat 32 (2 ^ k - 1)) then
    (let q := jd_nz4 (jd_nz3 (jd_nz2 (jd_nz1 (1, Int32.ofBitVec (BitVec.ofNat 32 (2 ^ k - 1))))))
    q.1 + (q.2.toUInt32 >>> (Int32.toUInt32 1 &&& Int32.toUInt32 31)).toInt32) else Int32.ofBitVec (BitVec.ofNat 32 (2 ^ k - 1)) &&& 32) = nI k := by decide +kernel
theorem ntz_low {s : Int32} {k : Nat} (hk : k < 32) (h1 : mb s k = true) (h0 : ∀ j, j < k → mb s j = false) : jd_ntz s = nI k := by
  have e : (s ^^^ -1) &&& (s - 1) = Int32.ofBitVec (BitVec.ofNat 32 (2 ^ k - 1)) := by
    apply Int32.toBitVec_inj.mp
    rw [Int32.toBitVec_and, Int32.toBitVec_xor, Int32.toBitVec_sub, show (-1 : Int32).toBitVec = BitVec.allOnes 32 from by decide, BitVec.xor_allOnes, show (1 : Int32).toBitVec = 1#32 from rfl]
    exact bv_low hk h1 h0
  unfold jd_ntz
  rw [e]
  exact jd_pow k hk
theorem mb_least {s : Int32} (h : ¬ s = 0) : ∃ k, k < 32 ∧ mb s k = true ∧ ∀ j, j < k → mb s j = false := by
  have h1 : ∃ k, k < 32 ∧ mb s k = true := by
    apply Classical.byContradiction
    intro hn
    apply h
    apply mb_eq0.mpr
    intro t ht
    cases hb : mb s t with
    | false => rfl
    | true => exact absurd ⟨t, ht, hb⟩ hn
  obtain ⟨k, hk, hb⟩ := h1
  induction k using Nat.strongRecOn with
  | ind k ih =>
    by_cases hn : ∃ j, j < k ∧ mb s j = true
    · obtain ⟨j, hj, hb2⟩ := hn
      exact ih j hj (by omega) hb2
    · refine ⟨k, hk, hb, fun j hj => ?_⟩
      cases hb2 : mb s j with
      | false => rfl
      | true => exact absurd ⟨j, hj, hb2⟩ hn
