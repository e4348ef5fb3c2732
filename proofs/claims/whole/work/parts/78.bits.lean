/-! a share's bits -/
def bt (r l : Nat) : Bool :=
  decide (lf_n64 (FP.ddiv (FP.i2d (nI r)) (FP.i2d (nI l)))) && (match (if 0 < Op.cmpValue (FP.dcmp (FP.ddiv (FP.i2d (nI r)) (FP.i2d (nI l))) FP.dconst0) .g then s_X4_bitsOf_l18 0 70 (FP.ddiv (FP.i2d (nI r)) (FP.i2d (nI l))) 1023 0 else some 0), (if nI r = 0 then some 0 else s_X5_doubleBits_l12 0 (nI l) 70 ((nI r).toInt64) 0) with
    | some a, some b => decide (a = b)
    | _, _ => false)
theorem bt_all : ((List.range 25).all fun l => (List.range (l + 1)).all fun r => l == 0 || bt r l) = true := by decide +kernel
theorem bt_at {r l : Nat} (h1 : 1 ≤ l) (h2 : l ≤ 24) (h3 : r ≤ l) : bt r l = true := by
  have a := List.all_eq_true.mp (List.all_eq_true.mp bt_all l (List.mem_range.mpr (by omega))) r (List.mem_range.mpr (by omega))
  rcases (Bool.or_eq_true _ _).mp a with z | z
  · have : l = 0 := by simpa using z
    omega
  · exact z
theorem bo_more (F : Nat) : ∀ (n k : Nat) (v2 : UInt64) (v4 : Int64) (v6 : Int32) (x : Int64), s_X4_bitsOf_l18 0 n v2 v4 v6 = some x → s_X4_bitsOf_l18 F (n + k) v2 v4 v6 = some x := by
  intro n
  induction n with
  | zero => intro k v2 v4 v6 x h; cases h
  | succ n ih =>
    intro k v2 v4 v6 x h
    rw [show n + 1 + k = (n + k) + 1 by omega, e_X4_bitsOf_l18]
    rw [e_X4_bitsOf_l18] at h
    by_cases h1 : 64 ≤ v6
    · rw [if_pos h1] at h ⊢; exact h
    · rw [if_neg h1] at h ⊢
      by_cases h2 : 0 ≤ (Op.cmpValue (FP.dcmp v2 FP.dconst1) .g)
      · rw [if_pos h2] at h ⊢; exact h
      · rw [if_neg h2] at h ⊢
        by_cases h3 : lf_n64 (FP.dmul v2 4611686018427387904)
        · rw [if_pos h3] at h ⊢; exact ih k _ _ _ x h
        · rw [if_neg h3] at h; cases h
theorem db_more (F : Nat) : ∀ (n k : Nat) (v1 : Int32) (v2 : Int64) (v4 : Int32) (x : Int64), s_X5_doubleBits_l12 0 v1 n v2 v4 = some x → s_X5_doubleBits_l12 F v1 (n + k) v2 v4 = some x := by
  intro n
  induction n with
  | zero => intro k v1 v2 v4 x h; cases h
  | succ n ih =>
    intro k v1 v2 v4 x h
    rw [show n + 1 + k = (n + k) + 1 by omega, e_X5_doubleBits_l12]
    rw [e_X5_doubleBits_l12] at h
    by_cases h1 : 0 ≤ (lg_cmp v2 (((v1 : Int32).toInt64) <<< ((52 : Int32).toInt64 &&& 63)))
    · rw [if_pos h1] at h ⊢; exact h
    · rw [if_neg h1] at h ⊢; exact ih k _ _ _ x h
theorem x_bits {F r l : Nat} (hF : 6400 < F) (h1 : 1 ≤ l) (h2 : l ≤ 24) (h3 : r ≤ l) : lf_n64 (FP.ddiv (FP.i2d (nI r)) (FP.i2d (nI l))) ∧ ∃ b, s_X4_bitsOf F (FP.ddiv (FP.i2d (nI r)) (FP.i2d (nI l))) = some b ∧ s_X5_doubleBits F (nI r) (nI l) = some b := by
  have a := bt_at h1 h2 h3
  unfold bt at a
  rw [Bool.and_eq_true] at a
  refine ⟨of_decide_eq_true a.1, ?_⟩
  obtain ⟨k, hk⟩ : ∃ k, F = 70 + k := ⟨F - 70, by omega⟩
  have a2 := a.2
  obtain ⟨q, hq⟩ : ∃ q, q = FP.ddiv (FP.i2d (nI r)) (FP.i2d (nI l)) := ⟨_, rfl⟩
  rw [← hq] at a2 ⊢
  obtain ⟨A, hA⟩ : ∃ A, A = (if 0 < Op.cmpValue (FP.dcmp q FP.dconst0) .g then s_X4_bitsOf_l18 0 70 q 1023 0 else some 0) := ⟨_, rfl⟩
  obtain ⟨D, hD⟩ : ∃ D, D = (if nI r = 0 then some 0 else s_X5_doubleBits_l12 0 (nI l) 70 ((nI r).toInt64) 0) := ⟨_, rfl⟩
  rw [← hA, ← hD] at a2
  cases A with
  | none => cases a2
  | some x =>
    cases D with
    | none => cases a2
    | some y =>
      obtain rfl : x = y := of_decide_eq_true a2
      refine ⟨x, ?_, ?_⟩
      · unfold s_X4_bitsOf
        by_cases c : 0 < Op.cmpValue (FP.dcmp q FP.dconst0) .g
        · rw [if_pos c] at hA ⊢
          have := bo_more F 70 k _ _ _ _ hA.symm
          rw [← hk] at this
          exact this
        · rw [if_neg c] at hA ⊢
          exact hA.symm
      · unfold s_X5_doubleBits
        by_cases c : nI r = 0
        · rw [if_pos c] at hD ⊢
          exact hD.symm
        · rw [if_neg c] at hD ⊢
          have := db_more F 70 k _ _ _ _ hD.symm
          rw [← hk] at this
          exact this
