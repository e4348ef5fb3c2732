/-! counting loops; the truth in the model; a report heard, on both sides -/
theorem lf_cnt {β : Type} (f : Nat → Nat → Int32 → Option β) (N : Nat) (e : Int32 → Option β) (p : Nat → Bool) (a : Nat) {n : Nat} (hn : N < n) (hN : ∀ n c, f (n + 1) N c = e c) (hS : ∀ n k c, k < N → f (n + 1) k c = f n (k + 1) (if p k then c + 1 else c)) : f n 0 (nI a) = e (nI (a + cn p N)) := by
  have key := (lf_for (fun n k (a : Nat) => f n k (nI a)) N (fun a => e (nI a)) (fun k a => if p k then a + 1 else a) (fun _ _ => True) (fun n a _ => hN n (nI a)) (fun n k a hk _ => by
    refine ⟨?_, trivial⟩
    rw [hS n k _ hk]
    cases p k with
    | true => rw [if_pos rfl, if_pos rfl, ni_1]
    | false => rw [if_neg Bool.false_ne_true, if_neg Bool.false_ne_true]) N 0 a n (by omega) hn trivial).1
  have h := fr_cn p N 0 a
  rw [show a + cn p 0 = a from rfl, Nat.zero_add] at h
  rw [h] at key
  exact key
def G0 : Nat → Bool := fun _ => false
theorem WH0 {n : Nat} {u : S_X3} {v : Nat → Int32} (q : WH G0 n u v) {o k : Nat} (ho : o < n) (hk : k < 4) : v (257 + 4 * o + k) = a_X3_hold u (4 + 4 * o + k) := by
  rcases q.2.1 o ho k hk with z | ⟨z, -⟩
  · exact z
  · cases z
theorem WX_lv {B T n e h m : Nat} {u : S_X3} {v : Nat → Int32} (q : WB B T n e h m u v) {t : Nat} (ht : t < n) : (v (17 + 10 * t) == 1) = mb (a_X3_living u) t := by
  rw [(q.2.2.1.1 t ht).1]
  unfold bv
  cases mb (a_X3_living u) t <;> rfl
theorem x5_truth {F : Nat} (hF : 100 < F) {B T n e h m : Nat} {u : S_X3} {w : S_X5} (q : WX G0 B T n e h m u (a_X5_state w)) {t : Nat} (ht : t < n) : s_X5_truth F w (nI t) = some (if mb (a_X3_living u) t then nI (cn (fun k => a_X3_hold u k == nI t) 100) else 0) := by
  obtain ⟨qB, qH⟩ := q
  obtain ⟨he, hn, -⟩ := WB_e qB
  have h1 : a_X5_state w (1 : Int32).toNatClampNeg = nI n := qB.1.2.2.2.2.1
  let p : Nat → Bool := fun k => a_X3_hold u k == nI t
  have own : ∀ (o : Nat) (kk : Int32 → Int32 → Option Int32) (a : Nat), o < n → s_X5_truth_l51 F w (nI t) (nI o) kk F (nI a) 0 = kk (nI (a + cn (fun k => p (4 + 4 * o + k)) 4)) (nI (o + 1)) := by
    intro o kk a ho
    have hl := WX_lv qB ho
    cases hlv : mb (a_X3_living u) o with
    | true =>
      rw [hlv] at hl
      have := lf_cnt (fun n k c => s_X5_truth_l51 F w (nI t) (nI o) kk n c (nI k)) 4 (fun c => kk c (nI (o + 1))) (fun k => p (4 + 4 * o + k)) a (n := F) (by omega) (fun n c => by rw [e_X5_truth_l51, if_pos (by decide), ni_1]) (fun n k c hk => by
        rw [e_X5_truth_l51, if_neg (il_nle hk (by decide)), x5_lives F _ (by omega), Option.bind_some, if_pos hl, x5_slotOf F _ (by omega), Option.bind_some, WH0 qH ho hk, ni_1]
        show _ = s_X5_truth_l51 F w (nI t) (nI o) kk n (if (a_X3_hold u (4 + 4 * o + k) == nI t) then c + 1 else c) (nI (k + 1))
        by_cases hc : a_X3_hold u (4 + 4 * o + k) = nI t
        · rw [if_pos hc, if_pos (by simpa using hc)]
        · rw [if_neg hc, if_neg (by simpa using hc), Int32.add_zero])
      exact this
    | false =>
      rw [hlv] at hl
      have hz : cn (fun k => p (4 + 4 * o + k)) 4 = 0 := cn_zero 4 fun k hk => by
        show (a_X3_hold u (4 + 4 * o + k) == nI t) = false
        rw [qH.2.2.2 o (by omega) hlv k hk]
        exact beq_eq_false_iff_ne.mpr fun z => nI_ne (by omega) z.symm
      rw [hz]
      obtain ⟨F', rfl⟩ : ∃ F', F = F' + 1 := ⟨F - 1, by omega⟩
      have h0 : s_X5_truth_l51 (F' + 1) w (nI t) (nI o) kk (F' + 1) (nI a) 0 = _ := e_X5_truth_l51 (F' + 1) w (nI t) (nI o) kk F' (nI a) 0
      rw [h0, if_neg (by decide), x5_lives _ _ (by omega), Option.bind_some, if_neg (by rw [hl]; decide), ni_1]
      rfl
  have owners : ∀ d o nn, o + d = n → d < nn → s_X5_truth_l38 F w (nI t) nn (nI (cn p (4 + 4 * o))) (nI o) = s_X5_truth_b96 F w (nI t) (nI (cn p (4 + 4 * n))) := by
    intro d
    induction d with
    | zero =>
      intro o nn ho hnn
      obtain ⟨nn, rfl⟩ : ∃ j, nn = j + 1 := ⟨nn - 1, by omega⟩
      obtain rfl : o = n := by omega
      rw [e_X5_truth_l38, h1, if_pos (Int32.le_refl _)]
    | succ d ih =>
      intro o nn ho hnn
      obtain ⟨nn, rfl⟩ : ∃ j, nn = j + 1 := ⟨nn - 1, by omega⟩
      rw [e_X5_truth_l38, h1, if_neg (ni_nle (show o < n by omega) (by omega)), own o _ _ (by omega), ← cn_add p (4 + 4 * o) 4, show 4 + 4 * o + 4 = 4 + 4 * (o + 1) by omega]
      exact ih (o + 1) nn (by omega) (by omega)
  have hands := lf_cnt (fun n k c => s_X5_truth_l4 F w (nI t) n c (nI k)) 4 (fun c => s_X5_truth_l38 F w (nI t) F c 0) p 0 (n := F) (by omega) (fun n c => by rw [e_X5_truth_l4, if_pos (by decide)]) (fun n k c hk => by
    rw [e_X5_truth_l4, if_neg (il_nle hk (by decide)), ni_13, if_pos (ni_lx (show 13 + k < 20377 by omega) (by decide)), ni_nat (by omega), qH.1 k hk, ni_1]
    show _ = s_X5_truth_l4 F w (nI t) n (if (a_X3_hold u k == nI t) then c + 1 else c) (nI (k + 1))
    by_cases hc : a_X3_hold u k = nI t
    · rw [if_pos hc, if_pos (by simpa using hc)]
    · rw [if_neg hc, if_neg (by simpa using hc), Int32.add_zero])
  have all : cn p (4 + 4 * n) = cn p 100 := by
    have := cn_add p (4 + 4 * n) (96 - 4 * n)
    rw [show 4 + 4 * n + (96 - 4 * n) = 100 by omega, cn_zero (96 - 4 * n) fun k hk => by
      show (a_X3_hold u (4 + 4 * n + k) == nI t) = false
      have hlv : mb (a_X3_living u) (n + k / 4) = false := by
        cases hl : mb (a_X3_living u) (n + k / 4) with
        | false => rfl
        | true => have := qB.2.2.2.1.1 _ hl; omega
      have := qH.2.2.2 (n + k / 4) (by omega) hlv (k % 4) (by omega)
      rw [show 4 + 4 * (n + k / 4) + k % 4 = 4 + 4 * n + k by omega] at this
      rw [this]
      exact beq_eq_false_iff_ne.mpr fun z => nI_ne (by omega) z.symm] at this
    omega
  have h2 := owners n 0 F (by omega) (by omega)
  have hands' : s_X5_truth F w (nI t) = s_X5_truth_l38 F w (nI t) F (nI (0 + cn p 4)) 0 := hands
  rw [Nat.zero_add] at hands'
  have h2' : s_X5_truth_l38 F w (nI t) F (nI (cn p 4)) 0 = _ := h2
  rw [hands', h2', all]
  unfold s_X5_truth_b96
  rw [x5_lives F _ (by omega), Option.bind_some, WX_lv qB ht]
  cases mb (a_X3_living u) t <;> rfl
theorem i32_add {a b : Int32} (h1 : -2147483648 ≤ a.toInt + b.toInt) (h2 : a.toInt + b.toInt < 2147483648) : (a + b).toInt = a.toInt + b.toInt := by
  rw [Int32.toInt_add]
  exact Int.bmod_eq_of_le (by omega) (by omega)
theorem i32_1 : (1 : Int32).toInt = 1 := rfl
theorem i32_m1 : (-1 : Int32).toInt = -1 := rfl
