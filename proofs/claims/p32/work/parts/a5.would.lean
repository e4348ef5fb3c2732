/-! what would be: the engine's question is answered as it asks -/
section
variable {F B T e h m : Nat} {u : S_X4} {v : Nat → Int32} {E : S_XE}
theorem KE.fx {u' : S_X4} (q : KE B T e h m (a_X4_now u) v E) (f : FX u u') : KE B T e h m (a_X4_now u') v E := by rw [f.1]; exact q
/-- the end of a thing, as the engine counts it tick by tick -/
def dE (L : Nat → Bool) : Nat → Int32
  | 0 => if L 0 then -1 else 0
  | k + 1 => if dE L k < 0 ∧ L (k + 1) = false then nI (k + 1) else dE L k
theorem dE_spec {L : Nat → Bool} {n : Nat} (hn : n < 1000) (mono : ∀ k, k < n → L k = false → L (k + 1) = false) : ∀ k, k ≤ n → (L k = true → dE L k = -1) ∧ (L k = false → (L 0 = false ∧ dE L k = 0) ∨ ∃ j, j < k ∧ L j = true ∧ L (j + 1) = false ∧ dE L k = nI (j + 1)) := by
  intro k
  induction k with
  | zero =>
    intro _
    refine ⟨fun z => ?_, fun z => Or.inl ⟨z, ?_⟩⟩
    · show (if L 0 then (-1 : Int32) else 0) = -1
      rw [if_pos z]
    · show (if L 0 then (-1 : Int32) else 0) = 0
      rw [z, if_neg Bool.false_ne_true]
  | succ k ih =>
    intro hk
    obtain ⟨i1, i2⟩ := ih (by omega)
    have hun : dE L (k + 1) = if dE L k < 0 ∧ L (k + 1) = false then nI (k + 1) else dE L k := rfl
    rw [hun]
    cases hl : L k with
    | true =>
      rw [i1 hl]
      refine ⟨fun z => ?_, fun z => Or.inr ⟨k, by omega, hl, z, ?_⟩⟩
      · rw [if_neg (fun c => by rw [z] at c; cases c.2)]
      · rw [if_pos ⟨i32_neg1, z⟩]
    | false =>
      have hk1 := mono k (by omega) hl
      refine ⟨fun z => absurd (hk1.symm.trans z) Bool.false_ne_true, fun _ => ?_⟩
      rcases i2 hl with ⟨z1, z2⟩ | ⟨j, z1, z2, z3, z4⟩
      · rw [z2, if_neg (fun c => absurd c.1 (by decide))]
        exact Or.inl ⟨z1, rfl⟩
      · rw [z4, if_neg (fun c => absurd c.1 (ni_nneg (by omega)))]
        exact Or.inr ⟨j, by omega, z2, z3, rfl⟩
theorem mono_le {L : Nat → Bool} {n : Nat} (mono : ∀ k, k < n → L k = false → L (k + 1) = false) {a : Nat} (h : L a = false) : ∀ d, a + d ≤ n → L (a + d) = false := by
  intro d
  induction d with
  | zero => intro _; exact h
  | succ d ih => intro hd; exact mono (a + d) (by omega) (ih (by omega))
theorem first_end {L : Nat → Bool} : ∀ d a, L a = true → L (a + d) = false → ∃ k, a ≤ k ∧ k < a + d ∧ L k = true ∧ L (k + 1) = false := by
  intro d
  induction d with
  | zero => intro a h1 h2; rw [Nat.add_zero, h1] at h2; cases h2
  | succ d ih =>
    intro a h1 h2
    cases hl : L (a + d) with
    | true => exact ⟨a + d, by omega, by omega, hl, h2⟩
    | false =>
      obtain ⟨k, k1, k2, k3⟩ := ih a h1 hl
      exact ⟨k, k1, by omega, k3⟩
/-- how many live and are not reached -/
theorem e_lostLoop (hF : 6400 < F) (x : S_XW) {r : Int32} (hr : s_L_held F 48 28 (a_XW_ts x) (a_XW_ss x) = some r) (v1 v2 v11 v12 : Int32) (k46 : S_XW → Int32 → Int32 → Option (Bool × S_XW)) :
    s_L_would_l102 F x v1 v2 v11 v12 k46 F 0 0 = s_L_would_b150 F k46 x v1 v2 v11 v12 (nI (cn (fun t => (a_XW_ts x (8 * t) == 1) && !mb r t) 6)) := by
  have := lf_cnt (fun n k c => s_L_would_l102 F x v1 v2 v11 v12 k46 n c (nI k)) 6 (fun c => s_L_would_b150 F k46 x v1 v2 v11 v12 c) (fun t => (a_XW_ts x (8 * t) == 1) && !mb r t) 0 (n := F) (by omega) (fun n c => by
    rw [e_L_would_l102, if_pos (by decide)]) (fun n k c hk => by
    rw [e_L_would_l102, if_neg (il_nle hk (by decide)), e_lives F _ hk, Option.bind_some, hr, Option.bind_some, ni_1, Int32.add_zero]
    cases (a_XW_ts x (8 * k) == 1) with
    | false => rw [if_neg Bool.false_ne_true, Bool.false_and, if_neg Bool.false_ne_true]
    | true =>
      rw [if_pos rfl, Bool.true_and]
      cases hm : mb r k with
      | true => rw [if_neg (fun z => by rw [(bit0 r (by omega)).mp z] at hm; cases hm), if_neg (by decide)]
      | false => rw [if_pos ((bit0 r (by omega)).mpr hm), if_pos (by decide)])
  rw [Nat.zero_add] at this
  exact this
def tW (A C : S_XE) (g : S_X4) : S_XW := (A.1, A.2.1, A.2.2.1, A.2.2.2, C.1, C.2.1, C.2.2.1, C.2.2.2, g)
theorem e_compare (hF : 6400 < F) {E0 : S_XE} (q : KE B T e h m (a_X4_now u) v E0) (nd : ND T m v) {Es : Nat → S_XE} (h0 : Es 0 = E0) {c : Nat} (hc1 : 1 ≤ c) (hc : c ≤ 30) (hE : ∀ k, k < c → s_L_tick F (Es k) = some (Es (k + 1))) (hq : ∀ k, k < 12 → E0.1 k = E.1 k) (v1 v11 v12 : Int32) (k46 : S_XW → Int32 → Int32 → Option (Bool × S_XW)) :
    ∃ u', FX u u' ∧ s_L_would_l102 F (tW E (Es c) u) v1 (nI c) v11 v12 k46 F 0 0 = k46 (tW E (Es c) u') v11 (v12 + 1) := by
  obtain ⟨y0, r0, a0, -, -, -, hr0⟩ := k_ifPassed hF q nd h0 hc1 (by omega) hE
  have f0 := FX.ah u y0
  obtain ⟨y1, r1, -, a1, -, -, -⟩ := k_ifPassed hF (q.fx f0) nd h0 hc1 (by omega) hE
  have f1 := FX.ah (m_X4_ahead y0 u) y1
  obtain ⟨y2, r2, -, -, a2, -, -⟩ := k_ifPassed hF (q.fx (f0.tr f1)) nd h0 hc1 (by omega) hE
  have f2 := FX.ah (m_X4_ahead y1 (m_X4_ahead y0 u)) y2
  obtain ⟨y3, r3, -, -, -, a3, hr3⟩ := k_ifPassed hF (q.fx ((f0.tr f1).tr f2)) nd h0 hc1 (by omega) hE
  have hrr : r3 = r0 := Option.some.inj (hr3.symm.trans hr0)
  rw [hrr] at a3
  rw [hq 3 (by omega)] at a0
  rw [hq 5 (by omega)] at a1
  refine ⟨m_X4_ahead y3 (m_X4_ahead y2 (m_X4_ahead y1 (m_X4_ahead y0 u))), ((f0.tr f1).tr f2).tr (FX.ah _ y3), ?_⟩
  have hr0' : s_L_held F 48 28 (a_XW_ts (tW E (Es c) u)) (a_XW_ss (tW E (Es c) u)) = some r0 := hr0
  rw [e_lostLoop hF _ hr0']
  have a0' : s_X4_ifPassed F (a_XW_g (tW E (Es c) u)) (nI c) 0 = _ := a0
  unfold s_L_would_b150
  rw [a0', Option.bind_some, i_3, i_5, i_2]
  have c0 : (Es c).1 3 - E.1 3 = a_XW_qs (tW E (Es c) u) 3 - a_XW_q (tW E (Es c) u) 3 := rfl
  have c1 : (Es c).1 5 - E.1 5 = a_XW_qs (tW E (Es c) u) 5 - a_XW_q (tW E (Es c) u) 5 := rfl
  have c2 : (Es c).1 2 = a_XW_qs (tW E (Es c) u) 2 := rfl
  have c3 : nI (cn (fun t => ((Es c).2.1 (8 * t) == 1) && !mb r0 t) 6) = nI (cn (fun t => (a_XW_ts (tW E (Es c) u) (8 * t) == 1) && !mb r0 t) 6) := rfl
  rw [if_pos c0, a1, Option.bind_some, if_pos c1, a2, Option.bind_some, if_pos c2, a3, Option.bind_some, if_pos c3]
  rfl
theorem e_wouldLoop (hF : 6400 < F) {E0 : S_XE} (q : KE B T e h m (a_X4_now u) v E0) (nd : ND T m v) {Es : Nat → S_XE} (h0 : Es 0 = E0) (hE : ∀ k, k < 30 → s_L_tick F (Es k) = some (Es (k + 1))) (hq : ∀ k, k < 12 → E0.1 k = E.1 k) {t c : Nat} (ht : t < 6) (hc1 : 1 ≤ c) (hc : c ≤ 30) :
    ∀ d k n g, k + d = 30 → d < n → FX u g → ∃ g', FX u g' ∧ s_L_would_l46 F (nI t) (nI c) n (tW E (Es k) g) (dE (fun k => ((Es k).2.1 (8 * t) == 1)) k) (nI (k + 1)) = s_L_would_b216 F (tW E (Es 30) g') (nI t) (dE (fun k => ((Es k).2.1 (8 * t) == 1)) 30) := by
  intro d
  induction d with
  | zero =>
    intro k n g hk hn hg
    obtain ⟨n, rfl⟩ : ∃ j, n = j + 1 := ⟨n - 1, by omega⟩
    obtain rfl : k = 30 := by omega
    exact ⟨g, hg, by rw [e_L_would_l46, if_pos (by decide)]⟩
  | succ d ih =>
    intro k n g hk hn hg
    obtain ⟨n, rfl⟩ : ∃ j, n = j + 1 := ⟨n - 1, by omega⟩
    have htk : s_L_tick F (a_XW_qs (tW E (Es k) g), a_XW_ts (tW E (Es k) g), a_XW_ss (tW E (Es k) g), a_XW_rs (tW E (Es k) g)) = some (Es (k + 1)) := hE k (by omega)
    have hst : m_XW_rs (a_XE_re (Es (k + 1))) (m_XW_ss (a_XE_sl (Es (k + 1))) (m_XW_ts (a_XE_th (Es (k + 1))) (m_XW_qs (a_XE_q (Es (k + 1))) (tW E (Es k) g)))) = tW E (Es (k + 1)) g := rfl
    have hlv : s_L_lives F 48 (a_XE_th (Es (k + 1))) (nI t) = some ((Es (k + 1)).2.1 (8 * t) == 1) := e_lives F _ ht
    have hd : dE (fun k => ((Es k).2.1 (8 * t) == 1)) (k + 1) = if dE (fun k => ((Es k).2.1 (8 * t) == 1)) k < 0 ∧ ((Es (k + 1)).2.1 (8 * t) == 1) = false then nI (k + 1) else dE (fun k => ((Es k).2.1 (8 * t) == 1)) k := rfl
    have go : ∀ p, p = dE (fun k => ((Es k).2.1 (8 * t) == 1)) (k + 1) → ∃ g', FX u g' ∧ s_L_would_b85 F (s_L_would_l46 F (nI t) (nI c) n) (tW E (Es (k + 1)) g) (nI t) (nI c) (nI (k + 1)) p = s_L_would_b216 F (tW E (Es 30) g') (nI t) (dE (fun k => ((Es k).2.1 (8 * t) == 1)) 30) := by
      intro p hp
      unfold s_L_would_b85
      by_cases hkc : k + 1 = c
      · rw [if_pos (by rw [hkc])]
        obtain ⟨g1, w1, w2⟩ := e_compare hF (E := E) (q.fx hg) nd h0 (c := c) hc1 hc (fun j hj => hE j (by omega)) hq (nI t) p (nI (k + 1)) (s_L_would_l46 F (nI t) (nI c) n)
        obtain ⟨g2, w3, w4⟩ := ih (k + 1) n g1 (by omega) (by omega) (hg.tr w1)
        refine ⟨g2, w3, ?_⟩
        have e1 : Es (k + 1) = Es c := by rw [hkc]
        rw [e1, w2, ← e1, hp, ni_1]
        exact w4
      · rw [if_neg (fun z => hkc ((ni_eq (by omega) (by omega)).mp z)), hp, ni_1]
        exact ih (k + 1) n g (by omega) (by omega) hg
    rw [e_L_would_l46, if_neg (show ¬ (30 : Int32) < nI (k + 1) from fun z => by have := (ni_lt (a := 30) (by omega) (by omega)).mp z; omega), htk, Option.bind_some, hst, hlv, Option.bind_some]
    by_cases h1 : 0 ≤ dE (fun k => ((Es k).2.1 (8 * t) == 1)) k
    · rw [if_pos h1]
      exact go _ (by rw [hd, if_neg (fun z => Int32.not_lt.mpr h1 z.1)])
    · rw [if_neg h1]
      cases h2 : ((Es (k + 1)).2.1 (8 * t) == 1) with
      | true =>
        rw [if_pos rfl]
        exact go _ (by rw [hd, if_neg (fun z => by rw [h2] at z; cases z.2)])
      | false =>
        rw [if_neg Bool.false_ne_true]
        exact go _ (by rw [hd, if_pos ⟨Int32.not_le.mp h1, h2⟩])
end
