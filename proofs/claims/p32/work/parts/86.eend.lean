/-! an end, in the engine and the model -/
theorem EM.slot {m : Nat} {v : Nat → Int32} {E : S_XE} (em : EM 6 m v E) {j : Nat} (hj : j < 24) (x : Int32) : EM 6 m (upd v (257 + j) x) (E.1, E.2.1, upd E.2.2.1 j x, E.2.2.2) := by
  obtain ⟨⟨⟨a0, a1, a2, a3, a4, a5, a6⟩, a7⟩, b, c, d1, d2, d3⟩ := em
  have lo : ∀ k, k ≠ 257 + j → upd v (257 + j) x k = v k := fun k hk => upd_ne _ _ hk
  have row : ∀ i, i < m → RV (upd v (257 + j) x) i = RV v i := fun i hi => RV_v (m := m) (fun k h1 _ => lo k (by omega)) hi
  refine ⟨⟨⟨?_, ?_, ?_, ?_, ?_, ?_, ?_⟩, fun i hi => ?_⟩, fun s hs => ?_, ⟨fun k hk => ?_, fun k hk => ?_⟩, fun i hi => ?_, fun i i' hij hi => ?_, fun i hi => ?_⟩
  · rw [lo _ (by omega)]; exact a0
  · rw [lo _ (by omega)]; exact a1
  · rw [lo _ (by omega)]; exact a2
  · rw [lo _ (by omega)]; exact a3
  · rw [lo _ (by omega)]; exact a4
  · rw [lo _ (by omega)]; exact a5
  · rw [lo _ (by omega)]; exact a6
  · rw [lo _ (by omega)]; exact a7 i hi
  · have := b s hs
    rw [lo _ (by omega), lo _ (by omega), lo _ (by omega), lo (17 + 10 * s + 3) (by omega), lo (17 + 10 * s + 5) (by omega), lo (17 + 10 * s + 6) (by omega), lo (17 + 10 * s + 7) (by omega), lo (17 + 10 * s + 8) (by omega)]
    exact this
  · show upd E.2.2.1 j x k = _
    by_cases hkj : k = j
    · subst hkj; rw [upd_at, upd_at]
    · rw [upd_ne _ _ hkj, lo _ (by omega)]; exact c.1 k hk
  · show upd E.2.2.1 j x (24 + k) = _
    rw [upd_ne _ _ (by omega), lo _ (by omega)]; exact c.2 k hk
  · rw [row i hi]; exact d1 i hi
  · rw [row i (by omega), row i' hi]; exact d2 i i' hij hi
  · rw [row i hi, lo _ (by omega)]; exact d3 i hi
theorem EM.hand {m : Nat} {v : Nat → Int32} {E : S_XE} (em : EM 6 m v E) {j : Nat} (hj : j < 4) (x : Int32) : EM 6 m (upd v (13 + j) x) (E.1, E.2.1, upd E.2.2.1 (24 + j) x, E.2.2.2) := by
  obtain ⟨⟨⟨a0, a1, a2, a3, a4, a5, a6⟩, a7⟩, b, c, d1, d2, d3⟩ := em
  have lo : ∀ k, k ≠ 13 + j → upd v (13 + j) x k = v k := fun k hk => upd_ne _ _ hk
  have row : ∀ i, i < m → RV (upd v (13 + j) x) i = RV v i := fun i hi => RV_v (m := m) (fun k h1 _ => lo k (by omega)) hi
  refine ⟨⟨⟨?_, ?_, ?_, ?_, ?_, ?_, ?_⟩, fun i hi => ?_⟩, fun s hs => ?_, ⟨fun k hk => ?_, fun k hk => ?_⟩, fun i hi => ?_, fun i i' hij hi => ?_, fun i hi => ?_⟩
  · rw [lo _ (by omega)]; exact a0
  · rw [lo _ (by omega)]; exact a1
  · rw [lo _ (by omega)]; exact a2
  · rw [lo _ (by omega)]; exact a3
  · rw [lo _ (by omega)]; exact a4
  · rw [lo _ (by omega)]; exact a5
  · rw [lo _ (by omega)]; exact a6
  · rw [lo _ (by omega)]; exact a7 i hi
  · have := b s hs
    rw [lo _ (by omega), lo _ (by omega), lo _ (by omega), lo (17 + 10 * s + 3) (by omega), lo (17 + 10 * s + 5) (by omega), lo (17 + 10 * s + 6) (by omega), lo (17 + 10 * s + 7) (by omega), lo (17 + 10 * s + 8) (by omega)]
    exact this
  · show upd E.2.2.1 (24 + j) x k = _
    rw [upd_ne _ _ (by omega), lo _ (by omega)]; exact c.1 k hk
  · show upd E.2.2.1 (24 + j) x (24 + k) = _
    by_cases hkj : k = j
    · subst hkj; rw [upd_at, upd_at]
    · rw [upd_ne _ _ (by omega), lo _ (by omega)]; exact c.2 k hk
  · rw [row i hi]; exact d1 i hi
  · rw [row i (by omega), row i' hi]; exact d2 i i' hij hi
  · rw [row i hi, lo _ (by omega)]; exact d3 i hi
theorem bit0 (s : Int32) {t : Nat} (ht : t < 32) : ((s >>> (nI t &&& 31)) &&& 1 = 0) ↔ mb s t = false := by
  rw [mb_bit s ht]
  cases mb s t with
  | true => exact ⟨fun z => absurd z (by decide), fun z => by cases z⟩
  | false => exact ⟨fun _ => rfl, fun _ => rfl⟩
/-- the slots of a thing that ends -/
theorem e_slots {F : Nat} (hF : 6400 < F) {T h t : Nat} (ht : t < 6) {mask how : Int32} (w : S_X5) (hz : ∀ o, o < 6 → zt w how o = mb mask o) :
    ∀ d k m nn mm v E, k + d = 4 → d < nn → d < mm → MB T h m v → EM 6 m v E → h + m + d ≤ 63 → (∀ j, j < 4 → v (257 + 4 * t + j) = -1 ∨ ∃ s, s < 6 ∧ v (257 + 4 * t + j) = nI s) →
      ∃ m' v' E', s_X5_ends_l94 F (nI t) how mm (m_X5_state v w) (nI k) = s_X5_ends_l164 F (nI t) how F (m_X5_state v' w) 0 0 ∧ s_L_end_l81 F (nI t) mask nn E (nI (4 * t + k)) = s_L_end_l145 F (nI t) mask F E' 0 0 ∧ MB T h m' v' ∧ EM 6 m' v' E' ∧ m' ≤ m + d ∧
        (∀ j, j < 377 → j ≠ 2 → j ≠ 3 → ¬ (257 + 4 * t ≤ j ∧ j < 257 + 4 * t + 4) → v' j = v j) := by
  intro d
  induction d with
  | zero =>
    intro k m nn mm v E hk hnn hmm mbq em hb hs
    obtain ⟨nn, rfl⟩ : ∃ j, nn = j + 1 := ⟨nn - 1, by omega⟩
    obtain ⟨mm, rfl⟩ : ∃ j, mm = j + 1 := ⟨mm - 1, by omega⟩
    obtain rfl : k = 4 := by omega
    refine ⟨m, v, E, ?_, ?_, mbq, em, Nat.le_refl _, fun _ _ _ _ _ => rfl⟩
    · rw [e_X5_ends_l94, if_pos (by decide)]
    · rw [e_L_end_l81, show (4 : Int32) = nI 4 from rfl, ni_mul, ni_add, if_pos (Int32.le_refl _)]
  | succ d ih =>
    intro k m nn mm v E hk hnn hmm mbq em hb hs
    obtain ⟨nn, rfl⟩ : ∃ j, nn = j + 1 := ⟨nn - 1, by omega⟩
    obtain ⟨mm, rfl⟩ : ∃ j, mm = j + 1 := ⟨mm - 1, by omega⟩
    have hk4 : k < 4 := by omega
    obtain ⟨v1, hv1⟩ : ∃ f, f = upd v (257 + 4 * t + k) (-1) := ⟨_, rfl⟩
    have v1lo : ∀ j, j ≠ 257 + 4 * t + k → v1 j = v j := fun j hj => by rw [hv1, upd_ne _ _ hj]
    obtain ⟨E1, hE1⟩ : ∃ E1 : S_XE, E1 = (E.1, E.2.1, upd E.2.2.1 (4 * t + k) (-1), E.2.2.2) := ⟨_, rfl⟩
    have em1 : EM 6 m v1 E1 := by
      have := em.slot (j := 4 * t + k) (by omega) (-1)
      rw [show 257 + (4 * t + k) = 257 + 4 * t + k by omega] at this
      rw [hv1, hE1]; exact this
    have mb1 : MB T h m v1 := mbq.v fun j hj => v1lo j (by omega)
    have hs1 : ∀ j, j < 4 → v1 (257 + 4 * t + j) = -1 ∨ ∃ s, s < 6 ∧ v1 (257 + 4 * t + j) = nI s := fun j hj => by
      by_cases hjk : j = k
      · left; rw [hjk, hv1, upd_at]
      · rw [v1lo _ (by omega)]; exact hs j hj
    have em' : m_X5_state (upd (a_X5_state (m_X5_state v w)) (257 + 4 * t + k) (-1)) (m_X5_state v w) = m_X5_state v1 w := by rw [hv1]
    have ey : a_X5_state (m_X5_state v w) (257 + 4 * t + k) = v (257 + 4 * t + k) := rfl
    have esl : a_XE_sl E (4 * t + k) = v (257 + 4 * t + k) := by
      have := em.2.2.1.1 (4 * t + k) (by omega)
      rw [show 257 + (4 * t + k) = 257 + 4 * t + k by omega] at this
      exact this
    have eE1 : m_XE_sl (upd (a_XE_sl E) (4 * t + k) (-1)) E = E1 := by rw [hE1]
    have hend : ¬ (4 * nI t + 4 : Int32) ≤ nI (4 * t + k) := by
      rw [show (4 : Int32) = nI 4 from rfl, ni_mul, ni_add]; exact ni_nle (by omega) (by omega)
    rw [e_X5_ends_l94, if_neg (il_nle hk4 (by decide)), x5_slotOf F _ (show 257 + 4 * t + k < 20377 by omega), Option.bind_some, ix_slot, if_pos (ni_lx (show 257 + 4 * t + k < 20377 by omega) (by decide)), ni_nat (show 257 + 4 * t + k < 2147483648 by omega), em', ey, ni_1]
    rw [e_L_end_l81, if_neg hend, if_pos (ni_lx (show 4 * t + k < 28 by omega) (by decide)), if_pos (ni_lx (show 4 * t + k < 28 by omega) (by decide)), ni_nat (show 4 * t + k < 2147483648 by omega), esl, eE1, ni_1]
    have skip : ∃ m' v' E', s_X5_ends_l94 F (nI t) how mm (m_X5_state v1 w) (nI (k + 1)) = s_X5_ends_l164 F (nI t) how F (m_X5_state v' w) 0 0 ∧ s_L_end_l81 F (nI t) mask nn E1 (nI (4 * t + k + 1)) = s_L_end_l145 F (nI t) mask F E' 0 0 ∧ MB T h m' v' ∧ EM 6 m' v' E' ∧ m' ≤ m + (d + 1) ∧
        (∀ j, j < 377 → j ≠ 2 → j ≠ 3 → ¬ (257 + 4 * t ≤ j ∧ j < 257 + 4 * t + 4) → v' j = v j) := by
      obtain ⟨m', v', E', g1, g2, g3, g4, g5, g6⟩ := ih (k + 1) m nn mm v1 E1 (by omega) (by omega) (by omega) mb1 em1 (by omega) hs1
      exact ⟨m', v', E', g1, g2, g3, g4, by omega, fun j h1 h2 h3 h4 => by rw [g6 j h1 h2 h3 h4, v1lo j (by omega)]⟩
    rcases hs k hk4 with z | ⟨s, hs6, z⟩
    · rw [z, if_pos rfl, if_pos i32_neg1]; exact skip
    · have hzs : zt (m_X5_state v1 w) how s = mb mask s := hz s hs6
      rw [z, if_neg (nI_ne (by omega)), if_neg (ni_nneg (by omega))]
      by_cases hst : nI s = nI t
      · rw [if_pos hst, if_pos hst]; exact skip
      · rw [if_neg hst, if_neg hst, x5_endsToo F _ (by omega), Option.bind_some, hzs]
        cases hG : mb mask s with
        | true =>
          rw [if_pos rfl, if_neg (fun z => by rw [(bit0 mask (by omega)).mp z] at hG; cases hG)]
          exact skip
        | false =>
          rw [if_neg Bool.false_ne_true, if_pos ((bit0 mask (by omega)).mpr hG)]
          obtain ⟨Q, R, r1, r2⟩ := EM_report (F := F) mb1 em1 (by omega) hs6 (y := -1) (Or.inr rfl)
          obtain ⟨x, hx⟩ : ∃ x : rw5, x = (v1 2, nI s, -1, v1 0 + v1 (8 + s % 3), 0) := ⟨_, rfl⟩
          have hadd := x5_addReport (F := F) (m_X5_state v1 w) (m := m) (t := s) (by omega) (by omega) (show a_X5_state (m_X5_state v1 w) 3 = nI m from mb1.2.2.2.1) (-1) 0
          have hadd' : s_X5_addReport F (m_X5_state v1 w) (nI s) (-1) 0 = some (v1 2, m_X5_state (adV v1 m x) w) := by rw [hx]; exact hadd
          rw [← hx] at r2
          have r1' : s_L_report F (a_XE_q E, a_XE_re E) (nI s) (-1) = some (Q, R) := by rw [hE1] at r1; exact r1
          rw [hadd', Option.bind_some, r1', Option.bind_some]
          have eE2 : m_XE_re (a_XQ_re (Q, R)) (m_XE_q (a_XQ_q (Q, R)) E1) = (Q, E1.2.1, E1.2.2.1, R) := rfl
          rw [eE2]
          obtain ⟨m', v', E', g1, g2, g3, g4, g5, g6⟩ := ih (k + 1) (m + 1) nn mm (adV v1 m x) (Q, E1.2.1, E1.2.2.1, R) (by omega) (by omega) (by omega) (mb1.report x) r2 (by omega) (fun j hj => by
            rw [adV_low _ _ _ (by omega) (by omega) (by omega)]; exact hs1 j hj)
          exact ⟨m', v', E', g1, g2, g3, g4, by omega, fun j h1 h2 h3 h4 => by rw [g6 j h1 h2 h3 h4, adV_low _ _ _ (by omega) (by omega) (by omega), v1lo j (by omega)]⟩
