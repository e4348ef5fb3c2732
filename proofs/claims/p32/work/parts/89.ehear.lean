/-! the engine hears -/
theorem e_first {F T m : Nat} (hF : 6400 < F) (hm : m ≤ 64) (hT : T < 2147483648) {E : S_XE} {R : Nat → rw5} (k3 : S_XE → Int32 → Option S_XE) (h0 : E.1 0 = nI T) (h2 : E.1 2 = nI m) (hp : ∀ j, j < m → PK 6 (R j) (E.2.2.2 j)) (hn : ∀ i j, i < j → j < m → (R i).1.toInt < (R j).1.toInt) :
    ∃ r, s_L_hear_l14 F E k3 F (-1) 0 = s_L_hear_b62 F k3 E r ∧ ((r = -1 ∧ ∀ j, j < m → (T : Int) < du (R j)) ∨ ∃ b, r = nI b ∧ fmR R m b ∧ du (R b) ≤ (T : Int)) := by
  have i0 : a_XE_q E (0 : Int32).toNatClampNeg = nI T := h0
  have i2 : a_XE_q E (2 : Int32).toNatClampNeg = nI m := h2
  have hd : ∀ j, j < m → (a_XE_re E j) / 2048 = (R j).2.2.2.1 := fun j hj => (hp j hj).d (by omega)
  let Q := fun (k : Nat) (r : Int32) => (r = -1 ∧ ∀ j, j < k → (T : Int) < du (R j)) ∨ ∃ b, r = nI b ∧ fmR R k b ∧ du (R b) ≤ (T : Int)
  have key : ∀ d k r n, k + d = m → d < n → Q k r → ∃ r', s_L_hear_l14 F E k3 n r (nI k) = s_L_hear_b62 F k3 E r' ∧ Q m r' := by
    intro d
    induction d with
    | zero =>
      intro k r n hk hnn hq
      obtain ⟨n, rfl⟩ : ∃ j, n = j + 1 := ⟨n - 1, by omega⟩
      obtain rfl : k = m := by omega
      exact ⟨r, by rw [e_L_hear_l14, i2, if_pos (Int32.le_refl _)], hq⟩
    | succ d ih =>
      intro k r n hk hnn hq
      obtain ⟨n, rfl⟩ : ∃ j, n = j + 1 := ⟨n - 1, by omega⟩
      have hix : lf_ix (nI k) 64 := ni_lx (show k < 64 by omega) (by decide)
      have hkn : (nI k).toNatClampNeg = k := ni_nat (by omega)
      rw [e_L_hear_l14, i2, if_neg (ni_nle (show k < m by omega) (by omega)), if_pos hix, i0]
      simp only [hkn, hd k (show k < m by omega), ni_1]
      by_cases hc : nI T < (R k).2.2.2.1
      · have hc' : (T : Int) < du (R k) := by
          have := Int32.lt_iff_toInt_lt.mp hc
          rw [ni_int hT] at this; exact this
        rw [if_pos hc]
        refine ih (k + 1) r n (by omega) (by omega) ?_
        rcases hq with ⟨q1, q2⟩ | ⟨b, q1, q2, q3⟩
        · refine Or.inl ⟨q1, fun j hj => ?_⟩
          by_cases hjk : j = k
          · subst hjk; exact hc'
          · exact q2 j (by omega)
        · refine Or.inr ⟨b, q1, ⟨by have := q2.1; omega, q2.2.1, fun j hj => ?_⟩, q3⟩
          by_cases hjk : j = k
          · subst hjk; omega
          · exact q2.2.2 j (by omega)
      · have hc' : ¬ (T : Int) < du (R k) := fun h => hc (Int32.lt_iff_toInt_lt.mpr (by rw [ni_int hT]; exact h))
        rw [if_neg hc]
        rcases hq with ⟨q1, q2⟩ | ⟨b, q1, q2, q3⟩
        · rw [q1, if_pos i32_neg1]
          refine ih (k + 1) _ n (by omega) (by omega) (Or.inr ⟨k, rfl, ⟨by omega, fun j hj => ?_, fun j hj => ?_⟩, by omega⟩)
          · have := q2 j hj; omega
          · by_cases hjk : j = k
            · subst hjk; exact Int.le_refl _
            · have := q2 j (by omega); omega
        · have hb := q2.1
          have hpk := PK.lt (by omega) (hp b (by omega)) (hp k (by omega)) (hn b k hb (by omega))
          have hbn : (nI b).toNatClampNeg = b := ni_nat (by omega)
          rw [q1, if_neg (ni_nneg (by omega)), if_pos (ni_lx (show b < 64 by omega) (by decide))]
          simp only [hbn]
          by_cases hle : a_XE_re E b ≤ a_XE_re E k
          · have hle' : du (R b) ≤ du (R k) := by
              have : ¬ a_XE_re E k < a_XE_re E b := Int32.not_lt.mpr hle
              have := mt hpk.1.mpr this
              omega
            rw [if_pos hix, if_pos hle]
            refine ih (k + 1) _ n (by omega) (by omega) (Or.inr ⟨b, rfl, ⟨by omega, q2.2.1, fun j hj => ?_⟩, q3⟩)
            by_cases hjk : j = k
            · subst hjk; exact hle'
            · exact q2.2.2 j (by omega)
          · have hle' : du (R k) < du (R b) := hpk.1.mp (Int32.not_le.mp hle)
            rw [if_pos hix, if_neg hle]
            refine ih (k + 1) _ n (by omega) (by omega) (Or.inr ⟨k, rfl, ⟨by omega, fun j hj => ?_, fun j hj => ?_⟩, by omega⟩)
            · have := q2.2.2 j (by omega); omega
            · by_cases hjk : j = k
              · subst hjk; exact Int.le_refl _
              · have := q2.2.2 j (by omega); omega
  exact key m 0 (-1) F (by omega) (by omega) (Or.inl ⟨rfl, fun j hj => by omega⟩)
theorem e_shift {F m i : Nat} (hF : 6400 < F) (hm : m < 64) (hi : i ≤ m) {q th sl re : Nat → Int32} (h2 : q 2 = nI (m + 1)) (v4 v5 v6 : Int32) (k3 : S_XE → Int32 → Option S_XE) :
    s_L_hear_l100 F v4 v5 v6 k3 F (q, th, sl, re) (nI i) = s_L_hear_b126 F k3 (q, th, sl, fun j => if i ≤ j ∧ j < m then re (j + 1) else re j) v4 v5 v6 := by
  let W : Nat → Nat → Int32 := fun K j => if i ≤ j ∧ j < K then re (j + 1) else re j
  have key : ∀ d K n, K + d = m → d < n → i ≤ K → s_L_hear_l100 F v4 v5 v6 k3 n (q, th, sl, W K) (nI K) = s_L_hear_b126 F k3 (q, th, sl, W m) v4 v5 v6 := by
    intro d
    induction d with
    | zero =>
      intro K n hK hn hiK
      obtain ⟨n, rfl⟩ : ∃ j, n = j + 1 := ⟨n - 1, by omega⟩
      obtain rfl : K = m := by omega
      have e2 : a_XE_q (q, th, sl, W K) (2 : Int32).toNatClampNeg = nI (K + 1) := h2
      rw [e_L_hear_l100, e2, ni_1, if_pos (Int32.le_refl _)]
    | succ d ih =>
      intro K n hK hn hiK
      obtain ⟨n, rfl⟩ : ∃ j, n = j + 1 := ⟨n - 1, by omega⟩
      have e2 : a_XE_q (q, th, sl, W K) (2 : Int32).toNatClampNeg = nI (m + 1) := h2
      have hw : upd (W K) K (W K (K + 1)) = W (K + 1) := by
        funext j
        by_cases hj : j = K
        · subst hj
          rw [upd_at]
          show (if i ≤ j + 1 ∧ j + 1 < j then _ else _) = (if i ≤ j ∧ j < j + 1 then _ else _)
          rw [if_neg (by omega), if_pos (by omega)]
        · rw [upd_ne _ _ hj]
          show (if i ≤ j ∧ j < K then _ else _) = (if i ≤ j ∧ j < K + 1 then _ else _)
          by_cases hc : i ≤ j ∧ j < K
          · rw [if_pos hc, if_pos (by omega)]
          · rw [if_neg hc, if_neg (by omega)]
      have hih := ih (K + 1) n (by omega) (by omega) (by omega)
      rw [e_L_hear_l100, e2, ni_1, if_neg (ni_nle (by omega) (by omega)), if_pos (ni_lx (show K + 1 < 64 by omega) (by decide)), if_pos (ni_lx (show K < 64 by omega) (by decide)), ni_nat (show K + 1 < 2147483648 by omega), ni_nat (show K < 2147483648 by omega)]
      have e5 : m_XE_re (upd (a_XE_re (q, th, sl, W K)) K (a_XE_re (q, th, sl, W K) (K + 1))) (q, th, sl, W K) = (q, th, sl, W (K + 1)) := by
        rw [← hw]
      rw [e5]
      exact hih
  have h0 : W i = re := by
    funext j
    show (if i ≤ j ∧ j < i then _ else _) = _
    rw [if_neg (by omega)]
  have := key (m - i) i F (by omega) (by omega) (Nat.le_refl _)
  rw [h0] at this
  exact this
theorem EM.drop {m i : Nat} {v : Nat → Int32} {E : S_XE} (em : EM 6 (m + 1) v E) (hi : i ≤ m) (h3 : v 3 = nI (m + 1)) : EM 6 m (drV v i m) (upd E.1 2 (E.1 2 - 1), E.2.1, E.2.2.1, fun j => if i ≤ j ∧ j < m then E.2.2.2 (j + 1) else E.2.2.2 j) := by
  obtain ⟨⟨⟨a0, a1, a2, a3, a4, a5, a6⟩, a7⟩, b, c, d1, d2, d3⟩ := em
  obtain ⟨v', hv'⟩ : ∃ v', v' = drV v i m := ⟨_, rfl⟩
  have lo : ∀ k, k < 377 → k ≠ 3 → v' k = v k := fun k hk h3 => by rw [hv']; exact drV_low _ hk h3
  have v3 : v' 3 = nI m := by rw [hv']; unfold drV; rw [if_pos rfl]
  have row : ∀ j, j < m → RV v' j = delR (RV v) i j := fun j hj => by rw [hv']; exact drV_row _ hj
  obtain ⟨Q, hQ⟩ : ∃ Q, Q = upd E.1 2 (E.1 2 - 1) := ⟨_, rfl⟩
  have Qlo : ∀ k, k ≠ 2 → Q k = E.1 k := fun k h1 => by rw [hQ, upd_ne _ _ h1]
  have Q2 : Q 2 = E.1 2 - 1 := by rw [hQ, upd_at]
  rw [← hv', ← hQ]
  refine ⟨⟨⟨?_, ?_, ?_, ?_, ?_, ?_, ?_⟩, fun i hi => ?_⟩, fun s hs => ?_, ⟨fun k hk => ?_, fun k hk => ?_⟩, fun j hj => ?_, fun j j' hij hj => ?_, fun j hj => ?_⟩
  · show Q 0 = _
    rw [Qlo _ (by omega), lo _ (by omega) (by omega)]; exact a0
  · show Q 1 = _
    rw [Qlo _ (by omega), lo _ (by omega) (by omega)]; exact a1
  · show Q 2 = _
    rw [Q2, v3, a2, h3, ← ni_1, Int32.add_sub_cancel]
  · show Q 3 = _
    rw [Qlo _ (by omega), lo _ (by omega) (by omega)]; exact a3
  · show Q 4 = _
    rw [Qlo _ (by omega), lo _ (by omega) (by omega)]; exact a4
  · show Q 5 = _
    rw [Qlo _ (by omega), lo _ (by omega) (by omega)]; exact a5
  · show Q 6 = _
    rw [Qlo _ (by omega), lo _ (by omega) (by omega)]; exact a6
  · show Q (7 + i) = _
    rw [Qlo _ (by omega), lo _ (by omega) (by omega)]; exact a7 i hi
  · have := b s hs
    rw [lo _ (by omega) (by omega), lo _ (by omega) (by omega), lo _ (by omega) (by omega), lo (17 + 10 * s + 3) (by omega) (by omega), lo (17 + 10 * s + 5) (by omega) (by omega), lo (17 + 10 * s + 6) (by omega) (by omega), lo (17 + 10 * s + 7) (by omega) (by omega), lo (17 + 10 * s + 8) (by omega) (by omega)]
    exact this
  · rw [lo _ (by omega) (by omega)]; exact c.1 k hk
  · rw [lo _ (by omega) (by omega)]; exact c.2 k hk
  · rw [row j hj]
    show PK 6 (delR (RV v) i j) (if i ≤ j ∧ j < m then E.2.2.2 (j + 1) else E.2.2.2 j)
    unfold delR
    by_cases h : j < i
    · rw [if_pos h, if_neg (by omega)]; exact d1 j (by omega)
    · rw [if_neg h, if_pos (by omega)]; exact d1 (j + 1) (by omega)
  · rw [row j (by omega), row j' hj]
    unfold delR
    by_cases h : j < i
    · rw [if_pos h]
      by_cases h' : j' < i
      · rw [if_pos h']; exact d2 j j' hij (by omega)
      · rw [if_neg h']; exact d2 j (j' + 1) (by omega) (by omega)
    · rw [if_neg h, if_neg (by omega)]; exact d2 (j + 1) (j' + 1) (by omega) (by omega)
  · rw [row j hj, lo _ (by omega) (by omega)]
    unfold delR
    by_cases h : j < i
    · rw [if_pos h]; exact d3 j (by omega)
    · rw [if_neg h]; exact d3 (j + 1) (by omega)
theorem EM.part {m : Nat} {v : Nat → Int32} {E : S_XE} (em : EM 6 m v E) {t p : Nat} (ht : t < 6) (hp : p = 2 ∨ p = 3) (x : Int32) : EM 6 m (upd v (17 + 10 * t + p) x) (E.1, upd E.2.1 (8 * t + p) x, E.2.2.1, E.2.2.2) := by
  obtain ⟨⟨⟨a0, a1, a2, a3, a4, a5, a6⟩, a7⟩, b, c, d1, d2, d3⟩ := em
  obtain ⟨v', hv'⟩ : ∃ v', v' = upd v (17 + 10 * t + p) x := ⟨_, rfl⟩
  have lo : ∀ k, k ≠ 17 + 10 * t + p → v' k = v k := fun k h1 => by rw [hv', upd_ne _ _ h1]
  have vx : v' (17 + 10 * t + p) = x := by rw [hv', upd_at]
  obtain ⟨H, hH⟩ : ∃ H, H = upd E.2.1 (8 * t + p) x := ⟨_, rfl⟩
  have Hlo : ∀ k, k ≠ 8 * t + p → H k = E.2.1 k := fun k h1 => by rw [hH, upd_ne _ _ h1]
  have Hx : H (8 * t + p) = x := by rw [hH, upd_at]
  have row : ∀ i, i < m → RV v' i = RV v i := fun i hi => RV_v (m := m) (fun k h1 _ => lo k (by omega)) hi
  rw [← hv', ← hH]
  refine ⟨⟨⟨?_, ?_, ?_, ?_, ?_, ?_, ?_⟩, fun i hi => ?_⟩, fun s hs => ?_, ⟨fun k hk => ?_, fun k hk => ?_⟩, fun i hi => ?_, fun i i' hij hi => ?_, fun i hi => ?_⟩
  · rw [lo _ (by omega)]; exact a0
  · rw [lo _ (by omega)]; exact a1
  · rw [lo _ (by omega)]; exact a2
  · rw [lo _ (by omega)]; exact a3
  · rw [lo _ (by omega)]; exact a4
  · rw [lo _ (by omega)]; exact a5
  · rw [lo _ (by omega)]; exact a6
  · rw [lo _ (by omega)]; exact a7 i hi
  · obtain ⟨b0, b1, b2, b3, b4, b5, b6⟩ := b s hs
    show H (8 * s) = _ ∧ H (8 * s + 1) = _ ∧ H (8 * s + 2) = _ ∧ H (8 * s + 3) = _ ∧ ((_ → _ ∧ _) ∧ (_ → H (8 * s + 4) = _ ∧ H (8 * s + 7) = _)) ∧ H (8 * s + 5) = _ ∧ H (8 * s + 6) = _
    rw [Hlo (8 * s) (by omega), Hlo (8 * s + 1) (by omega), Hlo (8 * s + 4) (by omega), Hlo (8 * s + 7) (by omega), Hlo (8 * s + 5) (by omega), Hlo (8 * s + 6) (by omega), lo (17 + 10 * s) (by omega), lo (17 + 10 * s + 1) (by omega), lo (17 + 10 * s + 5) (by omega), lo (17 + 10 * s + 6) (by omega), lo (17 + 10 * s + 7) (by omega), lo (17 + 10 * s + 8) (by omega)]
    refine ⟨b0, b1, ?_, ?_, b4, b5, b6⟩
    · by_cases hst : s = t ∧ p = 2
      · obtain ⟨h1, h2⟩ := hst; subst h1; subst h2; rw [Hx, vx]
      · rw [Hlo _ (by omega), lo _ (by omega)]; exact b2
    · by_cases hst : s = t ∧ p = 3
      · obtain ⟨h1, h2⟩ := hst; subst h1; subst h2; rw [Hx, vx]
      · rw [Hlo _ (by omega), lo _ (by omega)]; exact b3
  · rw [lo _ (by omega)]; exact c.1 k hk
  · rw [lo _ (by omega)]; exact c.2 k hk
  · rw [row i hi]; exact d1 i hi
  · rw [row i (by omega), row i' hi]; exact d2 i i' hij hi
  · rw [row i hi, lo _ (by omega)]; exact d3 i hi
theorem EM.found {m : Nat} {v : Nat → Int32} {E : S_XE} (em : EM 6 m v E) : EM 6 m (upd v 7 (v 7 + 1)) (upd E.1 6 (E.1 6 + 1), E.2.1, E.2.2.1, E.2.2.2) := by
  obtain ⟨⟨⟨a0, a1, a2, a3, a4, a5, a6⟩, a7⟩, b, c, d1, d2, d3⟩ := em
  have lo : ∀ k, k ≠ 7 → upd v 7 (v 7 + 1) k = v k := fun k hk => upd_ne _ _ hk
  have Qlo : ∀ k, k ≠ 6 → upd E.1 6 (E.1 6 + 1) k = E.1 k := fun k hk => upd_ne _ _ hk
  have row : ∀ i, i < m → RV (upd v 7 (v 7 + 1)) i = RV v i := fun i hi => RV_v (m := m) (fun k h1 _ => lo k (by omega)) hi
  obtain ⟨Q, hQ⟩ : ∃ Q, Q = upd E.1 6 (E.1 6 + 1) := ⟨_, rfl⟩
  have Q6 : Q 6 = E.1 6 + 1 := by rw [hQ, upd_at]
  rw [← hQ] at Qlo ⊢
  refine ⟨⟨⟨?_, ?_, ?_, ?_, ?_, ?_, ?_⟩, fun i hi => ?_⟩, fun s hs => ?_, ⟨fun k hk => ?_, fun k hk => ?_⟩, fun i hi => ?_, fun i i' hij hi => ?_, fun i hi => ?_⟩
  · show Q 0 = _
    rw [Qlo _ (by omega), lo _ (by omega)]; exact a0
  · show Q 1 = _
    rw [Qlo _ (by omega), lo _ (by omega)]; exact a1
  · show Q 2 = _
    rw [Qlo _ (by omega), lo _ (by omega)]; exact a2
  · show Q 3 = _
    rw [Qlo _ (by omega), lo _ (by omega)]; exact a3
  · show Q 4 = _
    rw [Qlo _ (by omega), lo _ (by omega)]; exact a4
  · show Q 5 = _
    rw [Qlo _ (by omega), lo _ (by omega)]; exact a5
  · show Q 6 = _
    rw [Q6, upd_at, a6]
  · show Q (7 + i) = _
    rw [Qlo _ (by omega), lo _ (by omega)]; exact a7 i hi
  · have := b s hs
    rw [lo _ (by omega), lo _ (by omega), lo _ (by omega), lo (17 + 10 * s + 3) (by omega), lo (17 + 10 * s + 5) (by omega), lo (17 + 10 * s + 6) (by omega), lo (17 + 10 * s + 7) (by omega), lo (17 + 10 * s + 8) (by omega)]
    exact this
  · rw [lo _ (by omega)]; exact c.1 k hk
  · rw [lo _ (by omega)]; exact c.2 k hk
  · rw [row i hi]; exact d1 i hi
  · rw [row i (by omega), row i' hi]; exact d2 i i' hij hi
  · rw [row i hi, lo _ (by omega)]; exact d3 i hi
